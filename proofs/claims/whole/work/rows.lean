section
-- ===== PART A: goes FIRST, ahead of the names: the tables' words, and 'selects' of the private methods out of them =====
/-- a private method of a class that the tables say can be made, by its rows of tables_1 -/
def lw_okq (q : MethodName × Nat) : Prop := (q.1.cls ≠ "java/lang/invoke/MethodHandle" ∧ q.1.cls ≠ "java/lang/invoke/VarHandle") ∧ Cond.instantiable q.1.cls q.2 ∈ tables_1 ∧ Cond.privateMethod q.1 ∈ tables_1 ∧ Cond.instanceMethod q.1 ∈ tables_1
theorem lw_p0 : lw_okq (⟨"TideBoats", "recorded", "(I)I"⟩, 6) := ⟨⟨by decide +kernel, by decide +kernel⟩, List.mem_of_getElem? (i := 15) (by decide +kernel), List.mem_of_getElem? (i := 228) (by decide +kernel), List.mem_of_getElem? (i := 229) (by decide +kernel)⟩
theorem lw_p1 : lw_okq (⟨"TideBoats$History", "dropOldest", "()V"⟩, 4) := ⟨⟨by decide +kernel, by decide +kernel⟩, List.mem_of_getElem? (i := 148) (by decide +kernel), List.mem_of_getElem? (i := 236) (by decide +kernel), List.mem_of_getElem? (i := 237) (by decide +kernel)⟩
theorem lw_p2 : lw_okq (⟨"TideBoats$History", "slotAt", "(I)LTideBoats$State;"⟩, 4) := ⟨⟨by decide +kernel, by decide +kernel⟩, List.mem_of_getElem? (i := 148) (by decide +kernel), List.mem_of_getElem? (i := 240) (by decide +kernel), List.mem_of_getElem? (i := 241) (by decide +kernel)⟩
theorem lw_p3 : lw_okq (⟨"TideBoats$Rules", "isWayOpen", "(III)Z"⟩, 1) := ⟨⟨by decide +kernel, by decide +kernel⟩, List.mem_of_getElem? (i := 109) (by decide +kernel), List.mem_of_getElem? (i := 333) (by decide +kernel), List.mem_of_getElem? (i := 334) (by decide +kernel)⟩
theorem lw_p4 : lw_okq (⟨"TideBoats$Rules", "isBoatInWay", "(III)Z"⟩, 1) := ⟨⟨by decide +kernel, by decide +kernel⟩, List.mem_of_getElem? (i := 109) (by decide +kernel), List.mem_of_getElem? (i := 345) (by decide +kernel), List.mem_of_getElem? (i := 346) (by decide +kernel)⟩
theorem lw_p5 : lw_okq (⟨"TideBoats$Rules", "ram", "(I)I"⟩, 1) := ⟨⟨by decide +kernel, by decide +kernel⟩, List.mem_of_getElem? (i := 109) (by decide +kernel), List.mem_of_getElem? (i := 353) (by decide +kernel), List.mem_of_getElem? (i := 354) (by decide +kernel)⟩
theorem lw_p6 : lw_okq (⟨"TideBoats$Rules", "endTurn", "()V"⟩, 1) := ⟨⟨by decide +kernel, by decide +kernel⟩, List.mem_of_getElem? (i := 109) (by decide +kernel), List.mem_of_getElem? (i := 357) (by decide +kernel), List.mem_of_getElem? (i := 358) (by decide +kernel)⟩
theorem lw_p7 : lw_okq (⟨"TideBoats", "doOrder", "(I)I"⟩, 6) := ⟨⟨by decide +kernel, by decide +kernel⟩, List.mem_of_getElem? (i := 15) (by decide +kernel), List.mem_of_getElem? (i := 551) (by decide +kernel), List.mem_of_getElem? (i := 552) (by decide +kernel)⟩
theorem lw_p8 : lw_okq (⟨"TideBoats", "movesOfMover", "()I"⟩, 6) := ⟨⟨by decide +kernel, by decide +kernel⟩, List.mem_of_getElem? (i := 15) (by decide +kernel), List.mem_of_getElem? (i := 660) (by decide +kernel), List.mem_of_getElem? (i := 661) (by decide +kernel)⟩
theorem lw_p9 : lw_okq (⟨"TideBoats$HomeSearch", "wetCells", "(I)J"⟩, 7) := ⟨⟨by decide +kernel, by decide +kernel⟩, List.mem_of_getElem? (i := 119) (by decide +kernel), List.mem_of_getElem? (i := 698) (by decide +kernel), List.mem_of_getElem? (i := 699) (by decide +kernel)⟩
theorem lw_p10 : lw_okq (⟨"TideBoats$HomeSearch", "goalsOf", "(JJ)J"⟩, 7) := ⟨⟨by decide +kernel, by decide +kernel⟩, List.mem_of_getElem? (i := 119) (by decide +kernel), List.mem_of_getElem? (i := 704) (by decide +kernel), List.mem_of_getElem? (i := 705) (by decide +kernel)⟩
theorem lw_p11 : lw_okq (⟨"TideBoats$HomeSearch", "wreckingCells", "(I)J"⟩, 7) := ⟨⟨by decide +kernel, by decide +kernel⟩, List.mem_of_getElem? (i := 119) (by decide +kernel), List.mem_of_getElem? (i := 715) (by decide +kernel), List.mem_of_getElem? (i := 716) (by decide +kernel)⟩
theorem lw_p12 : lw_okq (⟨"TideBoats$HomeSearch", "cellsThatLeadHome", "(II)J"⟩, 7) := ⟨⟨by decide +kernel, by decide +kernel⟩, List.mem_of_getElem? (i := 119) (by decide +kernel), List.mem_of_getElem? (i := 723) (by decide +kernel), List.mem_of_getElem? (i := 724) (by decide +kernel)⟩
theorem lw_p13 : lw_okq (⟨"TideBoats$HomeSearch", "startsFor", "(JJ)J"⟩, 7) := ⟨⟨by decide +kernel, by decide +kernel⟩, List.mem_of_getElem? (i := 119) (by decide +kernel), List.mem_of_getElem? (i := 727) (by decide +kernel), List.mem_of_getElem? (i := 728) (by decide +kernel)⟩
theorem lw_p14 : lw_okq (⟨"TideBoats", "worthOf", "(III)I"⟩, 6) := ⟨⟨by decide +kernel, by decide +kernel⟩, List.mem_of_getElem? (i := 15) (by decide +kernel), List.mem_of_getElem? (i := 741) (by decide +kernel), List.mem_of_getElem? (i := 742) (by decide +kernel)⟩
theorem lw_p15 : lw_okq (⟨"TideBoatsModel", "copies", "()V"⟩, 11) := ⟨⟨by decide +kernel, by decide +kernel⟩, List.mem_of_getElem? (i := 752) (by decide +kernel), List.mem_of_getElem? (i := 797) (by decide +kernel), List.mem_of_getElem? (i := 798) (by decide +kernel)⟩
def lw_privs_1 : List (MethodName × Nat) := [(⟨"TideBoats", "recorded", "(I)I"⟩, 6), (⟨"TideBoats$History", "dropOldest", "()V"⟩, 4), (⟨"TideBoats$History", "slotAt", "(I)LTideBoats$State;"⟩, 4), (⟨"TideBoats$Rules", "isWayOpen", "(III)Z"⟩, 1), (⟨"TideBoats$Rules", "isBoatInWay", "(III)Z"⟩, 1), (⟨"TideBoats$Rules", "ram", "(I)I"⟩, 1), (⟨"TideBoats$Rules", "endTurn", "()V"⟩, 1), (⟨"TideBoats", "doOrder", "(I)I"⟩, 6), (⟨"TideBoats", "movesOfMover", "()I"⟩, 6), (⟨"TideBoats$HomeSearch", "wetCells", "(I)J"⟩, 7), (⟨"TideBoats$HomeSearch", "goalsOf", "(JJ)J"⟩, 7), (⟨"TideBoats$HomeSearch", "wreckingCells", "(I)J"⟩, 7), (⟨"TideBoats$HomeSearch", "cellsThatLeadHome", "(II)J"⟩, 7), (⟨"TideBoats$HomeSearch", "startsFor", "(JJ)J"⟩, 7), (⟨"TideBoats", "worthOf", "(III)I"⟩, 6), (⟨"TideBoatsModel", "copies", "()V"⟩, 11)]
theorem lw_r1 : ∀ q ∈ lw_privs_1, lw_okq q := List.forall_mem_cons.mpr ⟨lw_p0, List.forall_mem_cons.mpr ⟨lw_p1, List.forall_mem_cons.mpr ⟨lw_p2, List.forall_mem_cons.mpr ⟨lw_p3, List.forall_mem_cons.mpr ⟨lw_p4, List.forall_mem_cons.mpr ⟨lw_p5, List.forall_mem_cons.mpr ⟨lw_p6, List.forall_mem_cons.mpr ⟨lw_p7, List.forall_mem_cons.mpr ⟨lw_p8, List.forall_mem_cons.mpr ⟨lw_p9, List.forall_mem_cons.mpr ⟨lw_p10, List.forall_mem_cons.mpr ⟨lw_p11, List.forall_mem_cons.mpr ⟨lw_p12, List.forall_mem_cons.mpr ⟨lw_p13, List.forall_mem_cons.mpr ⟨lw_p14, List.forall_mem_cons.mpr ⟨lw_p15, fun _ h => absurd h List.not_mem_nil⟩⟩⟩⟩⟩⟩⟩⟩⟩⟩⟩⟩⟩⟩⟩⟩
theorem lw_p16 : lw_okq (⟨"TideBoatsModel", "sands", "(IIII)I"⟩, 11) := ⟨⟨by decide +kernel, by decide +kernel⟩, List.mem_of_getElem? (i := 752) (by decide +kernel), List.mem_of_getElem? (i := 801) (by decide +kernel), List.mem_of_getElem? (i := 802) (by decide +kernel)⟩
theorem lw_p17 : lw_okq (⟨"TideBoatsModel", "acts", "(I)I"⟩, 11) := ⟨⟨by decide +kernel, by decide +kernel⟩, List.mem_of_getElem? (i := 752) (by decide +kernel), List.mem_of_getElem? (i := 811) (by decide +kernel), List.mem_of_getElem? (i := 812) (by decide +kernel)⟩
theorem lw_p18 : lw_okq (⟨"TideBoatsModel", "remembers", "()V"⟩, 11) := ⟨⟨by decide +kernel, by decide +kernel⟩, List.mem_of_getElem? (i := 752) (by decide +kernel), List.mem_of_getElem? (i := 815) (by decide +kernel), List.mem_of_getElem? (i := 816) (by decide +kernel)⟩
theorem lw_p19 : lw_okq (⟨"TideBoatsModel", "comes", "(IIII)I"⟩, 11) := ⟨⟨by decide +kernel, by decide +kernel⟩, List.mem_of_getElem? (i := 752) (by decide +kernel), List.mem_of_getElem? (i := 823) (by decide +kernel), List.mem_of_getElem? (i := 824) (by decide +kernel)⟩
theorem lw_p20 : lw_okq (⟨"TideBoatsModel", "boatAt", "(II)I"⟩, 11) := ⟨⟨by decide +kernel, by decide +kernel⟩, List.mem_of_getElem? (i := 752) (by decide +kernel), List.mem_of_getElem? (i := 827) (by decide +kernel), List.mem_of_getElem? (i := 828) (by decide +kernel)⟩
theorem lw_p21 : lw_okq (⟨"TideBoatsModel", "its", "(III)I"⟩, 11) := ⟨⟨by decide +kernel, by decide +kernel⟩, List.mem_of_getElem? (i := 752) (by decide +kernel), List.mem_of_getElem? (i := 831) (by decide +kernel), List.mem_of_getElem? (i := 832) (by decide +kernel)⟩
theorem lw_p22 : lw_okq (⟨"TideBoatsModel", "moves", "(III)I"⟩, 11) := ⟨⟨by decide +kernel, by decide +kernel⟩, List.mem_of_getElem? (i := 752) (by decide +kernel), List.mem_of_getElem? (i := 849) (by decide +kernel), List.mem_of_getElem? (i := 850) (by decide +kernel)⟩
theorem lw_p23 : lw_okq (⟨"TideBoatsModel", "isBoat", "(II)Z"⟩, 11) := ⟨⟨by decide +kernel, by decide +kernel⟩, List.mem_of_getElem? (i := 752) (by decide +kernel), List.mem_of_getElem? (i := 853) (by decide +kernel), List.mem_of_getElem? (i := 854) (by decide +kernel)⟩
theorem lw_p24 : lw_okq (⟨"TideBoatsModel", "whyNot", "(III)I"⟩, 11) := ⟨⟨by decide +kernel, by decide +kernel⟩, List.mem_of_getElem? (i := 752) (by decide +kernel), List.mem_of_getElem? (i := 857) (by decide +kernel), List.mem_of_getElem? (i := 858) (by decide +kernel)⟩
theorem lw_p25 : lw_okq (⟨"TideBoatsModel", "reason", "(III)I"⟩, 11) := ⟨⟨by decide +kernel, by decide +kernel⟩, List.mem_of_getElem? (i := 752) (by decide +kernel), List.mem_of_getElem? (i := 861) (by decide +kernel), List.mem_of_getElem? (i := 862) (by decide +kernel)⟩
theorem lw_p26 : lw_okq (⟨"TideBoatsModel", "isOver", "(I)Z"⟩, 11) := ⟨⟨by decide +kernel, by decide +kernel⟩, List.mem_of_getElem? (i := 752) (by decide +kernel), List.mem_of_getElem? (i := 865) (by decide +kernel), List.mem_of_getElem? (i := 866) (by decide +kernel)⟩
theorem lw_p27 : lw_okq (⟨"TideBoatsModel", "onBoard", "(II)I"⟩, 11) := ⟨⟨by decide +kernel, by decide +kernel⟩, List.mem_of_getElem? (i := 752) (by decide +kernel), List.mem_of_getElem? (i := 869) (by decide +kernel), List.mem_of_getElem? (i := 870) (by decide +kernel)⟩
theorem lw_p28 : lw_okq (⟨"TideBoatsModel", "isAfloat", "(II)Z"⟩, 11) := ⟨⟨by decide +kernel, by decide +kernel⟩, List.mem_of_getElem? (i := 752) (by decide +kernel), List.mem_of_getElem? (i := 873) (by decide +kernel), List.mem_of_getElem? (i := 874) (by decide +kernel)⟩
theorem lw_p29 : lw_okq (⟨"TideBoatsModel", "floats", "(IIII)Z"⟩, 11) := ⟨⟨by decide +kernel, by decide +kernel⟩, List.mem_of_getElem? (i := 752) (by decide +kernel), List.mem_of_getElem? (i := 877) (by decide +kernel), List.mem_of_getElem? (i := 878) (by decide +kernel)⟩
theorem lw_p30 : lw_okq (⟨"TideBoatsModel", "water", "(III)I"⟩, 11) := ⟨⟨by decide +kernel, by decide +kernel⟩, List.mem_of_getElem? (i := 752) (by decide +kernel), List.mem_of_getElem? (i := 881) (by decide +kernel), List.mem_of_getElem? (i := 882) (by decide +kernel)⟩
theorem lw_p31 : lw_okq (⟨"TideBoatsModel", "tideOf", "(II)I"⟩, 11) := ⟨⟨by decide +kernel, by decide +kernel⟩, List.mem_of_getElem? (i := 752) (by decide +kernel), List.mem_of_getElem? (i := 885) (by decide +kernel), List.mem_of_getElem? (i := 886) (by decide +kernel)⟩
def lw_privs_2 : List (MethodName × Nat) := [(⟨"TideBoatsModel", "sands", "(IIII)I"⟩, 11), (⟨"TideBoatsModel", "acts", "(I)I"⟩, 11), (⟨"TideBoatsModel", "remembers", "()V"⟩, 11), (⟨"TideBoatsModel", "comes", "(IIII)I"⟩, 11), (⟨"TideBoatsModel", "boatAt", "(II)I"⟩, 11), (⟨"TideBoatsModel", "its", "(III)I"⟩, 11), (⟨"TideBoatsModel", "moves", "(III)I"⟩, 11), (⟨"TideBoatsModel", "isBoat", "(II)Z"⟩, 11), (⟨"TideBoatsModel", "whyNot", "(III)I"⟩, 11), (⟨"TideBoatsModel", "reason", "(III)I"⟩, 11), (⟨"TideBoatsModel", "isOver", "(I)Z"⟩, 11), (⟨"TideBoatsModel", "onBoard", "(II)I"⟩, 11), (⟨"TideBoatsModel", "isAfloat", "(II)Z"⟩, 11), (⟨"TideBoatsModel", "floats", "(IIII)Z"⟩, 11), (⟨"TideBoatsModel", "water", "(III)I"⟩, 11), (⟨"TideBoatsModel", "tideOf", "(II)I"⟩, 11)]
theorem lw_r2 : ∀ q ∈ lw_privs_2, lw_okq q := List.forall_mem_cons.mpr ⟨lw_p16, List.forall_mem_cons.mpr ⟨lw_p17, List.forall_mem_cons.mpr ⟨lw_p18, List.forall_mem_cons.mpr ⟨lw_p19, List.forall_mem_cons.mpr ⟨lw_p20, List.forall_mem_cons.mpr ⟨lw_p21, List.forall_mem_cons.mpr ⟨lw_p22, List.forall_mem_cons.mpr ⟨lw_p23, List.forall_mem_cons.mpr ⟨lw_p24, List.forall_mem_cons.mpr ⟨lw_p25, List.forall_mem_cons.mpr ⟨lw_p26, List.forall_mem_cons.mpr ⟨lw_p27, List.forall_mem_cons.mpr ⟨lw_p28, List.forall_mem_cons.mpr ⟨lw_p29, List.forall_mem_cons.mpr ⟨lw_p30, List.forall_mem_cons.mpr ⟨lw_p31, fun _ h => absurd h List.not_mem_nil⟩⟩⟩⟩⟩⟩⟩⟩⟩⟩⟩⟩⟩⟩⟩⟩
theorem lw_p32 : lw_okq (⟨"TideBoatsModel", "kind", "(II)I"⟩, 11) := ⟨⟨by decide +kernel, by decide +kernel⟩, List.mem_of_getElem? (i := 752) (by decide +kernel), List.mem_of_getElem? (i := 889) (by decide +kernel), List.mem_of_getElem? (i := 890) (by decide +kernel)⟩
theorem lw_p33 : lw_okq (⟨"TideBoatsModel", "wayEnd", "(IIIII)I"⟩, 11) := ⟨⟨by decide +kernel, by decide +kernel⟩, List.mem_of_getElem? (i := 752) (by decide +kernel), List.mem_of_getElem? (i := 893) (by decide +kernel), List.mem_of_getElem? (i := 894) (by decide +kernel)⟩
theorem lw_p34 : lw_okq (⟨"TideBoatsModel", "isBlocked", "(III)Z"⟩, 11) := ⟨⟨by decide +kernel, by decide +kernel⟩, List.mem_of_getElem? (i := 752) (by decide +kernel), List.mem_of_getElem? (i := 903) (by decide +kernel), List.mem_of_getElem? (i := 904) (by decide +kernel)⟩
theorem lw_p35 : lw_okq (⟨"TideBoatsModel", "passes", "(I)V"⟩, 11) := ⟨⟨by decide +kernel, by decide +kernel⟩, List.mem_of_getElem? (i := 752) (by decide +kernel), List.mem_of_getElem? (i := 907) (by decide +kernel), List.mem_of_getElem? (i := 908) (by decide +kernel)⟩
theorem lw_p36 : lw_okq (⟨"TideBoatsModel", "wrecks", "(IIII)Z"⟩, 11) := ⟨⟨by decide +kernel, by decide +kernel⟩, List.mem_of_getElem? (i := 752) (by decide +kernel), List.mem_of_getElem? (i := 911) (by decide +kernel), List.mem_of_getElem? (i := 912) (by decide +kernel)⟩
theorem lw_p37 : lw_okq (⟨"TideBoatsModel", "waits", "(I)I"⟩, 11) := ⟨⟨by decide +kernel, by decide +kernel⟩, List.mem_of_getElem? (i := 752) (by decide +kernel), List.mem_of_getElem? (i := 919) (by decide +kernel), List.mem_of_getElem? (i := 920) (by decide +kernel)⟩
theorem lw_p38 : lw_okq (⟨"TideBoatsModel", "orderEnd", "(I)I"⟩, 11) := ⟨⟨by decide +kernel, by decide +kernel⟩, List.mem_of_getElem? (i := 752) (by decide +kernel), List.mem_of_getElem? (i := 935) (by decide +kernel), List.mem_of_getElem? (i := 936) (by decide +kernel)⟩
theorem lw_p39 : lw_okq (⟨"TideBoatsModel", "sign", "(I)I"⟩, 11) := ⟨⟨by decide +kernel, by decide +kernel⟩, List.mem_of_getElem? (i := 752) (by decide +kernel), List.mem_of_getElem? (i := 939) (by decide +kernel), List.mem_of_getElem? (i := 940) (by decide +kernel)⟩
theorem lw_p40 : lw_okq (⟨"TideBoatsModel", "isSign", "(III)Z"⟩, 11) := ⟨⟨by decide +kernel, by decide +kernel⟩, List.mem_of_getElem? (i := 752) (by decide +kernel), List.mem_of_getElem? (i := 943) (by decide +kernel), List.mem_of_getElem? (i := 944) (by decide +kernel)⟩
theorem lw_p41 : lw_okq (⟨"TideBoatsModel", "cellEnd", "(I)I"⟩, 11) := ⟨⟨by decide +kernel, by decide +kernel⟩, List.mem_of_getElem? (i := 752) (by decide +kernel), List.mem_of_getElem? (i := 947) (by decide +kernel), List.mem_of_getElem? (i := 948) (by decide +kernel)⟩
theorem lw_p42 : lw_okq (⟨"TideBoatsModel", "directionOf", "(I)I"⟩, 11) := ⟨⟨by decide +kernel, by decide +kernel⟩, List.mem_of_getElem? (i := 752) (by decide +kernel), List.mem_of_getElem? (i := 951) (by decide +kernel), List.mem_of_getElem? (i := 952) (by decide +kernel)⟩
theorem lw_p43 : lw_okq (⟨"TideBoatsModel", "sandEnd", "(I)I"⟩, 11) := ⟨⟨by decide +kernel, by decide +kernel⟩, List.mem_of_getElem? (i := 752) (by decide +kernel), List.mem_of_getElem? (i := 955) (by decide +kernel), List.mem_of_getElem? (i := 956) (by decide +kernel)⟩
theorem lw_p44 : lw_okq (⟨"TideBoatsModel", "does", "(I)I"⟩, 11) := ⟨⟨by decide +kernel, by decide +kernel⟩, List.mem_of_getElem? (i := 752) (by decide +kernel), List.mem_of_getElem? (i := 964) (by decide +kernel), List.mem_of_getElem? (i := 965) (by decide +kernel)⟩
theorem lw_p45 : lw_okq (⟨"TideBoatsModel", "cellIn", "(I)I"⟩, 11) := ⟨⟨by decide +kernel, by decide +kernel⟩, List.mem_of_getElem? (i := 752) (by decide +kernel), List.mem_of_getElem? (i := 968) (by decide +kernel), List.mem_of_getElem? (i := 969) (by decide +kernel)⟩
theorem lw_p46 : lw_okq (⟨"TideBoatsModel", "movesOf", "(I)I"⟩, 11) := ⟨⟨by decide +kernel, by decide +kernel⟩, List.mem_of_getElem? (i := 752) (by decide +kernel), List.mem_of_getElem? (i := 992) (by decide +kernel), List.mem_of_getElem? (i := 993) (by decide +kernel)⟩
theorem lw_p47 : lw_okq (⟨"TideBoatsModel", "score", "(I)I"⟩, 11) := ⟨⟨by decide +kernel, by decide +kernel⟩, List.mem_of_getElem? (i := 752) (by decide +kernel), List.mem_of_getElem? (i := 1008) (by decide +kernel), List.mem_of_getElem? (i := 1009) (by decide +kernel)⟩
def lw_privs_3 : List (MethodName × Nat) := [(⟨"TideBoatsModel", "kind", "(II)I"⟩, 11), (⟨"TideBoatsModel", "wayEnd", "(IIIII)I"⟩, 11), (⟨"TideBoatsModel", "isBlocked", "(III)Z"⟩, 11), (⟨"TideBoatsModel", "passes", "(I)V"⟩, 11), (⟨"TideBoatsModel", "wrecks", "(IIII)Z"⟩, 11), (⟨"TideBoatsModel", "waits", "(I)I"⟩, 11), (⟨"TideBoatsModel", "orderEnd", "(I)I"⟩, 11), (⟨"TideBoatsModel", "sign", "(I)I"⟩, 11), (⟨"TideBoatsModel", "isSign", "(III)Z"⟩, 11), (⟨"TideBoatsModel", "cellEnd", "(I)I"⟩, 11), (⟨"TideBoatsModel", "directionOf", "(I)I"⟩, 11), (⟨"TideBoatsModel", "sandEnd", "(I)I"⟩, 11), (⟨"TideBoatsModel", "does", "(I)I"⟩, 11), (⟨"TideBoatsModel", "cellIn", "(I)I"⟩, 11), (⟨"TideBoatsModel", "movesOf", "(I)I"⟩, 11), (⟨"TideBoatsModel", "score", "(I)I"⟩, 11)]
theorem lw_r3 : ∀ q ∈ lw_privs_3, lw_okq q := List.forall_mem_cons.mpr ⟨lw_p32, List.forall_mem_cons.mpr ⟨lw_p33, List.forall_mem_cons.mpr ⟨lw_p34, List.forall_mem_cons.mpr ⟨lw_p35, List.forall_mem_cons.mpr ⟨lw_p36, List.forall_mem_cons.mpr ⟨lw_p37, List.forall_mem_cons.mpr ⟨lw_p38, List.forall_mem_cons.mpr ⟨lw_p39, List.forall_mem_cons.mpr ⟨lw_p40, List.forall_mem_cons.mpr ⟨lw_p41, List.forall_mem_cons.mpr ⟨lw_p42, List.forall_mem_cons.mpr ⟨lw_p43, List.forall_mem_cons.mpr ⟨lw_p44, List.forall_mem_cons.mpr ⟨lw_p45, List.forall_mem_cons.mpr ⟨lw_p46, List.forall_mem_cons.mpr ⟨lw_p47, fun _ h => absurd h List.not_mem_nil⟩⟩⟩⟩⟩⟩⟩⟩⟩⟩⟩⟩⟩⟩⟩⟩
theorem lw_p48 : lw_okq (⟨"TideBoatsModel", "aground", "()I"⟩, 11) := ⟨⟨by decide +kernel, by decide +kernel⟩, List.mem_of_getElem? (i := 752) (by decide +kernel), List.mem_of_getElem? (i := 1012) (by decide +kernel), List.mem_of_getElem? (i := 1013) (by decide +kernel)⟩
theorem lw_p49 : lw_okq (⟨"TideBoatsModel", "movesNow", "()I"⟩, 11) := ⟨⟨by decide +kernel, by decide +kernel⟩, List.mem_of_getElem? (i := 752) (by decide +kernel), List.mem_of_getElem? (i := 1016) (by decide +kernel), List.mem_of_getElem? (i := 1017) (by decide +kernel)⟩
theorem lw_p50 : lw_okq (⟨"TideBoatsModel", "period", "()I"⟩, 11) := ⟨⟨by decide +kernel, by decide +kernel⟩, List.mem_of_getElem? (i := 752) (by decide +kernel), List.mem_of_getElem? (i := 1025) (by decide +kernel), List.mem_of_getElem? (i := 1026) (by decide +kernel)⟩
theorem lw_p51 : lw_okq (⟨"TideBoatsModel", "forth", "(II)I"⟩, 11) := ⟨⟨by decide +kernel, by decide +kernel⟩, List.mem_of_getElem? (i := 752) (by decide +kernel), List.mem_of_getElem? (i := 1037) (by decide +kernel), List.mem_of_getElem? (i := 1038) (by decide +kernel)⟩
theorem lw_p52 : lw_okq (⟨"TideBoatsModel", "goes", "(III)Z"⟩, 11) := ⟨⟨by decide +kernel, by decide +kernel⟩, List.mem_of_getElem? (i := 752) (by decide +kernel), List.mem_of_getElem? (i := 1041) (by decide +kernel), List.mem_of_getElem? (i := 1042) (by decide +kernel)⟩
theorem lw_p53 : lw_okq (⟨"TideBoatsModel", "back", "(I)I"⟩, 11) := ⟨⟨by decide +kernel, by decide +kernel⟩, List.mem_of_getElem? (i := 752) (by decide +kernel), List.mem_of_getElem? (i := 1045) (by decide +kernel), List.mem_of_getElem? (i := 1046) (by decide +kernel)⟩
theorem lw_p54 : lw_okq (⟨"TideBoatsModel", "fewest", "(III)I"⟩, 11) := ⟨⟨by decide +kernel, by decide +kernel⟩, List.mem_of_getElem? (i := 752) (by decide +kernel), List.mem_of_getElem? (i := 1049) (by decide +kernel), List.mem_of_getElem? (i := 1050) (by decide +kernel)⟩
theorem lw_p55 : lw_okq (⟨"TideBoatsModel", "worth", "(II)I"⟩, 11) := ⟨⟨by decide +kernel, by decide +kernel⟩, List.mem_of_getElem? (i := 752) (by decide +kernel), List.mem_of_getElem? (i := 1061) (by decide +kernel), List.mem_of_getElem? (i := 1062) (by decide +kernel)⟩
def lw_privs_4 : List (MethodName × Nat) := [(⟨"TideBoatsModel", "aground", "()I"⟩, 11), (⟨"TideBoatsModel", "movesNow", "()I"⟩, 11), (⟨"TideBoatsModel", "period", "()I"⟩, 11), (⟨"TideBoatsModel", "forth", "(II)I"⟩, 11), (⟨"TideBoatsModel", "goes", "(III)Z"⟩, 11), (⟨"TideBoatsModel", "back", "(I)I"⟩, 11), (⟨"TideBoatsModel", "fewest", "(III)I"⟩, 11), (⟨"TideBoatsModel", "worth", "(II)I"⟩, 11)]
theorem lw_r4 : ∀ q ∈ lw_privs_4, lw_okq q := List.forall_mem_cons.mpr ⟨lw_p48, List.forall_mem_cons.mpr ⟨lw_p49, List.forall_mem_cons.mpr ⟨lw_p50, List.forall_mem_cons.mpr ⟨lw_p51, List.forall_mem_cons.mpr ⟨lw_p52, List.forall_mem_cons.mpr ⟨lw_p53, List.forall_mem_cons.mpr ⟨lw_p54, List.forall_mem_cons.mpr ⟨lw_p55, fun _ h => absurd h List.not_mem_nil⟩⟩⟩⟩⟩⟩⟩⟩
def lw_privs : List (MethodName × Nat) := lw_privs_1 ++ (lw_privs_2 ++ (lw_privs_3 ++ (lw_privs_4)))
def lw_tbl : List Cond := k2_sels lw_privs ++ tables_1
theorem lw_privs_ok : ∀ q ∈ lw_privs, lw_okq q := by
  show ∀ q ∈ lw_privs_1 ++ (lw_privs_2 ++ (lw_privs_3 ++ (lw_privs_4))), lw_okq q
  exact List.forall_mem_append.mpr ⟨lw_r1, List.forall_mem_append.mpr ⟨lw_r2, List.forall_mem_append.mpr ⟨lw_r3, lw_r4⟩⟩⟩
/-- the streams that the claim lets the run draw from -/
abbrev lw_cs : List Choice := [Jvm.Choice.named "NaN.bits"]
theorem lw_bits : nanBits ∈ lw_cs := by first | decide | exact List.mem_cons_self | simp [lw_cs, nanBits]
end
section
def RX0 : String := "TideBoats$History"
def TX0 : u_T := fun k => match k with
  | 0 => ("TideBoats$History", "past", "[LTideBoats$State;", true)
  | 1 => ("TideBoats$History", "snapshot", "LTideBoats$State;", true)
  | 2 => ("TideBoats$History", "size", "I", false)
  | _ => ("TideBoats$History", "hasSnapshot", "Z", false)
def tyX0 : Nat → FieldType := fun k => match k with
  | 0 => .array (.object "TideBoats$State")
  | 1 => .object "TideBoats$State"
  | 2 => .int
  | _ => .boolean
abbrev wsX00 : List Cond := u_ws RX0 TX0 4
theorem nmX0 : ∀ a, a < 4 → ∀ b, b < 4 → a ≠ b → (TX0 a).2.1 ≠ (TX0 b).2.1 := by decide +kernel
theorem tyX0_ok : ∀ k, k < 4 → parseFieldDescriptor (TX0 k).2.2.1 = some (tyX0 k) := by decide +kernel
abbrev cX0_init : ByteArray := prog_2_method_1_code
def yX0_init : MethodName := ⟨RX0, "<init>", "()V"⟩
abbrev cX0_record : ByteArray := prog_2_method_2_code
def yX0_record : MethodName := ⟨RX0, "record", "(LTideBoats$State;)V"⟩
abbrev cX0_takeLatest : ByteArray := prog_2_method_3_code
def yX0_takeLatest : MethodName := ⟨RX0, "takeLatest", "(LTideBoats$State;)I"⟩
abbrev cX0_takeSnapshot : ByteArray := prog_2_method_4_code
def yX0_takeSnapshot : MethodName := ⟨RX0, "takeSnapshot", "(LTideBoats$State;)V"⟩
abbrev cX0_giveSnapshot : ByteArray := prog_2_method_5_code
def yX0_giveSnapshot : MethodName := ⟨RX0, "giveSnapshot", "(LTideBoats$State;)I"⟩
abbrev cX0_slotAt : ByteArray := prog_2_method_6_code
def yX0_slotAt : MethodName := ⟨RX0, "slotAt", "(I)LTideBoats$State;"⟩
abbrev cX0_dropOldest : ByteArray := prog_2_method_7_code
def yX0_dropOldest : MethodName := ⟨RX0, "dropOldest", "()V"⟩
def RX1 : String := "TideBoats$HomeSearch"
def TX1 : u_T := fun k => match k with
  | 0 => ("TideBoats$HomeSearch", "sea", "LTideBoats$State;", true)
  | 1 => ("TideBoats$HomeSearch", "cellsUpTo", "[J", true)
  | 2 => ("TideBoats$HomeSearch", "rockCells", "J", false)
  | 3 => ("TideBoats$HomeSearch", "ownHarbour", "J", false)
  | 4 => ("TideBoats$HomeSearch", "otherHarbour", "J", false)
  | 5 => ("TideBoats$HomeSearch", "player", "I", false)
  | _ => ("TideBoats$HomeSearch", "draft", "I", false)
def tyX1 : Nat → FieldType := fun k => match k with
  | 0 => .object "TideBoats$State"
  | 1 => .array .long
  | 2 => .long
  | 3 => .long
  | 4 => .long
  | 5 => .int
  | _ => .int
abbrev wsX10 : List Cond := u_ws RX1 TX1 7
theorem nmX1 : ∀ a, a < 7 → ∀ b, b < 7 → a ≠ b → (TX1 a).2.1 ≠ (TX1 b).2.1 := by decide +kernel
theorem tyX1_ok : ∀ k, k < 7 → parseFieldDescriptor (TX1 k).2.2.1 = some (tyX1 k) := by decide +kernel
abbrev cX1_init : ByteArray := prog_3_method_1_code
def yX1_init : MethodName := ⟨RX1, "<init>", "(LTideBoats$State;)V"⟩
abbrev cX1_prepare : ByteArray := prog_3_method_2_code
def yX1_prepare : MethodName := ⟨RX1, "prepare", "(I)V"⟩
abbrev cX1_turnsForwards : ByteArray := prog_3_method_3_code
def yX1_turnsForwards : MethodName := ⟨RX1, "turnsForwards", "(II)I"⟩
abbrev cX1_turnsBackwards : ByteArray := prog_3_method_4_code
def yX1_turnsBackwards : MethodName := ⟨RX1, "turnsBackwards", "(II)I"⟩
abbrev cX1_turnsBehind : ByteArray := prog_3_method_5_code
def yX1_turnsBehind : MethodName := ⟨RX1, "turnsBehind", "(II)I"⟩
abbrev cX1_cellsThatLeadHome : ByteArray := prog_3_method_6_code
def yX1_cellsThatLeadHome : MethodName := ⟨RX1, "cellsThatLeadHome", "(II)J"⟩
abbrev cX1_goalsOf : ByteArray := prog_3_method_7_code
def yX1_goalsOf : MethodName := ⟨RX1, "goalsOf", "(JJ)J"⟩
abbrev cX1_startsFor : ByteArray := prog_3_method_8_code
def yX1_startsFor : MethodName := ⟨RX1, "startsFor", "(JJ)J"⟩
abbrev cX1_wetCells : ByteArray := prog_3_method_9_code
def yX1_wetCells : MethodName := ⟨RX1, "wetCells", "(I)J"⟩
abbrev cX1_wreckingCells : ByteArray := prog_3_method_10_code
def yX1_wreckingCells : MethodName := ⟨RX1, "wreckingCells", "(I)J"⟩
abbrev cX1_setOf : ByteArray := prog_3_method_11_code
def yX1_setOf : MethodName := ⟨RX1, "setOf", "(I)J"⟩
abbrev cX1_beside : ByteArray := prog_3_method_12_code
def yX1_beside : MethodName := ⟨RX1, "beside", "(JI)J"⟩
def RX2 : String := "TideBoats$Orders"
def TX2 : u_T := fun k => match k with
  | 0 => ("TideBoats$Orders", "signs", "[C", true)
  | _ => ("TideBoats$Orders", "length", "I", false)
def tyX2 : Nat → FieldType := fun k => match k with
  | 0 => .array .char
  | _ => .int
abbrev wsX20 : List Cond := u_ws RX2 TX2 2
theorem nmX2 : ∀ a, a < 2 → ∀ b, b < 2 → a ≠ b → (TX2 a).2.1 ≠ (TX2 b).2.1 := by decide +kernel
theorem tyX2_ok : ∀ k, k < 2 → parseFieldDescriptor (TX2 k).2.2.1 = some (tyX2 k) := by decide +kernel
abbrev cX2_init : ByteArray := prog_4_method_1_code
def yX2_init : MethodName := ⟨RX2, "<init>", "()V"⟩
abbrev cX2_append : ByteArray := prog_4_method_2_code
def yX2_append : MethodName := ⟨RX2, "append", "(C)I"⟩
abbrev cX2_removeAll : ByteArray := prog_4_method_3_code
def yX2_removeAll : MethodName := ⟨RX2, "removeAll", "()I"⟩
abbrev cX2_findFault : ByteArray := prog_4_method_4_code
def yX2_findFault : MethodName := ⟨RX2, "findFault", "()I"⟩
abbrev cX2_endOfOrder : ByteArray := prog_4_method_5_code
def yX2_endOfOrder : MethodName := ⟨RX2, "endOfOrder", "(I)I"⟩
abbrev cX2_signAt : ByteArray := prog_4_method_6_code
def yX2_signAt : MethodName := ⟨RX2, "signAt", "(I)C"⟩
abbrev cX2_isRockAt : ByteArray := prog_4_method_7_code
def yX2_isRockAt : MethodName := ⟨RX2, "isRockAt", "(I)Z"⟩
abbrev cX2_cellAt : ByteArray := prog_4_method_8_code
def yX2_cellAt : MethodName := ⟨RX2, "cellAt", "(I)I"⟩
abbrev cX2_heightAt : ByteArray := prog_4_method_9_code
def yX2_heightAt : MethodName := ⟨RX2, "heightAt", "(I)I"⟩
abbrev cX2_playerAt : ByteArray := prog_4_method_10_code
def yX2_playerAt : MethodName := ⟨RX2, "playerAt", "(I)I"⟩
abbrev cX2_draftAt : ByteArray := prog_4_method_11_code
def yX2_draftAt : MethodName := ⟨RX2, "draftAt", "(I)I"⟩
abbrev cX2_boatAt : ByteArray := prog_4_method_12_code
def yX2_boatAt : MethodName := ⟨RX2, "boatAt", "(I)I"⟩
abbrev cX2_directionAt : ByteArray := prog_4_method_13_code
def yX2_directionAt : MethodName := ⟨RX2, "directionAt", "(I)I"⟩
abbrev cX2_stepsAt : ByteArray := prog_4_method_14_code
def yX2_stepsAt : MethodName := ⟨RX2, "stepsAt", "(I)I"⟩
abbrev cX2_isColumn : ByteArray := prog_4_method_15_code
def yX2_isColumn : MethodName := ⟨RX2, "isColumn", "(C)Z"⟩
abbrev cX2_placesOfOrder : ByteArray := prog_4_method_16_code
def yX2_placesOfOrder : MethodName := ⟨RX2, "placesOfOrder", "(C)Ljava/lang/String;"⟩
abbrev cX2_fits : ByteArray := prog_4_method_17_code
def yX2_fits : MethodName := ⟨RX2, "fits", "(CC)Z"⟩
abbrev cX2_allowedAt : ByteArray := prog_4_method_18_code
def yX2_allowedAt : MethodName := ⟨RX2, "allowedAt", "(C)Ljava/lang/String;"⟩
def RX3 : String := "TideBoats$Rules"
def TX3 : u_T := fun k => match k with
  | _ => ("TideBoats$Rules", "sea", "LTideBoats$State;", true)
def tyX3 : Nat → FieldType := fun k => match k with
  | _ => .object "TideBoats$State"
abbrev wsX30 : List Cond := u_ws RX3 TX3 1
theorem nmX3 : ∀ a, a < 1 → ∀ b, b < 1 → a ≠ b → (TX3 a).2.1 ≠ (TX3 b).2.1 := by decide +kernel
theorem tyX3_ok : ∀ k, k < 1 → parseFieldDescriptor (TX3 k).2.2.1 = some (tyX3 k) := by decide +kernel
abbrev cX3_init : ByteArray := prog_5_method_1_code
def yX3_init : MethodName := ⟨RX3, "<init>", "(LTideBoats$State;)V"⟩
abbrev cX3_laySand : ByteArray := prog_5_method_2_code
def yX3_laySand : MethodName := ⟨RX3, "laySand", "(IIZ)I"⟩
abbrev cX3_addBoat : ByteArray := prog_5_method_3_code
def yX3_addBoat : MethodName := ⟨RX3, "addBoat", "(III)I"⟩
abbrev cX3_changeSetting : ByteArray := prog_5_method_4_code
def yX3_changeSetting : MethodName := ⟨RX3, "changeSetting", "(II)I"⟩
abbrev cX3_sail : ByteArray := prog_5_method_5_code
def yX3_sail : MethodName := ⟨RX3, "sail", "(III)I"⟩
abbrev cX3_waitATurn : ByteArray := prog_5_method_6_code
def yX3_waitATurn : MethodName := ⟨RX3, "waitATurn", "()I"⟩
abbrev cX3_errorOfMove : ByteArray := prog_5_method_7_code
def yX3_errorOfMove : MethodName := ⟨RX3, "errorOfMove", "(III)I"⟩
abbrev cX3_reasonAgainst : ByteArray := prog_5_method_8_code
def yX3_reasonAgainst : MethodName := ⟨RX3, "reasonAgainst", "(IIIZ)I"⟩
abbrev cX3_movesOf : ByteArray := prog_5_method_9_code
def yX3_movesOf : MethodName := ⟨RX3, "movesOf", "(I)I"⟩
abbrev cX3_isWayOpen : ByteArray := prog_5_method_10_code
def yX3_isWayOpen : MethodName := ⟨RX3, "isWayOpen", "(III)Z"⟩
abbrev cX3_isBoatInWay : ByteArray := prog_5_method_11_code
def yX3_isBoatInWay : MethodName := ⟨RX3, "isBoatInWay", "(III)Z"⟩
abbrev cX3_ram : ByteArray := prog_5_method_12_code
def yX3_ram : MethodName := ⟨RX3, "ram", "(I)I"⟩
abbrev cX3_endTurn : ByteArray := prog_5_method_13_code
def yX3_endTurn : MethodName := ⟨RX3, "endTurn", "()V"⟩
def RX4 : String := "TideBoats$State"
def TX4 : u_T := fun k => match k with
  | 0 => ("TideBoats$State", "heights", "[I", true)
  | 1 => ("TideBoats$State", "rocks", "[I", true)
  | 2 => ("TideBoats$State", "owners", "[I", true)
  | 3 => ("TideBoats$State", "drafts", "[I", true)
  | 4 => ("TideBoats$State", "conditions", "[I", true)
  | 5 => ("TideBoats$State", "places", "[I", true)
  | 6 => ("TideBoats$State", "stepsGone", "[I", true)
  | 7 => ("TideBoats$State", "boats", "I", false)
  | 8 => ("TideBoats$State", "boatsRammed", "I", false)
  | 9 => ("TideBoats$State", "turn", "I", false)
  | 10 => ("TideBoats$State", "lowWater", "I", false)
  | 11 => ("TideBoats$State", "riseSteps", "I", false)
  | 12 => ("TideBoats$State", "stepTurns", "I", false)
  | _ => ("TideBoats$State", "lastTurn", "I", false)
def tyX4 : Nat → FieldType := fun k => match k with
  | 0 => .array .int
  | 1 => .array .int
  | 2 => .array .int
  | 3 => .array .int
  | 4 => .array .int
  | 5 => .array .int
  | 6 => .array .int
  | 7 => .int
  | 8 => .int
  | 9 => .int
  | 10 => .int
  | 11 => .int
  | 12 => .int
  | _ => .int
abbrev wsX40 : List Cond := u_ws RX4 TX4 14
theorem nmX4 : ∀ a, a < 14 → ∀ b, b < 14 → a ≠ b → (TX4 a).2.1 ≠ (TX4 b).2.1 := by decide +kernel
theorem tyX4_ok : ∀ k, k < 14 → parseFieldDescriptor (TX4 k).2.2.1 = some (tyX4 k) := by decide +kernel
abbrev cX4_init : ByteArray := prog_6_method_1_code
def yX4_init : MethodName := ⟨RX4, "<init>", "()V"⟩
abbrev cX4_copyFrom : ByteArray := prog_6_method_2_code
def yX4_copyFrom : MethodName := ⟨RX4, "copyFrom", "(LTideBoats$State;)V"⟩
abbrev cX4_settingOf : ByteArray := prog_6_method_3_code
def yX4_settingOf : MethodName := ⟨RX4, "settingOf", "(I)I"⟩
abbrev cX4_changeSetting : ByteArray := prog_6_method_4_code
def yX4_changeSetting : MethodName := ⟨RX4, "changeSetting", "(II)V"⟩
abbrev cX4_turnsOfTide : ByteArray := prog_6_method_5_code
def yX4_turnsOfTide : MethodName := ⟨RX4, "turnsOfTide", "()I"⟩
abbrev cX4_tideIn : ByteArray := prog_6_method_6_code
def yX4_tideIn : MethodName := ⟨RX4, "tideIn", "(I)I"⟩
abbrev cX4_waterOver : ByteArray := prog_6_method_7_code
def yX4_waterOver : MethodName := ⟨RX4, "waterOver", "(I)I"⟩
abbrev cX4_isWet : ByteArray := prog_6_method_8_code
def yX4_isWet : MethodName := ⟨RX4, "isWet", "(III)Z"⟩
abbrev cX4_isBoat : ByteArray := prog_6_method_9_code
def yX4_isBoat : MethodName := ⟨RX4, "isBoat", "(I)Z"⟩
abbrev cX4_isOnBoard : ByteArray := prog_6_method_10_code
def yX4_isOnBoard : MethodName := ⟨RX4, "isOnBoard", "(I)Z"⟩
abbrev cX4_floats : ByteArray := prog_6_method_11_code
def yX4_floats : MethodName := ⟨RX4, "floats", "(I)Z"⟩
abbrev cX4_isWreckedAhead : ByteArray := prog_6_method_12_code
def yX4_isWreckedAhead : MethodName := ⟨RX4, "isWreckedAhead", "(I)Z"⟩
abbrev cX4_boatAt : ByteArray := prog_6_method_13_code
def yX4_boatAt : MethodName := ⟨RX4, "boatAt", "(I)I"⟩
abbrev cX4_boatsThatAre : ByteArray := prog_6_method_14_code
def yX4_boatsThatAre : MethodName := ⟨RX4, "boatsThatAre", "(I)I"⟩
abbrev cX4_boatsAground : ByteArray := prog_6_method_15_code
def yX4_boatsAground : MethodName := ⟨RX4, "boatsAground", "()I"⟩
abbrev cX4_scoreOf : ByteArray := prog_6_method_16_code
def yX4_scoreOf : MethodName := ⟨RX4, "scoreOf", "(I)I"⟩
abbrev cX4_mover : ByteArray := prog_6_method_17_code
def yX4_mover : MethodName := ⟨RX4, "mover", "()I"⟩
abbrev cX4_isOver : ByteArray := prog_6_method_18_code
def yX4_isOver : MethodName := ⟨RX4, "isOver", "()Z"⟩
def RX5 : String := "TideBoats"
def TX5 : u_T := fun k => match k with
  | 0 => ("TideBoats", "now", "LTideBoats$State;", true)
  | 1 => ("TideBoats", "before", "LTideBoats$State;", true)
  | 2 => ("TideBoats", "rules", "LTideBoats$Rules;", true)
  | 3 => ("TideBoats", "search", "LTideBoats$HomeSearch;", true)
  | 4 => ("TideBoats", "history", "LTideBoats$History;", true)
  | _ => ("TideBoats", "text", "LTideBoats$Orders;", true)
def tyX5 : Nat → FieldType := fun k => match k with
  | 0 => .object "TideBoats$State"
  | 1 => .object "TideBoats$State"
  | 2 => .object "TideBoats$Rules"
  | 3 => .object "TideBoats$HomeSearch"
  | 4 => .object "TideBoats$History"
  | _ => .object "TideBoats$Orders"
abbrev wsX50 : List Cond := u_ws RX5 TX5 6
theorem nmX5 : ∀ a, a < 6 → ∀ b, b < 6 → a ≠ b → (TX5 a).2.1 ≠ (TX5 b).2.1 := by decide +kernel
theorem tyX5_ok : ∀ k, k < 6 → parseFieldDescriptor (TX5 k).2.2.1 = some (tyX5 k) := by decide +kernel
abbrev cX5_init : ByteArray := prog_1_method_1_code
def yX5_init : MethodName := ⟨RX5, "<init>", "()V"⟩
abbrev cX5_sand : ByteArray := prog_1_method_2_code
def yX5_sand : MethodName := ⟨RX5, "sand", "(IIZ)I"⟩
abbrev cX5_boat : ByteArray := prog_1_method_3_code
def yX5_boat : MethodName := ⟨RX5, "boat", "(III)I"⟩
abbrev cX5_set : ByteArray := prog_1_method_4_code
def yX5_set : MethodName := ⟨RX5, "set", "(II)I"⟩
abbrev cX5_move : ByteArray := prog_1_method_5_code
def yX5_move : MethodName := ⟨RX5, "move", "(III)I"⟩
abbrev cX5_pause : ByteArray := prog_1_method_6_code
def yX5_pause : MethodName := ⟨RX5, "pause", "()I"⟩
abbrev cX5_type : ByteArray := prog_1_method_7_code
def yX5_type : MethodName := ⟨RX5, "type", "(C)I"⟩
abbrev cX5_clearText : ByteArray := prog_1_method_8_code
def yX5_clearText : MethodName := ⟨RX5, "clearText", "()I"⟩
abbrev cX5_fault : ByteArray := prog_1_method_9_code
def yX5_fault : MethodName := ⟨RX5, "fault", "()I"⟩
abbrev cX5_doAll : ByteArray := prog_1_method_10_code
def yX5_doAll : MethodName := ⟨RX5, "doAll", "()I"⟩
abbrev cX5_undo : ByteArray := prog_1_method_11_code
def yX5_undo : MethodName := ⟨RX5, "undo", "()I"⟩
abbrev cX5_keep : ByteArray := prog_1_method_12_code
def yX5_keep : MethodName := ⟨RX5, "keep", "()I"⟩
abbrev cX5_restore : ByteArray := prog_1_method_13_code
def yX5_restore : MethodName := ⟨RX5, "restore", "()I"⟩
abbrev cX5_cellOf : ByteArray := prog_1_method_14_code
def yX5_cellOf : MethodName := ⟨RX5, "cellOf", "(II)I"⟩
abbrev cX5_boatOf : ByteArray := prog_1_method_15_code
def yX5_boatOf : MethodName := ⟨RX5, "boatOf", "(II)I"⟩
abbrev cX5_tide : ByteArray := prog_1_method_16_code
def yX5_tide : MethodName := ⟨RX5, "tide", "(I)I"⟩
abbrev cX5_why : ByteArray := prog_1_method_17_code
def yX5_why : MethodName := ⟨RX5, "why", "(III)I"⟩
abbrev cX5_count : ByteArray := prog_1_method_18_code
def yX5_count : MethodName := ⟨RX5, "count", "(I)I"⟩
abbrev cX5_afloat : ByteArray := prog_1_method_19_code
def yX5_afloat : MethodName := ⟨RX5, "afloat", "(II)F"⟩
abbrev cX5_floatsIn : ByteArray := prog_1_method_20_code
def yX5_floatsIn : MethodName := ⟨RX5, "floatsIn", "(I)I"⟩
abbrev cX5_homeIn : ByteArray := prog_1_method_21_code
def yX5_homeIn : MethodName := ⟨RX5, "homeIn", "(II)I"⟩
abbrev cX5_inDanger : ByteArray := prog_1_method_22_code
def yX5_inDanger : MethodName := ⟨RX5, "inDanger", "(I)I"⟩
abbrev cX5_best : ByteArray := prog_1_method_23_code
def yX5_best : MethodName := ⟨RX5, "best", "()I"⟩
abbrev cX5_recorded : ByteArray := prog_1_method_24_code
def yX5_recorded : MethodName := ⟨RX5, "recorded", "(I)I"⟩
abbrev cX5_doOrder : ByteArray := prog_1_method_25_code
def yX5_doOrder : MethodName := ⟨RX5, "doOrder", "(I)I"⟩
abbrev cX5_movesOfMover : ByteArray := prog_1_method_26_code
def yX5_movesOfMover : MethodName := ⟨RX5, "movesOfMover", "()I"⟩
abbrev cX5_worthOf : ByteArray := prog_1_method_27_code
def yX5_worthOf : MethodName := ⟨RX5, "worthOf", "(III)I"⟩
abbrev cX5_isCell : ByteArray := prog_1_method_28_code
def yX5_isCell : MethodName := ⟨RX5, "isCell", "(I)Z"⟩
abbrev cX5_isPlayer : ByteArray := prog_1_method_29_code
def yX5_isPlayer : MethodName := ⟨RX5, "isPlayer", "(I)Z"⟩
abbrev cX5_isDraft : ByteArray := prog_1_method_30_code
def yX5_isDraft : MethodName := ⟨RX5, "isDraft", "(I)Z"⟩
abbrev cX5_isHarbour : ByteArray := prog_1_method_31_code
def yX5_isHarbour : MethodName := ⟨RX5, "isHarbour", "(I)Z"⟩
abbrev cX5_harbourOf : ByteArray := prog_1_method_32_code
def yX5_harbourOf : MethodName := ⟨RX5, "harbourOf", "(I)I"⟩
abbrev cX5_cellBeside : ByteArray := prog_1_method_33_code
def yX5_cellBeside : MethodName := ⟨RX5, "cellBeside", "(II)I"⟩
abbrev cX5_cellFrom : ByteArray := prog_1_method_34_code
def yX5_cellFrom : MethodName := ⟨RX5, "cellFrom", "(III)I"⟩
abbrev cX5_read : ByteArray := prog_1_method_35_code
def yX5_read : MethodName := ⟨RX5, "read", "([II)I"⟩
abbrev cX5_write : ByteArray := prog_1_method_36_code
def yX5_write : MethodName := ⟨RX5, "write", "([III)V"⟩
abbrev cX5_copy : ByteArray := prog_1_method_37_code
def yX5_copy : MethodName := ⟨RX5, "copy", "([I[I)V"⟩
def RX6 : String := "TideBoatsModel"
def TX6 : u_T := fun k => match k with
  | 0 => ("TideBoatsModel", "s", "[I", true)
  | 1 => ("TideBoatsModel", "past", "[I", true)
  | 2 => ("TideBoatsModel", "known", "I", false)
  | 3 => ("TideBoatsModel", "snap", "[I", true)
  | 4 => ("TideBoatsModel", "isKept", "Z", false)
  | 5 => ("TideBoatsModel", "text", "[I", true)
  | 6 => ("TideBoatsModel", "length", "I", false)
  | 7 => ("TideBoatsModel", "now", "[Z", true)
  | 8 => ("TideBoatsModel", "then", "[Z", true)
  | 9 => ("TideBoatsModel", "least", "[I", true)
  | _ => ("TideBoatsModel", "later", "[I", true)
def tyX6 : Nat → FieldType := fun k => match k with
  | 0 => .array .int
  | 1 => .array .int
  | 2 => .int
  | 3 => .array .int
  | 4 => .boolean
  | 5 => .array .int
  | 6 => .int
  | 7 => .array .boolean
  | 8 => .array .boolean
  | 9 => .array .int
  | _ => .array .int
abbrev wsX60 : List Cond := u_ws RX6 TX6 11
theorem nmX6 : ∀ a, a < 11 → ∀ b, b < 11 → a ≠ b → (TX6 a).2.1 ≠ (TX6 b).2.1 := by decide +kernel
theorem tyX6_ok : ∀ k, k < 11 → parseFieldDescriptor (TX6 k).2.2.1 = some (tyX6 k) := by decide +kernel
abbrev cX6_init : ByteArray := prog_8_method_1_code
def yX6_init : MethodName := ⟨RX6, "<init>", "()V"⟩
abbrev cX6_in : ByteArray := prog_8_method_3_code
def yX6_in : MethodName := ⟨RX6, "in", "(III)Z"⟩
abbrev cX6_isCell : ByteArray := prog_8_method_4_code
def yX6_isCell : MethodName := ⟨RX6, "isCell", "(I)Z"⟩
abbrev cX6_isBoat : ByteArray := prog_8_method_5_code
def yX6_isBoat : MethodName := ⟨RX6, "isBoat", "(II)Z"⟩
abbrev cX6_at : ByteArray := prog_8_method_6_code
def yX6_at : MethodName := ⟨RX6, "at", "(II)I"⟩
abbrev cX6_its : ByteArray := prog_8_method_7_code
def yX6_its : MethodName := ⟨RX6, "its", "(III)I"⟩
abbrev cX6_copies : ByteArray := prog_8_method_8_code
def yX6_copies : MethodName := ⟨RX6, "copies", "()V"⟩
abbrev cX6_remembers : ByteArray := prog_8_method_9_code
def yX6_remembers : MethodName := ⟨RX6, "remembers", "()V"⟩
abbrev cX6_acts : ByteArray := prog_8_method_10_code
def yX6_acts : MethodName := ⟨RX6, "acts", "(I)I"⟩
abbrev cX6_tideOf : ByteArray := prog_8_method_11_code
def yX6_tideOf : MethodName := ⟨RX6, "tideOf", "(II)I"⟩
abbrev cX6_water : ByteArray := prog_8_method_12_code
def yX6_water : MethodName := ⟨RX6, "water", "(III)I"⟩
abbrev cX6_floats : ByteArray := prog_8_method_13_code
def yX6_floats : MethodName := ⟨RX6, "floats", "(IIII)Z"⟩
abbrev cX6_wrecks : ByteArray := prog_8_method_14_code
def yX6_wrecks : MethodName := ⟨RX6, "wrecks", "(IIII)Z"⟩
abbrev cX6_harbour : ByteArray := prog_8_method_15_code
def yX6_harbour : MethodName := ⟨RX6, "harbour", "(I)I"⟩
abbrev cX6_beside : ByteArray := prog_8_method_16_code
def yX6_beside : MethodName := ⟨RX6, "beside", "(II)I"⟩
abbrev cX6_wayEnd : ByteArray := prog_8_method_17_code
def yX6_wayEnd : MethodName := ⟨RX6, "wayEnd", "(IIIII)I"⟩
abbrev cX6_boatAt : ByteArray := prog_8_method_18_code
def yX6_boatAt : MethodName := ⟨RX6, "boatAt", "(II)I"⟩
abbrev cX6_isAfloat : ByteArray := prog_8_method_19_code
def yX6_isAfloat : MethodName := ⟨RX6, "isAfloat", "(II)Z"⟩
abbrev cX6_isBlocked : ByteArray := prog_8_method_20_code
def yX6_isBlocked : MethodName := ⟨RX6, "isBlocked", "(III)Z"⟩
abbrev cX6_kind : ByteArray := prog_8_method_21_code
def yX6_kind : MethodName := ⟨RX6, "kind", "(II)I"⟩
abbrev cX6_onBoard : ByteArray := prog_8_method_22_code
def yX6_onBoard : MethodName := ⟨RX6, "onBoard", "(II)I"⟩
abbrev cX6_isOver : ByteArray := prog_8_method_23_code
def yX6_isOver : MethodName := ⟨RX6, "isOver", "(I)Z"⟩
abbrev cX6_reason : ByteArray := prog_8_method_24_code
def yX6_reason : MethodName := ⟨RX6, "reason", "(III)I"⟩
abbrev cX6_whyNot : ByteArray := prog_8_method_25_code
def yX6_whyNot : MethodName := ⟨RX6, "whyNot", "(III)I"⟩
abbrev cX6_wayOf : ByteArray := prog_8_method_26_code
def yX6_wayOf : MethodName := ⟨RX6, "wayOf", "(II)I"⟩
abbrev cX6_sands : ByteArray := prog_8_method_27_code
def yX6_sands : MethodName := ⟨RX6, "sands", "(IIII)I"⟩
abbrev cX6_comes : ByteArray := prog_8_method_28_code
def yX6_comes : MethodName := ⟨RX6, "comes", "(IIII)I"⟩
abbrev cX6_passes : ByteArray := prog_8_method_29_code
def yX6_passes : MethodName := ⟨RX6, "passes", "(I)V"⟩
abbrev cX6_moves : ByteArray := prog_8_method_30_code
def yX6_moves : MethodName := ⟨RX6, "moves", "(III)I"⟩
abbrev cX6_waits : ByteArray := prog_8_method_31_code
def yX6_waits : MethodName := ⟨RX6, "waits", "(I)I"⟩
abbrev cX6_sand : ByteArray := prog_8_method_32_code
def yX6_sand : MethodName := ⟨RX6, "sand", "(IIZ)I"⟩
abbrev cX6_boat : ByteArray := prog_8_method_33_code
def yX6_boat : MethodName := ⟨RX6, "boat", "(III)I"⟩
abbrev cX6_set : ByteArray := prog_8_method_34_code
def yX6_set : MethodName := ⟨RX6, "set", "(II)I"⟩
abbrev cX6_move : ByteArray := prog_8_method_35_code
def yX6_move : MethodName := ⟨RX6, "move", "(III)I"⟩
abbrev cX6_pause : ByteArray := prog_8_method_36_code
def yX6_pause : MethodName := ⟨RX6, "pause", "()I"⟩
abbrev cX6_type : ByteArray := prog_8_method_37_code
def yX6_type : MethodName := ⟨RX6, "type", "(C)I"⟩
abbrev cX6_clearText : ByteArray := prog_8_method_38_code
def yX6_clearText : MethodName := ⟨RX6, "clearText", "()I"⟩
abbrev cX6_sign : ByteArray := prog_8_method_39_code
def yX6_sign : MethodName := ⟨RX6, "sign", "(I)I"⟩
abbrev cX6_isSign : ByteArray := prog_8_method_40_code
def yX6_isSign : MethodName := ⟨RX6, "isSign", "(III)Z"⟩
abbrev cX6_cellEnd : ByteArray := prog_8_method_41_code
def yX6_cellEnd : MethodName := ⟨RX6, "cellEnd", "(I)I"⟩
abbrev cX6_cellIn : ByteArray := prog_8_method_42_code
def yX6_cellIn : MethodName := ⟨RX6, "cellIn", "(I)I"⟩
abbrev cX6_directionOf : ByteArray := prog_8_method_43_code
def yX6_directionOf : MethodName := ⟨RX6, "directionOf", "(I)I"⟩
abbrev cX6_sandEnd : ByteArray := prog_8_method_44_code
def yX6_sandEnd : MethodName := ⟨RX6, "sandEnd", "(I)I"⟩
abbrev cX6_orderEnd : ByteArray := prog_8_method_45_code
def yX6_orderEnd : MethodName := ⟨RX6, "orderEnd", "(I)I"⟩
abbrev cX6_fault : ByteArray := prog_8_method_46_code
def yX6_fault : MethodName := ⟨RX6, "fault", "()I"⟩
abbrev cX6_does : ByteArray := prog_8_method_47_code
def yX6_does : MethodName := ⟨RX6, "does", "(I)I"⟩
abbrev cX6_doAll : ByteArray := prog_8_method_48_code
def yX6_doAll : MethodName := ⟨RX6, "doAll", "()I"⟩
abbrev cX6_undo : ByteArray := prog_8_method_49_code
def yX6_undo : MethodName := ⟨RX6, "undo", "()I"⟩
abbrev cX6_keep : ByteArray := prog_8_method_50_code
def yX6_keep : MethodName := ⟨RX6, "keep", "()I"⟩
abbrev cX6_restore : ByteArray := prog_8_method_51_code
def yX6_restore : MethodName := ⟨RX6, "restore", "()I"⟩
abbrev cX6_cellOf : ByteArray := prog_8_method_52_code
def yX6_cellOf : MethodName := ⟨RX6, "cellOf", "(II)I"⟩
abbrev cX6_movesOf : ByteArray := prog_8_method_53_code
def yX6_movesOf : MethodName := ⟨RX6, "movesOf", "(I)I"⟩
abbrev cX6_boatOf : ByteArray := prog_8_method_54_code
def yX6_boatOf : MethodName := ⟨RX6, "boatOf", "(II)I"⟩
abbrev cX6_tide : ByteArray := prog_8_method_55_code
def yX6_tide : MethodName := ⟨RX6, "tide", "(I)I"⟩
abbrev cX6_why : ByteArray := prog_8_method_56_code
def yX6_why : MethodName := ⟨RX6, "why", "(III)I"⟩
abbrev cX6_score : ByteArray := prog_8_method_57_code
def yX6_score : MethodName := ⟨RX6, "score", "(I)I"⟩
abbrev cX6_aground : ByteArray := prog_8_method_58_code
def yX6_aground : MethodName := ⟨RX6, "aground", "()I"⟩
abbrev cX6_movesNow : ByteArray := prog_8_method_59_code
def yX6_movesNow : MethodName := ⟨RX6, "movesNow", "()I"⟩
abbrev cX6_count : ByteArray := prog_8_method_60_code
def yX6_count : MethodName := ⟨RX6, "count", "(I)I"⟩
abbrev cX6_period : ByteArray := prog_8_method_61_code
def yX6_period : MethodName := ⟨RX6, "period", "()I"⟩
abbrev cX6_afloat : ByteArray := prog_8_method_62_code
def yX6_afloat : MethodName := ⟨RX6, "afloat", "(II)F"⟩
abbrev cX6_floatsIn : ByteArray := prog_8_method_63_code
def yX6_floatsIn : MethodName := ⟨RX6, "floatsIn", "(I)I"⟩
abbrev cX6_goes : ByteArray := prog_8_method_64_code
def yX6_goes : MethodName := ⟨RX6, "goes", "(III)Z"⟩
abbrev cX6_forth : ByteArray := prog_8_method_65_code
def yX6_forth : MethodName := ⟨RX6, "forth", "(II)I"⟩
abbrev cX6_fewest : ByteArray := prog_8_method_66_code
def yX6_fewest : MethodName := ⟨RX6, "fewest", "(III)I"⟩
abbrev cX6_back : ByteArray := prog_8_method_67_code
def yX6_back : MethodName := ⟨RX6, "back", "(I)I"⟩
abbrev cX6_homeIn : ByteArray := prog_8_method_68_code
def yX6_homeIn : MethodName := ⟨RX6, "homeIn", "(II)I"⟩
abbrev cX6_inDanger : ByteArray := prog_8_method_69_code
def yX6_inDanger : MethodName := ⟨RX6, "inDanger", "(I)I"⟩
abbrev cX6_worth : ByteArray := prog_8_method_70_code
def yX6_worth : MethodName := ⟨RX6, "worth", "(II)I"⟩
abbrev cX6_best : ByteArray := prog_8_method_71_code
def yX6_best : MethodName := ⟨RX6, "best", "()I"⟩
def RJ11 : String := "java/lang/Character"
def TJ11 : u_T := fun k => match k with
  | _ => ("", "", "", false)
def tyJ11 : Nat → FieldType := fun k => match k with
  | _ => .int
abbrev wsJ110 : List Cond := u_ws RJ11 TJ11 0
theorem nmJ11 : ∀ a, a < 0 → ∀ b, b < 0 → a ≠ b → (TJ11 a).2.1 ≠ (TJ11 b).2.1 := by decide +kernel
theorem tyJ11_ok : ∀ k, k < 0 → parseFieldDescriptor (TJ11 k).2.2.1 = some (tyJ11 k) := by decide +kernel
abbrev cJ11_isValidCodePoint_9a6ad : ByteArray := prog_9_method_11_code
def yJ11_isValidCodePoint_9a6ad : MethodName := ⟨RJ11, "isValidCodePoint", "(I)Z"⟩
abbrev cJ11_highSurrogate_5068e : ByteArray := prog_9_method_28_code
def yJ11_highSurrogate_5068e : MethodName := ⟨RJ11, "highSurrogate", "(I)C"⟩
abbrev cJ11_lowSurrogate_5068e : ByteArray := prog_9_method_29_code
def yJ11_lowSurrogate_5068e : MethodName := ⟨RJ11, "lowSurrogate", "(I)C"⟩
def RJ9 : String := "java/lang/Math"
def TJ9 : u_T := fun k => match k with
  | _ => ("", "", "", false)
def tyJ9 : Nat → FieldType := fun k => match k with
  | _ => .int
abbrev wsJ90 : List Cond := u_ws RJ9 TJ9 0
theorem nmJ9 : ∀ a, a < 0 → ∀ b, b < 0 → a ≠ b → (TJ9 a).2.1 ≠ (TJ9 b).2.1 := by decide +kernel
theorem tyJ9_ok : ∀ k, k < 0 → parseFieldDescriptor (TJ9 k).2.2.1 = some (tyJ9 k) := by decide +kernel
abbrev cJ9_max_7cf53 : ByteArray := prog_10_method_65_code
def yJ9_max_7cf53 : MethodName := ⟨RJ9, "max", "(II)I"⟩
abbrev cJ9_min_7cf53 : ByteArray := prog_10_method_69_code
def yJ9_min_7cf53 : MethodName := ⟨RJ9, "min", "(II)I"⟩
def RJ0 : String := "java/lang/String"
def TJ0 : u_T := fun k => match k with
  | _ => ("", "", "", false)
def tyJ0 : Nat → FieldType := fun k => match k with
  | _ => .int
abbrev wsJ00 : List Cond := u_ws RJ0 TJ0 0
theorem nmJ0 : ∀ a, a < 0 → ∀ b, b < 0 → a ≠ b → (TJ0 a).2.1 ≠ (TJ0 b).2.1 := by decide +kernel
theorem tyJ0_ok : ∀ k, k < 0 → parseFieldDescriptor (TJ0 k).2.2.1 = some (tyJ0 k) := by decide +kernel
abbrev cJ0_length_8abf5 : ByteArray := prog_11_method_54_code
def yJ0_length_8abf5 : MethodName := ⟨RJ0, "length", "()I"⟩
abbrev cJ0_isEmpty_aae02 : ByteArray := prog_11_method_55_code
def yJ0_isEmpty_aae02 : MethodName := ⟨RJ0, "isEmpty", "()Z"⟩
abbrev cJ0_charAt_5068e : ByteArray := prog_11_method_56_code
def yJ0_charAt_5068e : MethodName := ⟨RJ0, "charAt", "(I)C"⟩
abbrev cJ0_indexOf_0f7a4 : ByteArray := prog_11_method_79_code
def yJ0_indexOf_0f7a4 : MethodName := ⟨RJ0, "indexOf", "(I)I"⟩
abbrev cJ0_indexOf_7cf53 : ByteArray := prog_11_method_80_code
def yJ0_indexOf_7cf53 : MethodName := ⟨RJ0, "indexOf", "(II)I"⟩
abbrev cJ0_coder_7d493 : ByteArray := prog_11_method_152_code
def yJ0_coder_7d493 : MethodName := ⟨RJ0, "coder", "()B"⟩
abbrev cJ0_isLatin1_aae02 : ByteArray := prog_11_method_154_code
def yJ0_isLatin1_aae02 : MethodName := ⟨RJ0, "isLatin1", "()Z"⟩
abbrev cJ0_checkIndex_df160 : ByteArray := prog_11_method_155_code
def yJ0_checkIndex_df160 : MethodName := ⟨RJ0, "checkIndex", "(II)V"⟩
abbrev cJ0_checkBoundsBeginEnd_23922 : ByteArray := prog_11_method_158_code
def yJ0_checkBoundsBeginEnd_23922 : MethodName := ⟨RJ0, "checkBoundsBeginEnd", "(III)V"⟩
def RJ1 : String := "java/lang/StringLatin1"
def TJ1 : u_T := fun k => match k with
  | _ => ("", "", "", false)
def tyJ1 : Nat → FieldType := fun k => match k with
  | _ => .int
abbrev wsJ10 : List Cond := u_ws RJ1 TJ1 0
theorem nmJ1 : ∀ a, a < 0 → ∀ b, b < 0 → a ≠ b → (TJ1 a).2.1 ≠ (TJ1 b).2.1 := by decide +kernel
theorem tyJ1_ok : ∀ k, k < 0 → parseFieldDescriptor (TJ1 k).2.2.1 = some (tyJ1 k) := by decide +kernel
abbrev cJ1_charAt_3b067 : ByteArray := prog_12_method_2_code
def yJ1_charAt_3b067 : MethodName := ⟨RJ1, "charAt", "([BI)C"⟩
abbrev cJ1_canEncode_9a6ad : ByteArray := prog_12_method_4_code
def yJ1_canEncode_9a6ad : MethodName := ⟨RJ1, "canEncode", "(I)Z"⟩
abbrev cJ1_indexOf_4cfef : ByteArray := prog_12_method_22_code
def yJ1_indexOf_4cfef : MethodName := ⟨RJ1, "indexOf", "([BIII)I"⟩
abbrev cJ1_indexOfChar_4cfef : ByteArray := prog_12_method_23_code
def yJ1_indexOfChar_4cfef : MethodName := ⟨RJ1, "indexOfChar", "([BIII)I"⟩
def RJ2 : String := "java/lang/StringUTF16"
def TJ2 : u_T := fun k => match k with
  | _ => ("", "", "", false)
def tyJ2 : Nat → FieldType := fun k => match k with
  | _ => .int
abbrev wsJ20 : List Cond := u_ws RJ2 TJ2 0
theorem nmJ2 : ∀ a, a < 0 → ∀ b, b < 0 → a ≠ b → (TJ2 a).2.1 ≠ (TJ2 b).2.1 := by decide +kernel
theorem tyJ2_ok : ∀ k, k < 0 → parseFieldDescriptor (TJ2 k).2.2.1 = some (tyJ2 k) := by decide +kernel
abbrev cJ2_getChar_3b067 : ByteArray := prog_13_method_5_code
def yJ2_getChar_3b067 : MethodName := ⟨RJ2, "getChar", "([BI)C"⟩
abbrev cJ2_length_9d52b : ByteArray := prog_13_method_6_code
def yJ2_length_9d52b : MethodName := ⟨RJ2, "length", "([B)I"⟩
abbrev cJ2_indexOf_4cfef : ByteArray := prog_13_method_40_code
def yJ2_indexOf_4cfef : MethodName := ⟨RJ2, "indexOf", "([BIII)I"⟩
abbrev cJ2_indexOfChar_4cfef : ByteArray := prog_13_method_47_code
def yJ2_indexOfChar_4cfef : MethodName := ⟨RJ2, "indexOfChar", "([BIII)I"⟩
abbrev cJ2_indexOfCharUnsafe_4cfef : ByteArray := prog_13_method_48_code
def yJ2_indexOfCharUnsafe_4cfef : MethodName := ⟨RJ2, "indexOfCharUnsafe", "([BIII)I"⟩
abbrev cJ2_indexOfSupplementary_4cfef : ByteArray := prog_13_method_49_code
def yJ2_indexOfSupplementary_4cfef : MethodName := ⟨RJ2, "indexOfSupplementary", "([BIII)I"⟩
abbrev cJ2_charAt_3b067 : ByteArray := prog_13_method_83_code
def yJ2_charAt_3b067 : MethodName := ⟨RJ2, "charAt", "([BI)C"⟩
abbrev cJ2_checkIndex_2214a : ByteArray := prog_13_method_91_code
def yJ2_checkIndex_2214a : MethodName := ⟨RJ2, "checkIndex", "(I[B)V"⟩
abbrev cJ2_checkBoundsBeginEnd_d044e : ByteArray := prog_13_method_93_code
def yJ2_checkBoundsBeginEnd_d044e : MethodName := ⟨RJ2, "checkBoundsBeginEnd", "(II[B)V"⟩
def RJ3 : String := "jdk/internal/util/Preconditions"
def TJ3 : u_T := fun k => match k with
  | _ => ("", "", "", false)
def tyJ3 : Nat → FieldType := fun k => match k with
  | _ => .int
abbrev wsJ30 : List Cond := u_ws RJ3 TJ3 0
theorem nmJ3 : ∀ a, a < 0 → ∀ b, b < 0 → a ≠ b → (TJ3 a).2.1 ≠ (TJ3 b).2.1 := by decide +kernel
theorem tyJ3_ok : ∀ k, k < 0 → parseFieldDescriptor (TJ3 k).2.2.1 = some (tyJ3 k) := by decide +kernel
abbrev cJ3_checkIndex_8e157 : ByteArray := prog_14_method_11_code
def yJ3_checkIndex_8e157 : MethodName := ⟨RJ3, "checkIndex", "(IILjava/util/function/BiFunction;)I"⟩
abbrev cJ3_checkFromToIndex_8c36e : ByteArray := prog_14_method_12_code
def yJ3_checkFromToIndex_8c36e : MethodName := ⟨RJ3, "checkFromToIndex", "(IIILjava/util/function/BiFunction;)I"⟩
def RL : String := "TideBoatsLaw"
abbrev cL_law : ByteArray := code
def yL_law : MethodName := ⟨RL, "law", "([I)Z"⟩
abbrev vwCl : List vw_C := [(RX0, TX0, 4), (RX1, TX1, 7), (RX2, TX2, 2), (RX3, TX3, 1), (RX4, TX4, 14), (RX5, TX5, 6), (RX6, TX6, 11)]
end
section
theorem dX0_init_0 : decode cX0_init 0 = .ok (.aload_n 0, 1) := by decide +kernel
theorem dX0_init_1 : decode cX0_init 1 = .ok (.invokespecial 3, 3) := by decide +kernel
theorem dX0_init_4 : decode cX0_init 4 = .ok (.aload_n 0, 1) := by decide +kernel
theorem dX0_init_5 : decode cX0_init 5 = .ok (.iconst 4, 1) := by decide +kernel
theorem dX0_init_6 : decode cX0_init 6 = .ok (.anewarray 9, 3) := by decide +kernel
theorem dX0_init_9 : decode cX0_init 9 = .ok (.putfield 11, 3) := by decide +kernel
theorem dX0_init_12 : decode cX0_init 12 = .ok (.aload_n 0, 1) := by decide +kernel
theorem dX0_init_13 : decode cX0_init 13 = .ok (.new 9, 3) := by decide +kernel
theorem dX0_init_16 : decode cX0_init 16 = .ok (.dup, 1) := by decide +kernel
theorem dX0_init_17 : decode cX0_init 17 = .ok (.invokespecial 17, 3) := by decide +kernel
theorem dX0_init_20 : decode cX0_init 20 = .ok (.putfield 18, 3) := by decide +kernel
theorem dX0_init_23 : decode cX0_init 23 = .ok (.iconst 0, 1) := by decide +kernel
theorem dX0_init_24 : decode cX0_init 24 = .ok (.istore_n 1, 1) := by decide +kernel
theorem dX0_init_25 : decode cX0_init 25 = .ok (.iload_n 1, 1) := by decide +kernel
theorem dX0_init_26 : decode cX0_init 26 = .ok (.aload_n 0, 1) := by decide +kernel
theorem dX0_init_27 : decode cX0_init 27 = .ok (.getfield 11, 3) := by decide +kernel
theorem dX0_init_30 : decode cX0_init 30 = .ok (.arraylength, 1) := by decide +kernel
theorem dX0_init_31 : decode cX0_init 31 = .ok (.if_icmp .ge 22, 3) := by decide +kernel
theorem dX0_init_34 : decode cX0_init 34 = .ok (.aload_n 0, 1) := by decide +kernel
theorem dX0_init_35 : decode cX0_init 35 = .ok (.getfield 11, 3) := by decide +kernel
theorem dX0_init_38 : decode cX0_init 38 = .ok (.iload_n 1, 1) := by decide +kernel
theorem dX0_init_39 : decode cX0_init 39 = .ok (.new 9, 3) := by decide +kernel
theorem dX0_init_42 : decode cX0_init 42 = .ok (.dup, 1) := by decide +kernel
theorem dX0_init_43 : decode cX0_init 43 = .ok (.invokespecial 17, 3) := by decide +kernel
theorem dX0_init_46 : decode cX0_init 46 = .ok (.aastore, 1) := by decide +kernel
theorem dX0_init_47 : decode cX0_init 47 = .ok (.iinc 1 1, 3) := by decide +kernel
theorem dX0_init_50 : decode cX0_init 50 = .ok (.goto (-25), 3) := by decide +kernel
theorem dX0_init_53 : decode cX0_init 53 = .ok (.return_, 1) := by decide +kernel
theorem dX0_record_0 : decode cX0_record 0 = .ok (.aload_n 0, 1) := by decide +kernel
theorem dX0_record_1 : decode cX0_record 1 = .ok (.getfield 22, 3) := by decide +kernel
theorem dX0_record_4 : decode cX0_record 4 = .ok (.iconst 4, 1) := by decide +kernel
theorem dX0_record_5 : decode cX0_record 5 = .ok (.if_icmp .lt 7, 3) := by decide +kernel
theorem dX0_record_8 : decode cX0_record 8 = .ok (.aload_n 0, 1) := by decide +kernel
theorem dX0_record_9 : decode cX0_record 9 = .ok (.invokevirtual 26, 3) := by decide +kernel
theorem dX0_record_12 : decode cX0_record 12 = .ok (.aload_n 0, 1) := by decide +kernel
theorem dX0_record_13 : decode cX0_record 13 = .ok (.aload_n 0, 1) := by decide +kernel
theorem dX0_record_14 : decode cX0_record 14 = .ok (.getfield 22, 3) := by decide +kernel
theorem dX0_record_17 : decode cX0_record 17 = .ok (.invokevirtual 29, 3) := by decide +kernel
theorem dX0_record_20 : decode cX0_record 20 = .ok (.astore_n 2, 1) := by decide +kernel
theorem dX0_record_21 : decode cX0_record 21 = .ok (.aload_n 2, 1) := by decide +kernel
theorem dX0_record_22 : decode cX0_record 22 = .ok (.ifnull 18, 3) := by decide +kernel
theorem dX0_record_25 : decode cX0_record 25 = .ok (.aload_n 2, 1) := by decide +kernel
theorem dX0_record_26 : decode cX0_record 26 = .ok (.aload_n 1, 1) := by decide +kernel
theorem dX0_record_27 : decode cX0_record 27 = .ok (.invokevirtual 33, 3) := by decide +kernel
theorem dX0_record_30 : decode cX0_record 30 = .ok (.aload_n 0, 1) := by decide +kernel
theorem dX0_record_31 : decode cX0_record 31 = .ok (.dup, 1) := by decide +kernel
theorem dX0_record_32 : decode cX0_record 32 = .ok (.getfield 22, 3) := by decide +kernel
theorem dX0_record_35 : decode cX0_record 35 = .ok (.iconst 1, 1) := by decide +kernel
theorem dX0_record_36 : decode cX0_record 36 = .ok (.iadd, 1) := by decide +kernel
theorem dX0_record_37 : decode cX0_record 37 = .ok (.putfield 22, 3) := by decide +kernel
theorem dX0_record_40 : decode cX0_record 40 = .ok (.return_, 1) := by decide +kernel
theorem dX0_takeLatest_0 : decode cX0_takeLatest 0 = .ok (.aload_n 0, 1) := by decide +kernel
theorem dX0_takeLatest_1 : decode cX0_takeLatest 1 = .ok (.aload_n 0, 1) := by decide +kernel
theorem dX0_takeLatest_2 : decode cX0_takeLatest 2 = .ok (.getfield 22, 3) := by decide +kernel
theorem dX0_takeLatest_5 : decode cX0_takeLatest 5 = .ok (.iconst 1, 1) := by decide +kernel
theorem dX0_takeLatest_6 : decode cX0_takeLatest 6 = .ok (.isub, 1) := by decide +kernel
theorem dX0_takeLatest_7 : decode cX0_takeLatest 7 = .ok (.invokevirtual 29, 3) := by decide +kernel
theorem dX0_takeLatest_10 : decode cX0_takeLatest 10 = .ok (.astore_n 2, 1) := by decide +kernel
theorem dX0_takeLatest_11 : decode cX0_takeLatest 11 = .ok (.aload_n 2, 1) := by decide +kernel
theorem dX0_takeLatest_12 : decode cX0_takeLatest 12 = .ok (.ifnonnull 6, 3) := by decide +kernel
theorem dX0_takeLatest_15 : decode cX0_takeLatest 15 = .ok (.bipush (-5), 2) := by decide +kernel
theorem dX0_takeLatest_17 : decode cX0_takeLatest 17 = .ok (.ireturn, 1) := by decide +kernel
theorem dX0_takeLatest_18 : decode cX0_takeLatest 18 = .ok (.aload_n 1, 1) := by decide +kernel
theorem dX0_takeLatest_19 : decode cX0_takeLatest 19 = .ok (.aload_n 2, 1) := by decide +kernel
theorem dX0_takeLatest_20 : decode cX0_takeLatest 20 = .ok (.invokevirtual 33, 3) := by decide +kernel
theorem dX0_takeLatest_23 : decode cX0_takeLatest 23 = .ok (.aload_n 0, 1) := by decide +kernel
theorem dX0_takeLatest_24 : decode cX0_takeLatest 24 = .ok (.dup, 1) := by decide +kernel
theorem dX0_takeLatest_25 : decode cX0_takeLatest 25 = .ok (.getfield 22, 3) := by decide +kernel
theorem dX0_takeLatest_28 : decode cX0_takeLatest 28 = .ok (.iconst 1, 1) := by decide +kernel
theorem dX0_takeLatest_29 : decode cX0_takeLatest 29 = .ok (.isub, 1) := by decide +kernel
theorem dX0_takeLatest_30 : decode cX0_takeLatest 30 = .ok (.putfield 22, 3) := by decide +kernel
theorem dX0_takeLatest_33 : decode cX0_takeLatest 33 = .ok (.aload_n 0, 1) := by decide +kernel
theorem dX0_takeLatest_34 : decode cX0_takeLatest 34 = .ok (.getfield 22, 3) := by decide +kernel
theorem dX0_takeLatest_37 : decode cX0_takeLatest 37 = .ok (.ireturn, 1) := by decide +kernel
theorem dX0_takeSnapshot_0 : decode cX0_takeSnapshot 0 = .ok (.aload_n 0, 1) := by decide +kernel
theorem dX0_takeSnapshot_1 : decode cX0_takeSnapshot 1 = .ok (.getfield 18, 3) := by decide +kernel
theorem dX0_takeSnapshot_4 : decode cX0_takeSnapshot 4 = .ok (.aload_n 1, 1) := by decide +kernel
theorem dX0_takeSnapshot_5 : decode cX0_takeSnapshot 5 = .ok (.invokevirtual 33, 3) := by decide +kernel
theorem dX0_takeSnapshot_8 : decode cX0_takeSnapshot 8 = .ok (.aload_n 0, 1) := by decide +kernel
theorem dX0_takeSnapshot_9 : decode cX0_takeSnapshot 9 = .ok (.iconst 1, 1) := by decide +kernel
theorem dX0_takeSnapshot_10 : decode cX0_takeSnapshot 10 = .ok (.putfield 37, 3) := by decide +kernel
theorem dX0_takeSnapshot_13 : decode cX0_takeSnapshot 13 = .ok (.return_, 1) := by decide +kernel
theorem dX0_giveSnapshot_0 : decode cX0_giveSnapshot 0 = .ok (.aload_n 0, 1) := by decide +kernel
theorem dX0_giveSnapshot_1 : decode cX0_giveSnapshot 1 = .ok (.getfield 37, 3) := by decide +kernel
theorem dX0_giveSnapshot_4 : decode cX0_giveSnapshot 4 = .ok (.ifCond .ne 6, 3) := by decide +kernel
theorem dX0_giveSnapshot_7 : decode cX0_giveSnapshot 7 = .ok (.bipush (-5), 2) := by decide +kernel
theorem dX0_giveSnapshot_9 : decode cX0_giveSnapshot 9 = .ok (.ireturn, 1) := by decide +kernel
theorem dX0_giveSnapshot_10 : decode cX0_giveSnapshot 10 = .ok (.aload_n 1, 1) := by decide +kernel
theorem dX0_giveSnapshot_11 : decode cX0_giveSnapshot 11 = .ok (.aload_n 0, 1) := by decide +kernel
theorem dX0_giveSnapshot_12 : decode cX0_giveSnapshot 12 = .ok (.getfield 18, 3) := by decide +kernel
theorem dX0_giveSnapshot_15 : decode cX0_giveSnapshot 15 = .ok (.invokevirtual 33, 3) := by decide +kernel
theorem dX0_giveSnapshot_18 : decode cX0_giveSnapshot 18 = .ok (.aload_n 1, 1) := by decide +kernel
theorem dX0_giveSnapshot_19 : decode cX0_giveSnapshot 19 = .ok (.getfield 41, 3) := by decide +kernel
theorem dX0_giveSnapshot_22 : decode cX0_giveSnapshot 22 = .ok (.ireturn, 1) := by decide +kernel
theorem dX0_slotAt_0 : decode cX0_slotAt 0 = .ok (.iload_n 1, 1) := by decide +kernel
theorem dX0_slotAt_1 : decode cX0_slotAt 1 = .ok (.ifCond .lt 21, 3) := by decide +kernel
theorem dX0_slotAt_4 : decode cX0_slotAt 4 = .ok (.iload_n 1, 1) := by decide +kernel
theorem dX0_slotAt_5 : decode cX0_slotAt 5 = .ok (.aload_n 0, 1) := by decide +kernel
theorem dX0_slotAt_6 : decode cX0_slotAt 6 = .ok (.getfield 11, 3) := by decide +kernel
theorem dX0_slotAt_9 : decode cX0_slotAt 9 = .ok (.arraylength, 1) := by decide +kernel
theorem dX0_slotAt_10 : decode cX0_slotAt 10 = .ok (.if_icmp .ge 12, 3) := by decide +kernel
theorem dX0_slotAt_13 : decode cX0_slotAt 13 = .ok (.aload_n 0, 1) := by decide +kernel
theorem dX0_slotAt_14 : decode cX0_slotAt 14 = .ok (.getfield 11, 3) := by decide +kernel
theorem dX0_slotAt_17 : decode cX0_slotAt 17 = .ok (.iload_n 1, 1) := by decide +kernel
theorem dX0_slotAt_18 : decode cX0_slotAt 18 = .ok (.aaload, 1) := by decide +kernel
theorem dX0_slotAt_19 : decode cX0_slotAt 19 = .ok (.goto 4, 3) := by decide +kernel
theorem dX0_slotAt_22 : decode cX0_slotAt 22 = .ok (.aconst_null, 1) := by decide +kernel
theorem dX0_slotAt_23 : decode cX0_slotAt 23 = .ok (.areturn, 1) := by decide +kernel
theorem dX0_dropOldest_0 : decode cX0_dropOldest 0 = .ok (.aload_n 0, 1) := by decide +kernel
theorem dX0_dropOldest_1 : decode cX0_dropOldest 1 = .ok (.iconst 0, 1) := by decide +kernel
theorem dX0_dropOldest_2 : decode cX0_dropOldest 2 = .ok (.invokevirtual 29, 3) := by decide +kernel
theorem dX0_dropOldest_5 : decode cX0_dropOldest 5 = .ok (.astore_n 1, 1) := by decide +kernel
theorem dX0_dropOldest_6 : decode cX0_dropOldest 6 = .ok (.iconst 1, 1) := by decide +kernel
theorem dX0_dropOldest_7 : decode cX0_dropOldest 7 = .ok (.istore_n 2, 1) := by decide +kernel
theorem dX0_dropOldest_8 : decode cX0_dropOldest 8 = .ok (.iload_n 2, 1) := by decide +kernel
theorem dX0_dropOldest_9 : decode cX0_dropOldest 9 = .ok (.aload_n 0, 1) := by decide +kernel
theorem dX0_dropOldest_10 : decode cX0_dropOldest 10 = .ok (.getfield 11, 3) := by decide +kernel
theorem dX0_dropOldest_13 : decode cX0_dropOldest 13 = .ok (.arraylength, 1) := by decide +kernel
theorem dX0_dropOldest_14 : decode cX0_dropOldest 14 = .ok (.if_icmp .ge 23, 3) := by decide +kernel
theorem dX0_dropOldest_17 : decode cX0_dropOldest 17 = .ok (.aload_n 0, 1) := by decide +kernel
theorem dX0_dropOldest_18 : decode cX0_dropOldest 18 = .ok (.getfield 11, 3) := by decide +kernel
theorem dX0_dropOldest_21 : decode cX0_dropOldest 21 = .ok (.iload_n 2, 1) := by decide +kernel
theorem dX0_dropOldest_22 : decode cX0_dropOldest 22 = .ok (.iconst 1, 1) := by decide +kernel
theorem dX0_dropOldest_23 : decode cX0_dropOldest 23 = .ok (.isub, 1) := by decide +kernel
theorem dX0_dropOldest_24 : decode cX0_dropOldest 24 = .ok (.aload_n 0, 1) := by decide +kernel
theorem dX0_dropOldest_25 : decode cX0_dropOldest 25 = .ok (.getfield 11, 3) := by decide +kernel
theorem dX0_dropOldest_28 : decode cX0_dropOldest 28 = .ok (.iload_n 2, 1) := by decide +kernel
theorem dX0_dropOldest_29 : decode cX0_dropOldest 29 = .ok (.aaload, 1) := by decide +kernel
theorem dX0_dropOldest_30 : decode cX0_dropOldest 30 = .ok (.aastore, 1) := by decide +kernel
theorem dX0_dropOldest_31 : decode cX0_dropOldest 31 = .ok (.iinc 2 1, 3) := by decide +kernel
theorem dX0_dropOldest_34 : decode cX0_dropOldest 34 = .ok (.goto (-26), 3) := by decide +kernel
theorem dX0_dropOldest_37 : decode cX0_dropOldest 37 = .ok (.aload_n 0, 1) := by decide +kernel
theorem dX0_dropOldest_38 : decode cX0_dropOldest 38 = .ok (.getfield 11, 3) := by decide +kernel
theorem dX0_dropOldest_41 : decode cX0_dropOldest 41 = .ok (.iconst 3, 1) := by decide +kernel
theorem dX0_dropOldest_42 : decode cX0_dropOldest 42 = .ok (.aload_n 1, 1) := by decide +kernel
theorem dX0_dropOldest_43 : decode cX0_dropOldest 43 = .ok (.aastore, 1) := by decide +kernel
theorem dX0_dropOldest_44 : decode cX0_dropOldest 44 = .ok (.aload_n 0, 1) := by decide +kernel
theorem dX0_dropOldest_45 : decode cX0_dropOldest 45 = .ok (.dup, 1) := by decide +kernel
theorem dX0_dropOldest_46 : decode cX0_dropOldest 46 = .ok (.getfield 22, 3) := by decide +kernel
theorem dX0_dropOldest_49 : decode cX0_dropOldest 49 = .ok (.iconst 1, 1) := by decide +kernel
theorem dX0_dropOldest_50 : decode cX0_dropOldest 50 = .ok (.isub, 1) := by decide +kernel
theorem dX0_dropOldest_51 : decode cX0_dropOldest 51 = .ok (.putfield 22, 3) := by decide +kernel
theorem dX0_dropOldest_54 : decode cX0_dropOldest 54 = .ok (.return_, 1) := by decide +kernel
theorem dX1_init_0 : decode cX1_init 0 = .ok (.aload_n 0, 1) := by decide +kernel
theorem dX1_init_1 : decode cX1_init 1 = .ok (.invokespecial 3, 3) := by decide +kernel
theorem dX1_init_4 : decode cX1_init 4 = .ok (.aload_n 0, 1) := by decide +kernel
theorem dX1_init_5 : decode cX1_init 5 = .ok (.iconst 5, 1) := by decide +kernel
theorem dX1_init_6 : decode cX1_init 6 = .ok (.newarray .long, 2) := by decide +kernel
theorem dX1_init_8 : decode cX1_init 8 = .ok (.putfield 9, 3) := by decide +kernel
theorem dX1_init_11 : decode cX1_init 11 = .ok (.aload_n 0, 1) := by decide +kernel
theorem dX1_init_12 : decode cX1_init 12 = .ok (.aload_n 1, 1) := by decide +kernel
theorem dX1_init_13 : decode cX1_init 13 = .ok (.putfield 15, 3) := by decide +kernel
theorem dX1_init_16 : decode cX1_init 16 = .ok (.return_, 1) := by decide +kernel
theorem dX1_prepare_0 : decode cX1_prepare 0 = .ok (.aload_n 0, 1) := by decide +kernel
theorem dX1_prepare_1 : decode cX1_prepare 1 = .ok (.aload_n 0, 1) := by decide +kernel
theorem dX1_prepare_2 : decode cX1_prepare 2 = .ok (.getfield 15, 3) := by decide +kernel
theorem dX1_prepare_5 : decode cX1_prepare 5 = .ok (.getfield 19, 3) := by decide +kernel
theorem dX1_prepare_8 : decode cX1_prepare 8 = .ok (.iload_n 1, 1) := by decide +kernel
theorem dX1_prepare_9 : decode cX1_prepare 9 = .ok (.invokestatic 25, 3) := by decide +kernel
theorem dX1_prepare_12 : decode cX1_prepare 12 = .ok (.putfield 29, 3) := by decide +kernel
theorem dX1_prepare_15 : decode cX1_prepare 15 = .ok (.aload_n 0, 1) := by decide +kernel
theorem dX1_prepare_16 : decode cX1_prepare 16 = .ok (.aload_n 0, 1) := by decide +kernel
theorem dX1_prepare_17 : decode cX1_prepare 17 = .ok (.getfield 15, 3) := by decide +kernel
theorem dX1_prepare_20 : decode cX1_prepare 20 = .ok (.getfield 33, 3) := by decide +kernel
theorem dX1_prepare_23 : decode cX1_prepare 23 = .ok (.iload_n 1, 1) := by decide +kernel
theorem dX1_prepare_24 : decode cX1_prepare 24 = .ok (.invokestatic 25, 3) := by decide +kernel
theorem dX1_prepare_27 : decode cX1_prepare 27 = .ok (.putfield 36, 3) := by decide +kernel
theorem dX1_prepare_30 : decode cX1_prepare 30 = .ok (.aload_n 0, 1) := by decide +kernel
theorem dX1_prepare_31 : decode cX1_prepare 31 = .ok (.aload_n 0, 1) := by decide +kernel
theorem dX1_prepare_32 : decode cX1_prepare 32 = .ok (.getfield 29, 3) := by decide +kernel
theorem dX1_prepare_35 : decode cX1_prepare 35 = .ok (.invokestatic 39, 3) := by decide +kernel
theorem dX1_prepare_38 : decode cX1_prepare 38 = .ok (.invokestatic 43, 3) := by decide +kernel
theorem dX1_prepare_41 : decode cX1_prepare 41 = .ok (.putfield 47, 3) := by decide +kernel
theorem dX1_prepare_44 : decode cX1_prepare 44 = .ok (.aload_n 0, 1) := by decide +kernel
theorem dX1_prepare_45 : decode cX1_prepare 45 = .ok (.iconst 1, 1) := by decide +kernel
theorem dX1_prepare_46 : decode cX1_prepare 46 = .ok (.aload_n 0, 1) := by decide +kernel
theorem dX1_prepare_47 : decode cX1_prepare 47 = .ok (.getfield 29, 3) := by decide +kernel
theorem dX1_prepare_50 : decode cX1_prepare 50 = .ok (.isub, 1) := by decide +kernel
theorem dX1_prepare_51 : decode cX1_prepare 51 = .ok (.invokestatic 39, 3) := by decide +kernel
theorem dX1_prepare_54 : decode cX1_prepare 54 = .ok (.invokestatic 43, 3) := by decide +kernel
theorem dX1_prepare_57 : decode cX1_prepare 57 = .ok (.putfield 51, 3) := by decide +kernel
theorem dX1_prepare_60 : decode cX1_prepare 60 = .ok (.aload_n 0, 1) := by decide +kernel
theorem dX1_prepare_61 : decode cX1_prepare 61 = .ok (.lconst 0, 1) := by decide +kernel
theorem dX1_prepare_62 : decode cX1_prepare 62 = .ok (.putfield 54, 3) := by decide +kernel
theorem dX1_prepare_65 : decode cX1_prepare 65 = .ok (.iconst 0, 1) := by decide +kernel
theorem dX1_prepare_66 : decode cX1_prepare 66 = .ok (.istore_n 2, 1) := by decide +kernel
theorem dX1_prepare_67 : decode cX1_prepare 67 = .ok (.iload_n 2, 1) := by decide +kernel
theorem dX1_prepare_68 : decode cX1_prepare 68 = .ok (.aload_n 0, 1) := by decide +kernel
theorem dX1_prepare_69 : decode cX1_prepare 69 = .ok (.getfield 9, 3) := by decide +kernel
theorem dX1_prepare_72 : decode cX1_prepare 72 = .ok (.arraylength, 1) := by decide +kernel
theorem dX1_prepare_73 : decode cX1_prepare 73 = .ok (.if_icmp .ge 16, 3) := by decide +kernel
theorem dX1_prepare_76 : decode cX1_prepare 76 = .ok (.aload_n 0, 1) := by decide +kernel
theorem dX1_prepare_77 : decode cX1_prepare 77 = .ok (.getfield 9, 3) := by decide +kernel
theorem dX1_prepare_80 : decode cX1_prepare 80 = .ok (.iload_n 2, 1) := by decide +kernel
theorem dX1_prepare_81 : decode cX1_prepare 81 = .ok (.lconst 0, 1) := by decide +kernel
theorem dX1_prepare_82 : decode cX1_prepare 82 = .ok (.lastore, 1) := by decide +kernel
theorem dX1_prepare_83 : decode cX1_prepare 83 = .ok (.iinc 2 1, 3) := by decide +kernel
theorem dX1_prepare_86 : decode cX1_prepare 86 = .ok (.goto (-19), 3) := by decide +kernel
theorem dX1_prepare_89 : decode cX1_prepare 89 = .ok (.iconst 0, 1) := by decide +kernel
theorem dX1_prepare_90 : decode cX1_prepare 90 = .ok (.istore_n 2, 1) := by decide +kernel
theorem dX1_prepare_91 : decode cX1_prepare 91 = .ok (.iload_n 2, 1) := by decide +kernel
theorem dX1_prepare_92 : decode cX1_prepare 92 = .ok (.bipush 36, 2) := by decide +kernel
theorem dX1_prepare_94 : decode cX1_prepare 94 = .ok (.if_icmp .ge 81, 3) := by decide +kernel
theorem dX1_prepare_97 : decode cX1_prepare 97 = .ok (.aload_n 0, 1) := by decide +kernel
theorem dX1_prepare_98 : decode cX1_prepare 98 = .ok (.getfield 15, 3) := by decide +kernel
theorem dX1_prepare_101 : decode cX1_prepare 101 = .ok (.getfield 57, 3) := by decide +kernel
theorem dX1_prepare_104 : decode cX1_prepare 104 = .ok (.iload_n 2, 1) := by decide +kernel
theorem dX1_prepare_105 : decode cX1_prepare 105 = .ok (.invokestatic 25, 3) := by decide +kernel
theorem dX1_prepare_108 : decode cX1_prepare 108 = .ok (.iconst 1, 1) := by decide +kernel
theorem dX1_prepare_109 : decode cX1_prepare 109 = .ok (.if_icmp .ne 16, 3) := by decide +kernel
theorem dX1_prepare_112 : decode cX1_prepare 112 = .ok (.aload_n 0, 1) := by decide +kernel
theorem dX1_prepare_113 : decode cX1_prepare 113 = .ok (.dup, 1) := by decide +kernel
theorem dX1_prepare_114 : decode cX1_prepare 114 = .ok (.getfield 54, 3) := by decide +kernel
theorem dX1_prepare_117 : decode cX1_prepare 117 = .ok (.iload_n 2, 1) := by decide +kernel
theorem dX1_prepare_118 : decode cX1_prepare 118 = .ok (.invokestatic 43, 3) := by decide +kernel
theorem dX1_prepare_121 : decode cX1_prepare 121 = .ok (.lor, 1) := by decide +kernel
theorem dX1_prepare_122 : decode cX1_prepare 122 = .ok (.putfield 54, 3) := by decide +kernel
theorem dX1_prepare_125 : decode cX1_prepare 125 = .ok (.iconst 0, 1) := by decide +kernel
theorem dX1_prepare_126 : decode cX1_prepare 126 = .ok (.aload_n 0, 1) := by decide +kernel
theorem dX1_prepare_127 : decode cX1_prepare 127 = .ok (.getfield 15, 3) := by decide +kernel
theorem dX1_prepare_130 : decode cX1_prepare 130 = .ok (.getfield 60, 3) := by decide +kernel
theorem dX1_prepare_133 : decode cX1_prepare 133 = .ok (.iload_n 2, 1) := by decide +kernel
theorem dX1_prepare_134 : decode cX1_prepare 134 = .ok (.invokestatic 25, 3) := by decide +kernel
theorem dX1_prepare_137 : decode cX1_prepare 137 = .ok (.invokestatic 63, 3) := by decide +kernel
theorem dX1_prepare_140 : decode cX1_prepare 140 = .ok (.istore_n 3, 1) := by decide +kernel
theorem dX1_prepare_141 : decode cX1_prepare 141 = .ok (.iload_n 3, 1) := by decide +kernel
theorem dX1_prepare_142 : decode cX1_prepare 142 = .ok (.aload_n 0, 1) := by decide +kernel
theorem dX1_prepare_143 : decode cX1_prepare 143 = .ok (.getfield 9, 3) := by decide +kernel
theorem dX1_prepare_146 : decode cX1_prepare 146 = .ok (.arraylength, 1) := by decide +kernel
theorem dX1_prepare_147 : decode cX1_prepare 147 = .ok (.if_icmp .ge 22, 3) := by decide +kernel
theorem dX1_prepare_150 : decode cX1_prepare 150 = .ok (.aload_n 0, 1) := by decide +kernel
theorem dX1_prepare_151 : decode cX1_prepare 151 = .ok (.getfield 9, 3) := by decide +kernel
theorem dX1_prepare_154 : decode cX1_prepare 154 = .ok (.iload_n 3, 1) := by decide +kernel
theorem dX1_prepare_155 : decode cX1_prepare 155 = .ok (.dup2, 1) := by decide +kernel
theorem dX1_prepare_156 : decode cX1_prepare 156 = .ok (.laload, 1) := by decide +kernel
theorem dX1_prepare_157 : decode cX1_prepare 157 = .ok (.iload_n 2, 1) := by decide +kernel
theorem dX1_prepare_158 : decode cX1_prepare 158 = .ok (.invokestatic 43, 3) := by decide +kernel
theorem dX1_prepare_161 : decode cX1_prepare 161 = .ok (.lor, 1) := by decide +kernel
theorem dX1_prepare_162 : decode cX1_prepare 162 = .ok (.lastore, 1) := by decide +kernel
theorem dX1_prepare_163 : decode cX1_prepare 163 = .ok (.iinc 3 1, 3) := by decide +kernel
theorem dX1_prepare_166 : decode cX1_prepare 166 = .ok (.goto (-25), 3) := by decide +kernel
theorem dX1_prepare_169 : decode cX1_prepare 169 = .ok (.iinc 2 1, 3) := by decide +kernel
theorem dX1_prepare_172 : decode cX1_prepare 172 = .ok (.goto (-81), 3) := by decide +kernel
theorem dX1_prepare_175 : decode cX1_prepare 175 = .ok (.return_, 1) := by decide +kernel
theorem dX1_turnsForwards_0 : decode cX1_turnsForwards 0 = .ok (.iload_n 1, 1) := by decide +kernel
theorem dX1_turnsForwards_1 : decode cX1_turnsForwards 1 = .ok (.invokestatic 43, 3) := by decide +kernel
theorem dX1_turnsForwards_4 : decode cX1_turnsForwards 4 = .ok (.lstore_n 3, 1) := by decide +kernel
theorem dX1_turnsForwards_5 : decode cX1_turnsForwards 5 = .ok (.iload_n 2, 1) := by decide +kernel
theorem dX1_turnsForwards_6 : decode cX1_turnsForwards 6 = .ok (.istore 5, 2) := by decide +kernel
theorem dX1_turnsForwards_8 : decode cX1_turnsForwards 8 = .ok (.iload 5, 2) := by decide +kernel
theorem dX1_turnsForwards_10 : decode cX1_turnsForwards 10 = .ok (.aload_n 0, 1) := by decide +kernel
theorem dX1_turnsForwards_11 : decode cX1_turnsForwards 11 = .ok (.getfield 15, 3) := by decide +kernel
theorem dX1_turnsForwards_14 : decode cX1_turnsForwards 14 = .ok (.getfield 69, 3) := by decide +kernel
theorem dX1_turnsForwards_17 : decode cX1_turnsForwards 17 = .ok (.if_icmp .gt 71, 3) := by decide +kernel
theorem dX1_turnsForwards_20 : decode cX1_turnsForwards 20 = .ok (.lload_n 3, 1) := by decide +kernel
theorem dX1_turnsForwards_21 : decode cX1_turnsForwards 21 = .ok (.lconst 0, 1) := by decide +kernel
theorem dX1_turnsForwards_22 : decode cX1_turnsForwards 22 = .ok (.lcmp, 1) := by decide +kernel
theorem dX1_turnsForwards_23 : decode cX1_turnsForwards 23 = .ok (.ifCond .eq 65, 3) := by decide +kernel
theorem dX1_turnsForwards_26 : decode cX1_turnsForwards 26 = .ok (.iload 5, 2) := by decide +kernel
theorem dX1_turnsForwards_28 : decode cX1_turnsForwards 28 = .ok (.iconst 2, 1) := by decide +kernel
theorem dX1_turnsForwards_29 : decode cX1_turnsForwards 29 = .ok (.irem, 1) := by decide +kernel
theorem dX1_turnsForwards_30 : decode cX1_turnsForwards 30 = .ok (.aload_n 0, 1) := by decide +kernel
theorem dX1_turnsForwards_31 : decode cX1_turnsForwards 31 = .ok (.getfield 29, 3) := by decide +kernel
theorem dX1_turnsForwards_34 : decode cX1_turnsForwards 34 = .ok (.if_icmp .ne 35, 3) := by decide +kernel
theorem dX1_turnsForwards_37 : decode cX1_turnsForwards 37 = .ok (.lload_n 3, 1) := by decide +kernel
theorem dX1_turnsForwards_38 : decode cX1_turnsForwards 38 = .ok (.aload_n 0, 1) := by decide +kernel
theorem dX1_turnsForwards_39 : decode cX1_turnsForwards 39 = .ok (.lload_n 3, 1) := by decide +kernel
theorem dX1_turnsForwards_40 : decode cX1_turnsForwards 40 = .ok (.aload_n 0, 1) := by decide +kernel
theorem dX1_turnsForwards_41 : decode cX1_turnsForwards 41 = .ok (.iload 5, 2) := by decide +kernel
theorem dX1_turnsForwards_43 : decode cX1_turnsForwards 43 = .ok (.invokevirtual 72, 3) := by decide +kernel
theorem dX1_turnsForwards_46 : decode cX1_turnsForwards 46 = .ok (.invokevirtual 75, 3) := by decide +kernel
theorem dX1_turnsForwards_49 : decode cX1_turnsForwards 49 = .ok (.lor, 1) := by decide +kernel
theorem dX1_turnsForwards_50 : decode cX1_turnsForwards 50 = .ok (.lstore_n 3, 1) := by decide +kernel
theorem dX1_turnsForwards_51 : decode cX1_turnsForwards 51 = .ok (.lload_n 3, 1) := by decide +kernel
theorem dX1_turnsForwards_52 : decode cX1_turnsForwards 52 = .ok (.aload_n 0, 1) := by decide +kernel
theorem dX1_turnsForwards_53 : decode cX1_turnsForwards 53 = .ok (.getfield 47, 3) := by decide +kernel
theorem dX1_turnsForwards_56 : decode cX1_turnsForwards 56 = .ok (.land, 1) := by decide +kernel
theorem dX1_turnsForwards_57 : decode cX1_turnsForwards 57 = .ok (.lconst 0, 1) := by decide +kernel
theorem dX1_turnsForwards_58 : decode cX1_turnsForwards 58 = .ok (.lcmp, 1) := by decide +kernel
theorem dX1_turnsForwards_59 : decode cX1_turnsForwards 59 = .ok (.ifCond .eq 10, 3) := by decide +kernel
theorem dX1_turnsForwards_62 : decode cX1_turnsForwards 62 = .ok (.iload 5, 2) := by decide +kernel
theorem dX1_turnsForwards_64 : decode cX1_turnsForwards 64 = .ok (.iload_n 2, 1) := by decide +kernel
theorem dX1_turnsForwards_65 : decode cX1_turnsForwards 65 = .ok (.isub, 1) := by decide +kernel
theorem dX1_turnsForwards_66 : decode cX1_turnsForwards 66 = .ok (.iconst 1, 1) := by decide +kernel
theorem dX1_turnsForwards_67 : decode cX1_turnsForwards 67 = .ok (.iadd, 1) := by decide +kernel
theorem dX1_turnsForwards_68 : decode cX1_turnsForwards 68 = .ok (.ireturn, 1) := by decide +kernel
theorem dX1_turnsForwards_69 : decode cX1_turnsForwards 69 = .ok (.lload_n 3, 1) := by decide +kernel
theorem dX1_turnsForwards_70 : decode cX1_turnsForwards 70 = .ok (.aload_n 0, 1) := by decide +kernel
theorem dX1_turnsForwards_71 : decode cX1_turnsForwards 71 = .ok (.iload 5, 2) := by decide +kernel
theorem dX1_turnsForwards_73 : decode cX1_turnsForwards 73 = .ok (.invokevirtual 79, 3) := by decide +kernel
theorem dX1_turnsForwards_76 : decode cX1_turnsForwards 76 = .ok (.ldc2_w 82, 3) := by decide +kernel
theorem dX1_turnsForwards_79 : decode cX1_turnsForwards 79 = .ok (.lxor, 1) := by decide +kernel
theorem dX1_turnsForwards_80 : decode cX1_turnsForwards 80 = .ok (.land, 1) := by decide +kernel
theorem dX1_turnsForwards_81 : decode cX1_turnsForwards 81 = .ok (.lstore_n 3, 1) := by decide +kernel
theorem dX1_turnsForwards_82 : decode cX1_turnsForwards 82 = .ok (.iinc 5 1, 3) := by decide +kernel
theorem dX1_turnsForwards_85 : decode cX1_turnsForwards 85 = .ok (.goto (-77), 3) := by decide +kernel
theorem dX1_turnsForwards_88 : decode cX1_turnsForwards 88 = .ok (.bipush (-5), 2) := by decide +kernel
theorem dX1_turnsForwards_90 : decode cX1_turnsForwards 90 = .ok (.ireturn, 1) := by decide +kernel
theorem dX1_turnsBackwards_0 : decode cX1_turnsBackwards 0 = .ok (.iload_n 2, 1) := by decide +kernel
theorem dX1_turnsBackwards_1 : decode cX1_turnsBackwards 1 = .ok (.istore_n 3, 1) := by decide +kernel
theorem dX1_turnsBackwards_2 : decode cX1_turnsBackwards 2 = .ok (.iload_n 3, 1) := by decide +kernel
theorem dX1_turnsBackwards_3 : decode cX1_turnsBackwards 3 = .ok (.aload_n 0, 1) := by decide +kernel
theorem dX1_turnsBackwards_4 : decode cX1_turnsBackwards 4 = .ok (.getfield 15, 3) := by decide +kernel
theorem dX1_turnsBackwards_7 : decode cX1_turnsBackwards 7 = .ok (.getfield 69, 3) := by decide +kernel
theorem dX1_turnsBackwards_10 : decode cX1_turnsBackwards 10 = .ok (.if_icmp .gt 41, 3) := by decide +kernel
theorem dX1_turnsBackwards_13 : decode cX1_turnsBackwards 13 = .ok (.iload_n 3, 1) := by decide +kernel
theorem dX1_turnsBackwards_14 : decode cX1_turnsBackwards 14 = .ok (.iconst 2, 1) := by decide +kernel
theorem dX1_turnsBackwards_15 : decode cX1_turnsBackwards 15 = .ok (.irem, 1) := by decide +kernel
theorem dX1_turnsBackwards_16 : decode cX1_turnsBackwards 16 = .ok (.aload_n 0, 1) := by decide +kernel
theorem dX1_turnsBackwards_17 : decode cX1_turnsBackwards 17 = .ok (.getfield 29, 3) := by decide +kernel
theorem dX1_turnsBackwards_20 : decode cX1_turnsBackwards 20 = .ok (.if_icmp .ne 25, 3) := by decide +kernel
theorem dX1_turnsBackwards_23 : decode cX1_turnsBackwards 23 = .ok (.aload_n 0, 1) := by decide +kernel
theorem dX1_turnsBackwards_24 : decode cX1_turnsBackwards 24 = .ok (.iload_n 2, 1) := by decide +kernel
theorem dX1_turnsBackwards_25 : decode cX1_turnsBackwards 25 = .ok (.iload_n 3, 1) := by decide +kernel
theorem dX1_turnsBackwards_26 : decode cX1_turnsBackwards 26 = .ok (.invokevirtual 84, 3) := by decide +kernel
theorem dX1_turnsBackwards_29 : decode cX1_turnsBackwards 29 = .ok (.iload_n 1, 1) := by decide +kernel
theorem dX1_turnsBackwards_30 : decode cX1_turnsBackwards 30 = .ok (.invokestatic 43, 3) := by decide +kernel
theorem dX1_turnsBackwards_33 : decode cX1_turnsBackwards 33 = .ok (.land, 1) := by decide +kernel
theorem dX1_turnsBackwards_34 : decode cX1_turnsBackwards 34 = .ok (.lconst 0, 1) := by decide +kernel
theorem dX1_turnsBackwards_35 : decode cX1_turnsBackwards 35 = .ok (.lcmp, 1) := by decide +kernel
theorem dX1_turnsBackwards_36 : decode cX1_turnsBackwards 36 = .ok (.ifCond .eq 9, 3) := by decide +kernel
theorem dX1_turnsBackwards_39 : decode cX1_turnsBackwards 39 = .ok (.iload_n 3, 1) := by decide +kernel
theorem dX1_turnsBackwards_40 : decode cX1_turnsBackwards 40 = .ok (.iload_n 2, 1) := by decide +kernel
theorem dX1_turnsBackwards_41 : decode cX1_turnsBackwards 41 = .ok (.isub, 1) := by decide +kernel
theorem dX1_turnsBackwards_42 : decode cX1_turnsBackwards 42 = .ok (.iconst 1, 1) := by decide +kernel
theorem dX1_turnsBackwards_43 : decode cX1_turnsBackwards 43 = .ok (.iadd, 1) := by decide +kernel
theorem dX1_turnsBackwards_44 : decode cX1_turnsBackwards 44 = .ok (.ireturn, 1) := by decide +kernel
theorem dX1_turnsBackwards_45 : decode cX1_turnsBackwards 45 = .ok (.iinc 3 1, 3) := by decide +kernel
theorem dX1_turnsBackwards_48 : decode cX1_turnsBackwards 48 = .ok (.goto (-46), 3) := by decide +kernel
theorem dX1_turnsBackwards_51 : decode cX1_turnsBackwards 51 = .ok (.bipush (-5), 2) := by decide +kernel
theorem dX1_turnsBackwards_53 : decode cX1_turnsBackwards 53 = .ok (.ireturn, 1) := by decide +kernel
theorem dX1_turnsBehind_0 : decode cX1_turnsBehind 0 = .ok (.aload_n 0, 1) := by decide +kernel
theorem dX1_turnsBehind_1 : decode cX1_turnsBehind 1 = .ok (.iload_n 2, 1) := by decide +kernel
theorem dX1_turnsBehind_2 : decode cX1_turnsBehind 2 = .ok (.invokevirtual 79, 3) := by decide +kernel
theorem dX1_turnsBehind_5 : decode cX1_turnsBehind 5 = .ok (.iload_n 1, 1) := by decide +kernel
theorem dX1_turnsBehind_6 : decode cX1_turnsBehind 6 = .ok (.invokestatic 43, 3) := by decide +kernel
theorem dX1_turnsBehind_9 : decode cX1_turnsBehind 9 = .ok (.land, 1) := by decide +kernel
theorem dX1_turnsBehind_10 : decode cX1_turnsBehind 10 = .ok (.lconst 0, 1) := by decide +kernel
theorem dX1_turnsBehind_11 : decode cX1_turnsBehind 11 = .ok (.lcmp, 1) := by decide +kernel
theorem dX1_turnsBehind_12 : decode cX1_turnsBehind 12 = .ok (.ifCond .eq 7, 3) := by decide +kernel
theorem dX1_turnsBehind_15 : decode cX1_turnsBehind 15 = .ok (.iconst 1, 1) := by decide +kernel
theorem dX1_turnsBehind_16 : decode cX1_turnsBehind 16 = .ok (.goto 4, 3) := by decide +kernel
theorem dX1_turnsBehind_19 : decode cX1_turnsBehind 19 = .ok (.iconst 0, 1) := by decide +kernel
theorem dX1_turnsBehind_20 : decode cX1_turnsBehind 20 = .ok (.istore_n 3, 1) := by decide +kernel
theorem dX1_turnsBehind_21 : decode cX1_turnsBehind 21 = .ok (.iload_n 3, 1) := by decide +kernel
theorem dX1_turnsBehind_22 : decode cX1_turnsBehind 22 = .ok (.ifCond .eq 8, 3) := by decide +kernel
theorem dX1_turnsBehind_25 : decode cX1_turnsBehind 25 = .ok (.bipush (-5), 2) := by decide +kernel
theorem dX1_turnsBehind_27 : decode cX1_turnsBehind 27 = .ok (.goto 11, 3) := by decide +kernel
theorem dX1_turnsBehind_30 : decode cX1_turnsBehind 30 = .ok (.aload_n 0, 1) := by decide +kernel
theorem dX1_turnsBehind_31 : decode cX1_turnsBehind 31 = .ok (.iload_n 1, 1) := by decide +kernel
theorem dX1_turnsBehind_32 : decode cX1_turnsBehind 32 = .ok (.iload_n 2, 1) := by decide +kernel
theorem dX1_turnsBehind_33 : decode cX1_turnsBehind 33 = .ok (.iconst 1, 1) := by decide +kernel
theorem dX1_turnsBehind_34 : decode cX1_turnsBehind 34 = .ok (.iadd, 1) := by decide +kernel
theorem dX1_turnsBehind_35 : decode cX1_turnsBehind 35 = .ok (.invokevirtual 88, 3) := by decide +kernel
theorem dX1_turnsBehind_38 : decode cX1_turnsBehind 38 = .ok (.ireturn, 1) := by decide +kernel
theorem dX1_cellsThatLeadHome_0 : decode cX1_cellsThatLeadHome 0 = .ok (.aload_n 0, 1) := by decide +kernel
theorem dX1_cellsThatLeadHome_1 : decode cX1_cellsThatLeadHome 1 = .ok (.aload_n 0, 1) := by decide +kernel
theorem dX1_cellsThatLeadHome_2 : decode cX1_cellsThatLeadHome 2 = .ok (.getfield 47, 3) := by decide +kernel
theorem dX1_cellsThatLeadHome_5 : decode cX1_cellsThatLeadHome 5 = .ok (.aload_n 0, 1) := by decide +kernel
theorem dX1_cellsThatLeadHome_6 : decode cX1_cellsThatLeadHome 6 = .ok (.iload_n 2, 1) := by decide +kernel
theorem dX1_cellsThatLeadHome_7 : decode cX1_cellsThatLeadHome 7 = .ok (.invokevirtual 72, 3) := by decide +kernel
theorem dX1_cellsThatLeadHome_10 : decode cX1_cellsThatLeadHome 10 = .ok (.invokevirtual 91, 3) := by decide +kernel
theorem dX1_cellsThatLeadHome_13 : decode cX1_cellsThatLeadHome 13 = .ok (.lstore_n 3, 1) := by decide +kernel
theorem dX1_cellsThatLeadHome_14 : decode cX1_cellsThatLeadHome 14 = .ok (.iload_n 2, 1) := by decide +kernel
theorem dX1_cellsThatLeadHome_15 : decode cX1_cellsThatLeadHome 15 = .ok (.iconst 1, 1) := by decide +kernel
theorem dX1_cellsThatLeadHome_16 : decode cX1_cellsThatLeadHome 16 = .ok (.isub, 1) := by decide +kernel
theorem dX1_cellsThatLeadHome_17 : decode cX1_cellsThatLeadHome 17 = .ok (.istore 5, 2) := by decide +kernel
theorem dX1_cellsThatLeadHome_19 : decode cX1_cellsThatLeadHome 19 = .ok (.iload 5, 2) := by decide +kernel
theorem dX1_cellsThatLeadHome_21 : decode cX1_cellsThatLeadHome 21 = .ok (.iload_n 1, 1) := by decide +kernel
theorem dX1_cellsThatLeadHome_22 : decode cX1_cellsThatLeadHome 22 = .ok (.if_icmp .lt 53, 3) := by decide +kernel
theorem dX1_cellsThatLeadHome_25 : decode cX1_cellsThatLeadHome 25 = .ok (.lload_n 3, 1) := by decide +kernel
theorem dX1_cellsThatLeadHome_26 : decode cX1_cellsThatLeadHome 26 = .ok (.lconst 0, 1) := by decide +kernel
theorem dX1_cellsThatLeadHome_27 : decode cX1_cellsThatLeadHome 27 = .ok (.lcmp, 1) := by decide +kernel
theorem dX1_cellsThatLeadHome_28 : decode cX1_cellsThatLeadHome 28 = .ok (.ifCond .eq 47, 3) := by decide +kernel
theorem dX1_cellsThatLeadHome_31 : decode cX1_cellsThatLeadHome 31 = .ok (.lload_n 3, 1) := by decide +kernel
theorem dX1_cellsThatLeadHome_32 : decode cX1_cellsThatLeadHome 32 = .ok (.aload_n 0, 1) := by decide +kernel
theorem dX1_cellsThatLeadHome_33 : decode cX1_cellsThatLeadHome 33 = .ok (.iload 5, 2) := by decide +kernel
theorem dX1_cellsThatLeadHome_35 : decode cX1_cellsThatLeadHome 35 = .ok (.invokevirtual 79, 3) := by decide +kernel
theorem dX1_cellsThatLeadHome_38 : decode cX1_cellsThatLeadHome 38 = .ok (.ldc2_w 82, 3) := by decide +kernel
theorem dX1_cellsThatLeadHome_41 : decode cX1_cellsThatLeadHome 41 = .ok (.lxor, 1) := by decide +kernel
theorem dX1_cellsThatLeadHome_42 : decode cX1_cellsThatLeadHome 42 = .ok (.land, 1) := by decide +kernel
theorem dX1_cellsThatLeadHome_43 : decode cX1_cellsThatLeadHome 43 = .ok (.lstore_n 3, 1) := by decide +kernel
theorem dX1_cellsThatLeadHome_44 : decode cX1_cellsThatLeadHome 44 = .ok (.iload 5, 2) := by decide +kernel
theorem dX1_cellsThatLeadHome_46 : decode cX1_cellsThatLeadHome 46 = .ok (.iconst 2, 1) := by decide +kernel
theorem dX1_cellsThatLeadHome_47 : decode cX1_cellsThatLeadHome 47 = .ok (.irem, 1) := by decide +kernel
theorem dX1_cellsThatLeadHome_48 : decode cX1_cellsThatLeadHome 48 = .ok (.aload_n 0, 1) := by decide +kernel
theorem dX1_cellsThatLeadHome_49 : decode cX1_cellsThatLeadHome 49 = .ok (.getfield 29, 3) := by decide +kernel
theorem dX1_cellsThatLeadHome_52 : decode cX1_cellsThatLeadHome 52 = .ok (.if_icmp .ne 17, 3) := by decide +kernel
theorem dX1_cellsThatLeadHome_55 : decode cX1_cellsThatLeadHome 55 = .ok (.lload_n 3, 1) := by decide +kernel
theorem dX1_cellsThatLeadHome_56 : decode cX1_cellsThatLeadHome 56 = .ok (.aload_n 0, 1) := by decide +kernel
theorem dX1_cellsThatLeadHome_57 : decode cX1_cellsThatLeadHome 57 = .ok (.lload_n 3, 1) := by decide +kernel
theorem dX1_cellsThatLeadHome_58 : decode cX1_cellsThatLeadHome 58 = .ok (.aload_n 0, 1) := by decide +kernel
theorem dX1_cellsThatLeadHome_59 : decode cX1_cellsThatLeadHome 59 = .ok (.iload 5, 2) := by decide +kernel
theorem dX1_cellsThatLeadHome_61 : decode cX1_cellsThatLeadHome 61 = .ok (.invokevirtual 72, 3) := by decide +kernel
theorem dX1_cellsThatLeadHome_64 : decode cX1_cellsThatLeadHome 64 = .ok (.invokevirtual 91, 3) := by decide +kernel
theorem dX1_cellsThatLeadHome_67 : decode cX1_cellsThatLeadHome 67 = .ok (.lor, 1) := by decide +kernel
theorem dX1_cellsThatLeadHome_68 : decode cX1_cellsThatLeadHome 68 = .ok (.lstore_n 3, 1) := by decide +kernel
theorem dX1_cellsThatLeadHome_69 : decode cX1_cellsThatLeadHome 69 = .ok (.iinc 5 (-1), 3) := by decide +kernel
theorem dX1_cellsThatLeadHome_72 : decode cX1_cellsThatLeadHome 72 = .ok (.goto (-53), 3) := by decide +kernel
theorem dX1_cellsThatLeadHome_75 : decode cX1_cellsThatLeadHome 75 = .ok (.lload_n 3, 1) := by decide +kernel
theorem dX1_cellsThatLeadHome_76 : decode cX1_cellsThatLeadHome 76 = .ok (.lreturn, 1) := by decide +kernel
theorem dX1_goalsOf_0 : decode cX1_goalsOf 0 = .ok (.lconst 0, 1) := by decide +kernel
theorem dX1_goalsOf_1 : decode cX1_goalsOf 1 = .ok (.lstore 5, 2) := by decide +kernel
theorem dX1_goalsOf_3 : decode cX1_goalsOf 3 = .ok (.iconst 0, 1) := by decide +kernel
theorem dX1_goalsOf_4 : decode cX1_goalsOf 4 = .ok (.istore 7, 2) := by decide +kernel
theorem dX1_goalsOf_6 : decode cX1_goalsOf 6 = .ok (.iload 7, 2) := by decide +kernel
theorem dX1_goalsOf_8 : decode cX1_goalsOf 8 = .ok (.iconst 4, 1) := by decide +kernel
theorem dX1_goalsOf_9 : decode cX1_goalsOf 9 = .ok (.if_icmp .ge 65, 3) := by decide +kernel
theorem dX1_goalsOf_12 : decode cX1_goalsOf 12 = .ok (.lload_n 1, 1) := by decide +kernel
theorem dX1_goalsOf_13 : decode cX1_goalsOf 13 = .ok (.lload_n 3, 1) := by decide +kernel
theorem dX1_goalsOf_14 : decode cX1_goalsOf 14 = .ok (.land, 1) := by decide +kernel
theorem dX1_goalsOf_15 : decode cX1_goalsOf 15 = .ok (.lstore 8, 2) := by decide +kernel
theorem dX1_goalsOf_17 : decode cX1_goalsOf 17 = .ok (.iconst 0, 1) := by decide +kernel
theorem dX1_goalsOf_18 : decode cX1_goalsOf 18 = .ok (.istore 10, 2) := by decide +kernel
theorem dX1_goalsOf_20 : decode cX1_goalsOf 20 = .ok (.iload 10, 2) := by decide +kernel
theorem dX1_goalsOf_22 : decode cX1_goalsOf 22 = .ok (.iconst 3, 1) := by decide +kernel
theorem dX1_goalsOf_23 : decode cX1_goalsOf 23 = .ok (.if_icmp .ge 45, 3) := by decide +kernel
theorem dX1_goalsOf_26 : decode cX1_goalsOf 26 = .ok (.lload 8, 2) := by decide +kernel
theorem dX1_goalsOf_28 : decode cX1_goalsOf 28 = .ok (.aload_n 0, 1) := by decide +kernel
theorem dX1_goalsOf_29 : decode cX1_goalsOf 29 = .ok (.getfield 47, 3) := by decide +kernel
theorem dX1_goalsOf_32 : decode cX1_goalsOf 32 = .ok (.ldc2_w 82, 3) := by decide +kernel
theorem dX1_goalsOf_35 : decode cX1_goalsOf 35 = .ok (.lxor, 1) := by decide +kernel
theorem dX1_goalsOf_36 : decode cX1_goalsOf 36 = .ok (.land, 1) := by decide +kernel
theorem dX1_goalsOf_37 : decode cX1_goalsOf 37 = .ok (.iload 7, 2) := by decide +kernel
theorem dX1_goalsOf_39 : decode cX1_goalsOf 39 = .ok (.invokestatic 94, 3) := by decide +kernel
theorem dX1_goalsOf_42 : decode cX1_goalsOf 42 = .ok (.lload_n 3, 1) := by decide +kernel
theorem dX1_goalsOf_43 : decode cX1_goalsOf 43 = .ok (.land, 1) := by decide +kernel
theorem dX1_goalsOf_44 : decode cX1_goalsOf 44 = .ok (.aload_n 0, 1) := by decide +kernel
theorem dX1_goalsOf_45 : decode cX1_goalsOf 45 = .ok (.getfield 51, 3) := by decide +kernel
theorem dX1_goalsOf_48 : decode cX1_goalsOf 48 = .ok (.ldc2_w 82, 3) := by decide +kernel
theorem dX1_goalsOf_51 : decode cX1_goalsOf 51 = .ok (.lxor, 1) := by decide +kernel
theorem dX1_goalsOf_52 : decode cX1_goalsOf 52 = .ok (.land, 1) := by decide +kernel
theorem dX1_goalsOf_53 : decode cX1_goalsOf 53 = .ok (.lstore 8, 2) := by decide +kernel
theorem dX1_goalsOf_55 : decode cX1_goalsOf 55 = .ok (.lload 5, 2) := by decide +kernel
theorem dX1_goalsOf_57 : decode cX1_goalsOf 57 = .ok (.lload 8, 2) := by decide +kernel
theorem dX1_goalsOf_59 : decode cX1_goalsOf 59 = .ok (.lor, 1) := by decide +kernel
theorem dX1_goalsOf_60 : decode cX1_goalsOf 60 = .ok (.lstore 5, 2) := by decide +kernel
theorem dX1_goalsOf_62 : decode cX1_goalsOf 62 = .ok (.iinc 10 1, 3) := by decide +kernel
theorem dX1_goalsOf_65 : decode cX1_goalsOf 65 = .ok (.goto (-45), 3) := by decide +kernel
theorem dX1_goalsOf_68 : decode cX1_goalsOf 68 = .ok (.iinc 7 1, 3) := by decide +kernel
theorem dX1_goalsOf_71 : decode cX1_goalsOf 71 = .ok (.goto (-65), 3) := by decide +kernel
theorem dX1_goalsOf_74 : decode cX1_goalsOf 74 = .ok (.lload 5, 2) := by decide +kernel
theorem dX1_goalsOf_76 : decode cX1_goalsOf 76 = .ok (.lreturn, 1) := by decide +kernel
theorem dX1_startsFor_0 : decode cX1_startsFor 0 = .ok (.lload_n 3, 1) := by decide +kernel
theorem dX1_startsFor_1 : decode cX1_startsFor 1 = .ok (.aload_n 0, 1) := by decide +kernel
theorem dX1_startsFor_2 : decode cX1_startsFor 2 = .ok (.getfield 47, 3) := by decide +kernel
theorem dX1_startsFor_5 : decode cX1_startsFor 5 = .ok (.ldc2_w 82, 3) := by decide +kernel
theorem dX1_startsFor_8 : decode cX1_startsFor 8 = .ok (.lxor, 1) := by decide +kernel
theorem dX1_startsFor_9 : decode cX1_startsFor 9 = .ok (.land, 1) := by decide +kernel
theorem dX1_startsFor_10 : decode cX1_startsFor 10 = .ok (.aload_n 0, 1) := by decide +kernel
theorem dX1_startsFor_11 : decode cX1_startsFor 11 = .ok (.getfield 51, 3) := by decide +kernel
theorem dX1_startsFor_14 : decode cX1_startsFor 14 = .ok (.ldc2_w 82, 3) := by decide +kernel
theorem dX1_startsFor_17 : decode cX1_startsFor 17 = .ok (.lxor, 1) := by decide +kernel
theorem dX1_startsFor_18 : decode cX1_startsFor 18 = .ok (.land, 1) := by decide +kernel
theorem dX1_startsFor_19 : decode cX1_startsFor 19 = .ok (.lstore 5, 2) := by decide +kernel
theorem dX1_startsFor_21 : decode cX1_startsFor 21 = .ok (.lconst 0, 1) := by decide +kernel
theorem dX1_startsFor_22 : decode cX1_startsFor 22 = .ok (.lstore 7, 2) := by decide +kernel
theorem dX1_startsFor_24 : decode cX1_startsFor 24 = .ok (.iconst 0, 1) := by decide +kernel
theorem dX1_startsFor_25 : decode cX1_startsFor 25 = .ok (.istore 9, 2) := by decide +kernel
theorem dX1_startsFor_27 : decode cX1_startsFor 27 = .ok (.iload 9, 2) := by decide +kernel
theorem dX1_startsFor_29 : decode cX1_startsFor 29 = .ok (.iconst 4, 1) := by decide +kernel
theorem dX1_startsFor_30 : decode cX1_startsFor 30 = .ok (.if_icmp .ge 48, 3) := by decide +kernel
theorem dX1_startsFor_33 : decode cX1_startsFor 33 = .ok (.lload_n 1, 1) := by decide +kernel
theorem dX1_startsFor_34 : decode cX1_startsFor 34 = .ok (.lload_n 3, 1) := by decide +kernel
theorem dX1_startsFor_35 : decode cX1_startsFor 35 = .ok (.land, 1) := by decide +kernel
theorem dX1_startsFor_36 : decode cX1_startsFor 36 = .ok (.lstore 10, 2) := by decide +kernel
theorem dX1_startsFor_38 : decode cX1_startsFor 38 = .ok (.iconst 0, 1) := by decide +kernel
theorem dX1_startsFor_39 : decode cX1_startsFor 39 = .ok (.istore 12, 2) := by decide +kernel
theorem dX1_startsFor_41 : decode cX1_startsFor 41 = .ok (.iload 12, 2) := by decide +kernel
theorem dX1_startsFor_43 : decode cX1_startsFor 43 = .ok (.iconst 3, 1) := by decide +kernel
theorem dX1_startsFor_44 : decode cX1_startsFor 44 = .ok (.if_icmp .ge 28, 3) := by decide +kernel
theorem dX1_startsFor_47 : decode cX1_startsFor 47 = .ok (.lload 10, 2) := by decide +kernel
theorem dX1_startsFor_49 : decode cX1_startsFor 49 = .ok (.iload 9, 2) := by decide +kernel
theorem dX1_startsFor_51 : decode cX1_startsFor 51 = .ok (.invokestatic 94, 3) := by decide +kernel
theorem dX1_startsFor_54 : decode cX1_startsFor 54 = .ok (.lload 5, 2) := by decide +kernel
theorem dX1_startsFor_56 : decode cX1_startsFor 56 = .ok (.land, 1) := by decide +kernel
theorem dX1_startsFor_57 : decode cX1_startsFor 57 = .ok (.lstore 10, 2) := by decide +kernel
theorem dX1_startsFor_59 : decode cX1_startsFor 59 = .ok (.lload 7, 2) := by decide +kernel
theorem dX1_startsFor_61 : decode cX1_startsFor 61 = .ok (.lload 10, 2) := by decide +kernel
theorem dX1_startsFor_63 : decode cX1_startsFor 63 = .ok (.lor, 1) := by decide +kernel
theorem dX1_startsFor_64 : decode cX1_startsFor 64 = .ok (.lstore 7, 2) := by decide +kernel
theorem dX1_startsFor_66 : decode cX1_startsFor 66 = .ok (.iinc 12 1, 3) := by decide +kernel
theorem dX1_startsFor_69 : decode cX1_startsFor 69 = .ok (.goto (-28), 3) := by decide +kernel
theorem dX1_startsFor_72 : decode cX1_startsFor 72 = .ok (.iinc 9 1, 3) := by decide +kernel
theorem dX1_startsFor_75 : decode cX1_startsFor 75 = .ok (.goto (-48), 3) := by decide +kernel
theorem dX1_startsFor_78 : decode cX1_startsFor 78 = .ok (.lload 7, 2) := by decide +kernel
theorem dX1_startsFor_80 : decode cX1_startsFor 80 = .ok (.lreturn, 1) := by decide +kernel
theorem dX1_wetCells_0 : decode cX1_wetCells 0 = .ok (.aload_n 0, 1) := by decide +kernel
theorem dX1_wetCells_1 : decode cX1_wetCells 1 = .ok (.getfield 15, 3) := by decide +kernel
theorem dX1_wetCells_4 : decode cX1_wetCells 4 = .ok (.iload_n 1, 1) := by decide +kernel
theorem dX1_wetCells_5 : decode cX1_wetCells 5 = .ok (.invokevirtual 98, 3) := by decide +kernel
theorem dX1_wetCells_8 : decode cX1_wetCells 8 = .ok (.aload_n 0, 1) := by decide +kernel
theorem dX1_wetCells_9 : decode cX1_wetCells 9 = .ok (.getfield 36, 3) := by decide +kernel
theorem dX1_wetCells_12 : decode cX1_wetCells 12 = .ok (.isub, 1) := by decide +kernel
theorem dX1_wetCells_13 : decode cX1_wetCells 13 = .ok (.iconst 4, 1) := by decide +kernel
theorem dX1_wetCells_14 : decode cX1_wetCells 14 = .ok (.invokestatic 101, 3) := by decide +kernel
theorem dX1_wetCells_17 : decode cX1_wetCells 17 = .ok (.istore_n 2, 1) := by decide +kernel
theorem dX1_wetCells_18 : decode cX1_wetCells 18 = .ok (.iload_n 2, 1) := by decide +kernel
theorem dX1_wetCells_19 : decode cX1_wetCells 19 = .ok (.ifCond .lt 21, 3) := by decide +kernel
theorem dX1_wetCells_22 : decode cX1_wetCells 22 = .ok (.iload_n 2, 1) := by decide +kernel
theorem dX1_wetCells_23 : decode cX1_wetCells 23 = .ok (.aload_n 0, 1) := by decide +kernel
theorem dX1_wetCells_24 : decode cX1_wetCells 24 = .ok (.getfield 9, 3) := by decide +kernel
theorem dX1_wetCells_27 : decode cX1_wetCells 27 = .ok (.arraylength, 1) := by decide +kernel
theorem dX1_wetCells_28 : decode cX1_wetCells 28 = .ok (.if_icmp .ge 12, 3) := by decide +kernel
theorem dX1_wetCells_31 : decode cX1_wetCells 31 = .ok (.aload_n 0, 1) := by decide +kernel
theorem dX1_wetCells_32 : decode cX1_wetCells 32 = .ok (.getfield 9, 3) := by decide +kernel
theorem dX1_wetCells_35 : decode cX1_wetCells 35 = .ok (.iload_n 2, 1) := by decide +kernel
theorem dX1_wetCells_36 : decode cX1_wetCells 36 = .ok (.laload, 1) := by decide +kernel
theorem dX1_wetCells_37 : decode cX1_wetCells 37 = .ok (.goto 4, 3) := by decide +kernel
theorem dX1_wetCells_40 : decode cX1_wetCells 40 = .ok (.lconst 0, 1) := by decide +kernel
theorem dX1_wetCells_41 : decode cX1_wetCells 41 = .ok (.lreturn, 1) := by decide +kernel
theorem dX1_wreckingCells_0 : decode cX1_wreckingCells 0 = .ok (.aload_n 0, 1) := by decide +kernel
theorem dX1_wreckingCells_1 : decode cX1_wreckingCells 1 = .ok (.getfield 54, 3) := by decide +kernel
theorem dX1_wreckingCells_4 : decode cX1_wreckingCells 4 = .ok (.aload_n 0, 1) := by decide +kernel
theorem dX1_wreckingCells_5 : decode cX1_wreckingCells 5 = .ok (.iload_n 1, 1) := by decide +kernel
theorem dX1_wreckingCells_6 : decode cX1_wreckingCells 6 = .ok (.invokevirtual 72, 3) := by decide +kernel
theorem dX1_wreckingCells_9 : decode cX1_wreckingCells 9 = .ok (.land, 1) := by decide +kernel
theorem dX1_wreckingCells_10 : decode cX1_wreckingCells 10 = .ok (.aload_n 0, 1) := by decide +kernel
theorem dX1_wreckingCells_11 : decode cX1_wreckingCells 11 = .ok (.iload_n 1, 1) := by decide +kernel
theorem dX1_wreckingCells_12 : decode cX1_wreckingCells 12 = .ok (.iconst 1, 1) := by decide +kernel
theorem dX1_wreckingCells_13 : decode cX1_wreckingCells 13 = .ok (.iadd, 1) := by decide +kernel
theorem dX1_wreckingCells_14 : decode cX1_wreckingCells 14 = .ok (.invokevirtual 72, 3) := by decide +kernel
theorem dX1_wreckingCells_17 : decode cX1_wreckingCells 17 = .ok (.ldc2_w 82, 3) := by decide +kernel
theorem dX1_wreckingCells_20 : decode cX1_wreckingCells 20 = .ok (.lxor, 1) := by decide +kernel
theorem dX1_wreckingCells_21 : decode cX1_wreckingCells 21 = .ok (.land, 1) := by decide +kernel
theorem dX1_wreckingCells_22 : decode cX1_wreckingCells 22 = .ok (.lreturn, 1) := by decide +kernel
theorem dX1_setOf_0 : decode cX1_setOf 0 = .ok (.iload_n 0, 1) := by decide +kernel
theorem dX1_setOf_1 : decode cX1_setOf 1 = .ok (.invokestatic 104, 3) := by decide +kernel
theorem dX1_setOf_4 : decode cX1_setOf 4 = .ok (.ifCond .eq 9, 3) := by decide +kernel
theorem dX1_setOf_7 : decode cX1_setOf 7 = .ok (.lconst 1, 1) := by decide +kernel
theorem dX1_setOf_8 : decode cX1_setOf 8 = .ok (.iload_n 0, 1) := by decide +kernel
theorem dX1_setOf_9 : decode cX1_setOf 9 = .ok (.lshl, 1) := by decide +kernel
theorem dX1_setOf_10 : decode cX1_setOf 10 = .ok (.goto 4, 3) := by decide +kernel
theorem dX1_setOf_13 : decode cX1_setOf 13 = .ok (.lconst 0, 1) := by decide +kernel
theorem dX1_setOf_14 : decode cX1_setOf 14 = .ok (.lreturn, 1) := by decide +kernel
theorem dX1_beside_0 : decode cX1_beside 0 = .ok (.iload_n 2, 1) := by decide +kernel
theorem dX1_beside_1 : decode cX1_beside 1 = .ok (.tableswitch 61 0 3 #[31, 39, 48, 56], 31) := by decide +kernel
theorem dX1_beside_32 : decode cX1_beside 32 = .ok (.lload_n 0, 1) := by decide +kernel
theorem dX1_beside_33 : decode cX1_beside 33 = .ok (.ldc2_w 108, 3) := by decide +kernel
theorem dX1_beside_36 : decode cX1_beside 36 = .ok (.land, 1) := by decide +kernel
theorem dX1_beside_37 : decode cX1_beside 37 = .ok (.iconst 1, 1) := by decide +kernel
theorem dX1_beside_38 : decode cX1_beside 38 = .ok (.lshl, 1) := by decide +kernel
theorem dX1_beside_39 : decode cX1_beside 39 = .ok (.lreturn, 1) := by decide +kernel
theorem dX1_beside_40 : decode cX1_beside 40 = .ok (.lload_n 0, 1) := by decide +kernel
theorem dX1_beside_41 : decode cX1_beside 41 = .ok (.bipush 6, 2) := by decide +kernel
theorem dX1_beside_43 : decode cX1_beside 43 = .ok (.lshl, 1) := by decide +kernel
theorem dX1_beside_44 : decode cX1_beside 44 = .ok (.ldc2_w 110, 3) := by decide +kernel
theorem dX1_beside_47 : decode cX1_beside 47 = .ok (.land, 1) := by decide +kernel
theorem dX1_beside_48 : decode cX1_beside 48 = .ok (.lreturn, 1) := by decide +kernel
theorem dX1_beside_49 : decode cX1_beside 49 = .ok (.lload_n 0, 1) := by decide +kernel
theorem dX1_beside_50 : decode cX1_beside 50 = .ok (.ldc2_w 112, 3) := by decide +kernel
theorem dX1_beside_53 : decode cX1_beside 53 = .ok (.land, 1) := by decide +kernel
theorem dX1_beside_54 : decode cX1_beside 54 = .ok (.iconst 1, 1) := by decide +kernel
theorem dX1_beside_55 : decode cX1_beside 55 = .ok (.lushr, 1) := by decide +kernel
theorem dX1_beside_56 : decode cX1_beside 56 = .ok (.lreturn, 1) := by decide +kernel
theorem dX1_beside_57 : decode cX1_beside 57 = .ok (.lload_n 0, 1) := by decide +kernel
theorem dX1_beside_58 : decode cX1_beside 58 = .ok (.bipush 6, 2) := by decide +kernel
theorem dX1_beside_60 : decode cX1_beside 60 = .ok (.lushr, 1) := by decide +kernel
theorem dX1_beside_61 : decode cX1_beside 61 = .ok (.lreturn, 1) := by decide +kernel
theorem dX1_beside_62 : decode cX1_beside 62 = .ok (.lconst 0, 1) := by decide +kernel
theorem dX1_beside_63 : decode cX1_beside 63 = .ok (.lreturn, 1) := by decide +kernel
theorem dX2_init_0 : decode cX2_init 0 = .ok (.aload_n 0, 1) := by decide +kernel
theorem dX2_init_1 : decode cX2_init 1 = .ok (.invokespecial 3, 3) := by decide +kernel
theorem dX2_init_4 : decode cX2_init 4 = .ok (.aload_n 0, 1) := by decide +kernel
theorem dX2_init_5 : decode cX2_init 5 = .ok (.bipush 60, 2) := by decide +kernel
theorem dX2_init_7 : decode cX2_init 7 = .ok (.newarray .char, 2) := by decide +kernel
theorem dX2_init_9 : decode cX2_init 9 = .ok (.putfield 9, 3) := by decide +kernel
theorem dX2_init_12 : decode cX2_init 12 = .ok (.return_, 1) := by decide +kernel
theorem dX2_append_0 : decode cX2_append 0 = .ok (.aload_n 0, 1) := by decide +kernel
theorem dX2_append_1 : decode cX2_append 1 = .ok (.getfield 15, 3) := by decide +kernel
theorem dX2_append_4 : decode cX2_append 4 = .ok (.ifCond .lt 15, 3) := by decide +kernel
theorem dX2_append_7 : decode cX2_append 7 = .ok (.aload_n 0, 1) := by decide +kernel
theorem dX2_append_8 : decode cX2_append 8 = .ok (.getfield 15, 3) := by decide +kernel
theorem dX2_append_11 : decode cX2_append 11 = .ok (.aload_n 0, 1) := by decide +kernel
theorem dX2_append_12 : decode cX2_append 12 = .ok (.getfield 9, 3) := by decide +kernel
theorem dX2_append_15 : decode cX2_append 15 = .ok (.arraylength, 1) := by decide +kernel
theorem dX2_append_16 : decode cX2_append 16 = .ok (.if_icmp .lt 6, 3) := by decide +kernel
theorem dX2_append_19 : decode cX2_append 19 = .ok (.bipush (-3), 2) := by decide +kernel
theorem dX2_append_21 : decode cX2_append 21 = .ok (.ireturn, 1) := by decide +kernel
theorem dX2_append_22 : decode cX2_append 22 = .ok (.aload_n 0, 1) := by decide +kernel
theorem dX2_append_23 : decode cX2_append 23 = .ok (.getfield 9, 3) := by decide +kernel
theorem dX2_append_26 : decode cX2_append 26 = .ok (.aload_n 0, 1) := by decide +kernel
theorem dX2_append_27 : decode cX2_append 27 = .ok (.getfield 15, 3) := by decide +kernel
theorem dX2_append_30 : decode cX2_append 30 = .ok (.iload_n 1, 1) := by decide +kernel
theorem dX2_append_31 : decode cX2_append 31 = .ok (.castore, 1) := by decide +kernel
theorem dX2_append_32 : decode cX2_append 32 = .ok (.aload_n 0, 1) := by decide +kernel
theorem dX2_append_33 : decode cX2_append 33 = .ok (.dup, 1) := by decide +kernel
theorem dX2_append_34 : decode cX2_append 34 = .ok (.getfield 15, 3) := by decide +kernel
theorem dX2_append_37 : decode cX2_append 37 = .ok (.iconst 1, 1) := by decide +kernel
theorem dX2_append_38 : decode cX2_append 38 = .ok (.iadd, 1) := by decide +kernel
theorem dX2_append_39 : decode cX2_append 39 = .ok (.putfield 15, 3) := by decide +kernel
theorem dX2_append_42 : decode cX2_append 42 = .ok (.aload_n 0, 1) := by decide +kernel
theorem dX2_append_43 : decode cX2_append 43 = .ok (.getfield 15, 3) := by decide +kernel
theorem dX2_append_46 : decode cX2_append 46 = .ok (.ireturn, 1) := by decide +kernel
theorem dX2_removeAll_0 : decode cX2_removeAll 0 = .ok (.aload_n 0, 1) := by decide +kernel
theorem dX2_removeAll_1 : decode cX2_removeAll 1 = .ok (.getfield 15, 3) := by decide +kernel
theorem dX2_removeAll_4 : decode cX2_removeAll 4 = .ok (.istore_n 1, 1) := by decide +kernel
theorem dX2_removeAll_5 : decode cX2_removeAll 5 = .ok (.aload_n 0, 1) := by decide +kernel
theorem dX2_removeAll_6 : decode cX2_removeAll 6 = .ok (.iconst 0, 1) := by decide +kernel
theorem dX2_removeAll_7 : decode cX2_removeAll 7 = .ok (.putfield 15, 3) := by decide +kernel
theorem dX2_removeAll_10 : decode cX2_removeAll 10 = .ok (.iload_n 1, 1) := by decide +kernel
theorem dX2_removeAll_11 : decode cX2_removeAll 11 = .ok (.ireturn, 1) := by decide +kernel
theorem dX2_findFault_0 : decode cX2_findFault 0 = .ok (.iconst 0, 1) := by decide +kernel
theorem dX2_findFault_1 : decode cX2_findFault 1 = .ok (.istore_n 1, 1) := by decide +kernel
theorem dX2_findFault_2 : decode cX2_findFault 2 = .ok (.iconst 0, 1) := by decide +kernel
theorem dX2_findFault_3 : decode cX2_findFault 3 = .ok (.istore_n 2, 1) := by decide +kernel
theorem dX2_findFault_4 : decode cX2_findFault 4 = .ok (.iload_n 2, 1) := by decide +kernel
theorem dX2_findFault_5 : decode cX2_findFault 5 = .ok (.bipush 60, 2) := by decide +kernel
theorem dX2_findFault_7 : decode cX2_findFault 7 = .ok (.if_icmp .gt 50, 3) := by decide +kernel
theorem dX2_findFault_10 : decode cX2_findFault 10 = .ok (.aload_n 0, 1) := by decide +kernel
theorem dX2_findFault_11 : decode cX2_findFault 11 = .ok (.iload_n 1, 1) := by decide +kernel
theorem dX2_findFault_12 : decode cX2_findFault 12 = .ok (.invokevirtual 19, 3) := by decide +kernel
theorem dX2_findFault_15 : decode cX2_findFault 15 = .ok (.istore_n 3, 1) := by decide +kernel
theorem dX2_findFault_16 : decode cX2_findFault 16 = .ok (.iload_n 3, 1) := by decide +kernel
theorem dX2_findFault_17 : decode cX2_findFault 17 = .ok (.ifCond .ge 7, 3) := by decide +kernel
theorem dX2_findFault_20 : decode cX2_findFault 20 = .ok (.iconst (-1), 1) := by decide +kernel
theorem dX2_findFault_21 : decode cX2_findFault 21 = .ok (.iload_n 3, 1) := by decide +kernel
theorem dX2_findFault_22 : decode cX2_findFault 22 = .ok (.isub, 1) := by decide +kernel
theorem dX2_findFault_23 : decode cX2_findFault 23 = .ok (.ireturn, 1) := by decide +kernel
theorem dX2_findFault_24 : decode cX2_findFault 24 = .ok (.iload_n 3, 1) := by decide +kernel
theorem dX2_findFault_25 : decode cX2_findFault 25 = .ok (.aload_n 0, 1) := by decide +kernel
theorem dX2_findFault_26 : decode cX2_findFault 26 = .ok (.getfield 15, 3) := by decide +kernel
theorem dX2_findFault_29 : decode cX2_findFault 29 = .ok (.if_icmp .lt 6, 3) := by decide +kernel
theorem dX2_findFault_32 : decode cX2_findFault 32 = .ok (.bipush (-5), 2) := by decide +kernel
theorem dX2_findFault_34 : decode cX2_findFault 34 = .ok (.ireturn, 1) := by decide +kernel
theorem dX2_findFault_35 : decode cX2_findFault 35 = .ok (.aload_n 0, 1) := by decide +kernel
theorem dX2_findFault_36 : decode cX2_findFault 36 = .ok (.iload_n 3, 1) := by decide +kernel
theorem dX2_findFault_37 : decode cX2_findFault 37 = .ok (.invokevirtual 23, 3) := by decide +kernel
theorem dX2_findFault_40 : decode cX2_findFault 40 = .ok (.bipush 59, 2) := by decide +kernel
theorem dX2_findFault_42 : decode cX2_findFault 42 = .ok (.if_icmp .eq 5, 3) := by decide +kernel
theorem dX2_findFault_45 : decode cX2_findFault 45 = .ok (.iload_n 3, 1) := by decide +kernel
theorem dX2_findFault_46 : decode cX2_findFault 46 = .ok (.ireturn, 1) := by decide +kernel
theorem dX2_findFault_47 : decode cX2_findFault 47 = .ok (.iload_n 3, 1) := by decide +kernel
theorem dX2_findFault_48 : decode cX2_findFault 48 = .ok (.iconst 1, 1) := by decide +kernel
theorem dX2_findFault_49 : decode cX2_findFault 49 = .ok (.iadd, 1) := by decide +kernel
theorem dX2_findFault_50 : decode cX2_findFault 50 = .ok (.istore_n 1, 1) := by decide +kernel
theorem dX2_findFault_51 : decode cX2_findFault 51 = .ok (.iinc 2 1, 3) := by decide +kernel
theorem dX2_findFault_54 : decode cX2_findFault 54 = .ok (.goto (-50), 3) := by decide +kernel
theorem dX2_findFault_57 : decode cX2_findFault 57 = .ok (.aload_n 0, 1) := by decide +kernel
theorem dX2_findFault_58 : decode cX2_findFault 58 = .ok (.getfield 15, 3) := by decide +kernel
theorem dX2_findFault_61 : decode cX2_findFault 61 = .ok (.ireturn, 1) := by decide +kernel
theorem dX2_endOfOrder_0 : decode cX2_endOfOrder 0 = .ok (.aload_n 0, 1) := by decide +kernel
theorem dX2_endOfOrder_1 : decode cX2_endOfOrder 1 = .ok (.iload_n 1, 1) := by decide +kernel
theorem dX2_endOfOrder_2 : decode cX2_endOfOrder 2 = .ok (.invokevirtual 23, 3) := by decide +kernel
theorem dX2_endOfOrder_5 : decode cX2_endOfOrder 5 = .ok (.istore_n 2, 1) := by decide +kernel
theorem dX2_endOfOrder_6 : decode cX2_endOfOrder 6 = .ok (.iload_n 2, 1) := by decide +kernel
theorem dX2_endOfOrder_7 : decode cX2_endOfOrder 7 = .ok (.invokestatic 27, 3) := by decide +kernel
theorem dX2_endOfOrder_10 : decode cX2_endOfOrder 10 = .ok (.astore_n 3, 1) := by decide +kernel
theorem dX2_endOfOrder_11 : decode cX2_endOfOrder 11 = .ok (.iconst 0, 1) := by decide +kernel
theorem dX2_endOfOrder_12 : decode cX2_endOfOrder 12 = .ok (.istore 4, 2) := by decide +kernel
theorem dX2_endOfOrder_14 : decode cX2_endOfOrder 14 = .ok (.iload 4, 2) := by decide +kernel
theorem dX2_endOfOrder_16 : decode cX2_endOfOrder 16 = .ok (.aload_n 3, 1) := by decide +kernel
theorem dX2_endOfOrder_17 : decode cX2_endOfOrder 17 = .ok (.invokevirtual 31, 3) := by decide +kernel
theorem dX2_endOfOrder_20 : decode cX2_endOfOrder 20 = .ok (.if_icmp .ge 36, 3) := by decide +kernel
theorem dX2_endOfOrder_23 : decode cX2_endOfOrder 23 = .ok (.aload_n 0, 1) := by decide +kernel
theorem dX2_endOfOrder_24 : decode cX2_endOfOrder 24 = .ok (.iload_n 1, 1) := by decide +kernel
theorem dX2_endOfOrder_25 : decode cX2_endOfOrder 25 = .ok (.iload 4, 2) := by decide +kernel
theorem dX2_endOfOrder_27 : decode cX2_endOfOrder 27 = .ok (.iadd, 1) := by decide +kernel
theorem dX2_endOfOrder_28 : decode cX2_endOfOrder 28 = .ok (.invokevirtual 23, 3) := by decide +kernel
theorem dX2_endOfOrder_31 : decode cX2_endOfOrder 31 = .ok (.aload_n 3, 1) := by decide +kernel
theorem dX2_endOfOrder_32 : decode cX2_endOfOrder 32 = .ok (.iload 4, 2) := by decide +kernel
theorem dX2_endOfOrder_34 : decode cX2_endOfOrder 34 = .ok (.invokevirtual 36, 3) := by decide +kernel
theorem dX2_endOfOrder_37 : decode cX2_endOfOrder 37 = .ok (.invokestatic 39, 3) := by decide +kernel
theorem dX2_endOfOrder_40 : decode cX2_endOfOrder 40 = .ok (.ifCond .ne 10, 3) := by decide +kernel
theorem dX2_endOfOrder_43 : decode cX2_endOfOrder 43 = .ok (.iconst (-1), 1) := by decide +kernel
theorem dX2_endOfOrder_44 : decode cX2_endOfOrder 44 = .ok (.iload_n 1, 1) := by decide +kernel
theorem dX2_endOfOrder_45 : decode cX2_endOfOrder 45 = .ok (.iload 4, 2) := by decide +kernel
theorem dX2_endOfOrder_47 : decode cX2_endOfOrder 47 = .ok (.iadd, 1) := by decide +kernel
theorem dX2_endOfOrder_48 : decode cX2_endOfOrder 48 = .ok (.isub, 1) := by decide +kernel
theorem dX2_endOfOrder_49 : decode cX2_endOfOrder 49 = .ok (.ireturn, 1) := by decide +kernel
theorem dX2_endOfOrder_50 : decode cX2_endOfOrder 50 = .ok (.iinc 4 1, 3) := by decide +kernel
theorem dX2_endOfOrder_53 : decode cX2_endOfOrder 53 = .ok (.goto (-39), 3) := by decide +kernel
theorem dX2_endOfOrder_56 : decode cX2_endOfOrder 56 = .ok (.iload_n 1, 1) := by decide +kernel
theorem dX2_endOfOrder_57 : decode cX2_endOfOrder 57 = .ok (.aload_n 3, 1) := by decide +kernel
theorem dX2_endOfOrder_58 : decode cX2_endOfOrder 58 = .ok (.invokevirtual 31, 3) := by decide +kernel
theorem dX2_endOfOrder_61 : decode cX2_endOfOrder 61 = .ok (.iadd, 1) := by decide +kernel
theorem dX2_endOfOrder_62 : decode cX2_endOfOrder 62 = .ok (.istore 4, 2) := by decide +kernel
theorem dX2_endOfOrder_64 : decode cX2_endOfOrder 64 = .ok (.iload_n 2, 1) := by decide +kernel
theorem dX2_endOfOrder_65 : decode cX2_endOfOrder 65 = .ok (.invokestatic 43, 3) := by decide +kernel
theorem dX2_endOfOrder_68 : decode cX2_endOfOrder 68 = .ok (.ifCond .eq 19, 3) := by decide +kernel
theorem dX2_endOfOrder_71 : decode cX2_endOfOrder 71 = .ok (.aload_n 0, 1) := by decide +kernel
theorem dX2_endOfOrder_72 : decode cX2_endOfOrder 72 = .ok (.iload 4, 2) := by decide +kernel
theorem dX2_endOfOrder_74 : decode cX2_endOfOrder 74 = .ok (.invokevirtual 47, 3) := by decide +kernel
theorem dX2_endOfOrder_77 : decode cX2_endOfOrder 77 = .ok (.ifCond .eq 10, 3) := by decide +kernel
theorem dX2_endOfOrder_80 : decode cX2_endOfOrder 80 = .ok (.iload 4, 2) := by decide +kernel
theorem dX2_endOfOrder_82 : decode cX2_endOfOrder 82 = .ok (.iconst 1, 1) := by decide +kernel
theorem dX2_endOfOrder_83 : decode cX2_endOfOrder 83 = .ok (.iadd, 1) := by decide +kernel
theorem dX2_endOfOrder_84 : decode cX2_endOfOrder 84 = .ok (.goto 5, 3) := by decide +kernel
theorem dX2_endOfOrder_87 : decode cX2_endOfOrder 87 = .ok (.iload 4, 2) := by decide +kernel
theorem dX2_endOfOrder_89 : decode cX2_endOfOrder 89 = .ok (.ireturn, 1) := by decide +kernel
theorem dX2_signAt_0 : decode cX2_signAt 0 = .ok (.iload_n 1, 1) := by decide +kernel
theorem dX2_signAt_1 : decode cX2_signAt 1 = .ok (.ifCond .lt 29, 3) := by decide +kernel
theorem dX2_signAt_4 : decode cX2_signAt 4 = .ok (.iload_n 1, 1) := by decide +kernel
theorem dX2_signAt_5 : decode cX2_signAt 5 = .ok (.aload_n 0, 1) := by decide +kernel
theorem dX2_signAt_6 : decode cX2_signAt 6 = .ok (.getfield 15, 3) := by decide +kernel
theorem dX2_signAt_9 : decode cX2_signAt 9 = .ok (.if_icmp .ge 21, 3) := by decide +kernel
theorem dX2_signAt_12 : decode cX2_signAt 12 = .ok (.iload_n 1, 1) := by decide +kernel
theorem dX2_signAt_13 : decode cX2_signAt 13 = .ok (.aload_n 0, 1) := by decide +kernel
theorem dX2_signAt_14 : decode cX2_signAt 14 = .ok (.getfield 9, 3) := by decide +kernel
theorem dX2_signAt_17 : decode cX2_signAt 17 = .ok (.arraylength, 1) := by decide +kernel
theorem dX2_signAt_18 : decode cX2_signAt 18 = .ok (.if_icmp .ge 12, 3) := by decide +kernel
theorem dX2_signAt_21 : decode cX2_signAt 21 = .ok (.aload_n 0, 1) := by decide +kernel
theorem dX2_signAt_22 : decode cX2_signAt 22 = .ok (.getfield 9, 3) := by decide +kernel
theorem dX2_signAt_25 : decode cX2_signAt 25 = .ok (.iload_n 1, 1) := by decide +kernel
theorem dX2_signAt_26 : decode cX2_signAt 26 = .ok (.caload, 1) := by decide +kernel
theorem dX2_signAt_27 : decode cX2_signAt 27 = .ok (.goto 4, 3) := by decide +kernel
theorem dX2_signAt_30 : decode cX2_signAt 30 = .ok (.iconst 0, 1) := by decide +kernel
theorem dX2_signAt_31 : decode cX2_signAt 31 = .ok (.ireturn, 1) := by decide +kernel
theorem dX2_isRockAt_0 : decode cX2_isRockAt 0 = .ok (.aload_n 0, 1) := by decide +kernel
theorem dX2_isRockAt_1 : decode cX2_isRockAt 1 = .ok (.iload_n 1, 1) := by decide +kernel
theorem dX2_isRockAt_2 : decode cX2_isRockAt 2 = .ok (.invokevirtual 23, 3) := by decide +kernel
theorem dX2_isRockAt_5 : decode cX2_isRockAt 5 = .ok (.bipush 42, 2) := by decide +kernel
theorem dX2_isRockAt_7 : decode cX2_isRockAt 7 = .ok (.if_icmp .ne 7, 3) := by decide +kernel
theorem dX2_isRockAt_10 : decode cX2_isRockAt 10 = .ok (.iconst 1, 1) := by decide +kernel
theorem dX2_isRockAt_11 : decode cX2_isRockAt 11 = .ok (.goto 4, 3) := by decide +kernel
theorem dX2_isRockAt_14 : decode cX2_isRockAt 14 = .ok (.iconst 0, 1) := by decide +kernel
theorem dX2_isRockAt_15 : decode cX2_isRockAt 15 = .ok (.ireturn, 1) := by decide +kernel
theorem dX2_cellAt_0 : decode cX2_cellAt 0 = .ok (.bipush 6, 2) := by decide +kernel
theorem dX2_cellAt_2 : decode cX2_cellAt 2 = .ok (.ldc 51, 2) := by decide +kernel
theorem dX2_cellAt_4 : decode cX2_cellAt 4 = .ok (.aload_n 0, 1) := by decide +kernel
theorem dX2_cellAt_5 : decode cX2_cellAt 5 = .ok (.iload_n 1, 1) := by decide +kernel
theorem dX2_cellAt_6 : decode cX2_cellAt 6 = .ok (.iconst 1, 1) := by decide +kernel
theorem dX2_cellAt_7 : decode cX2_cellAt 7 = .ok (.iadd, 1) := by decide +kernel
theorem dX2_cellAt_8 : decode cX2_cellAt 8 = .ok (.invokevirtual 23, 3) := by decide +kernel
theorem dX2_cellAt_11 : decode cX2_cellAt 11 = .ok (.invokevirtual 53, 3) := by decide +kernel
theorem dX2_cellAt_14 : decode cX2_cellAt 14 = .ok (.imul, 1) := by decide +kernel
theorem dX2_cellAt_15 : decode cX2_cellAt 15 = .ok (.ldc 56, 2) := by decide +kernel
theorem dX2_cellAt_17 : decode cX2_cellAt 17 = .ok (.aload_n 0, 1) := by decide +kernel
theorem dX2_cellAt_18 : decode cX2_cellAt 18 = .ok (.iload_n 1, 1) := by decide +kernel
theorem dX2_cellAt_19 : decode cX2_cellAt 19 = .ok (.invokevirtual 23, 3) := by decide +kernel
theorem dX2_cellAt_22 : decode cX2_cellAt 22 = .ok (.invokevirtual 53, 3) := by decide +kernel
theorem dX2_cellAt_25 : decode cX2_cellAt 25 = .ok (.iadd, 1) := by decide +kernel
theorem dX2_cellAt_26 : decode cX2_cellAt 26 = .ok (.ireturn, 1) := by decide +kernel
theorem dX2_heightAt_0 : decode cX2_heightAt 0 = .ok (.ldc 58, 2) := by decide +kernel
theorem dX2_heightAt_2 : decode cX2_heightAt 2 = .ok (.aload_n 0, 1) := by decide +kernel
theorem dX2_heightAt_3 : decode cX2_heightAt 3 = .ok (.iload_n 1, 1) := by decide +kernel
theorem dX2_heightAt_4 : decode cX2_heightAt 4 = .ok (.invokevirtual 23, 3) := by decide +kernel
theorem dX2_heightAt_7 : decode cX2_heightAt 7 = .ok (.invokevirtual 53, 3) := by decide +kernel
theorem dX2_heightAt_10 : decode cX2_heightAt 10 = .ok (.ireturn, 1) := by decide +kernel
theorem dX2_playerAt_0 : decode cX2_playerAt 0 = .ok (.ldc 60, 2) := by decide +kernel
theorem dX2_playerAt_2 : decode cX2_playerAt 2 = .ok (.aload_n 0, 1) := by decide +kernel
theorem dX2_playerAt_3 : decode cX2_playerAt 3 = .ok (.iload_n 1, 1) := by decide +kernel
theorem dX2_playerAt_4 : decode cX2_playerAt 4 = .ok (.invokevirtual 23, 3) := by decide +kernel
theorem dX2_playerAt_7 : decode cX2_playerAt 7 = .ok (.invokevirtual 53, 3) := by decide +kernel
theorem dX2_playerAt_10 : decode cX2_playerAt 10 = .ok (.ireturn, 1) := by decide +kernel
theorem dX2_draftAt_0 : decode cX2_draftAt 0 = .ok (.iconst 1, 1) := by decide +kernel
theorem dX2_draftAt_1 : decode cX2_draftAt 1 = .ok (.ldc 62, 2) := by decide +kernel
theorem dX2_draftAt_3 : decode cX2_draftAt 3 = .ok (.aload_n 0, 1) := by decide +kernel
theorem dX2_draftAt_4 : decode cX2_draftAt 4 = .ok (.iload_n 1, 1) := by decide +kernel
theorem dX2_draftAt_5 : decode cX2_draftAt 5 = .ok (.invokevirtual 23, 3) := by decide +kernel
theorem dX2_draftAt_8 : decode cX2_draftAt 8 = .ok (.invokevirtual 53, 3) := by decide +kernel
theorem dX2_draftAt_11 : decode cX2_draftAt 11 = .ok (.iadd, 1) := by decide +kernel
theorem dX2_draftAt_12 : decode cX2_draftAt 12 = .ok (.ireturn, 1) := by decide +kernel
theorem dX2_boatAt_0 : decode cX2_boatAt 0 = .ok (.ldc 64, 2) := by decide +kernel
theorem dX2_boatAt_2 : decode cX2_boatAt 2 = .ok (.aload_n 0, 1) := by decide +kernel
theorem dX2_boatAt_3 : decode cX2_boatAt 3 = .ok (.iload_n 1, 1) := by decide +kernel
theorem dX2_boatAt_4 : decode cX2_boatAt 4 = .ok (.invokevirtual 23, 3) := by decide +kernel
theorem dX2_boatAt_7 : decode cX2_boatAt 7 = .ok (.invokevirtual 53, 3) := by decide +kernel
theorem dX2_boatAt_10 : decode cX2_boatAt 10 = .ok (.ireturn, 1) := by decide +kernel
theorem dX2_directionAt_0 : decode cX2_directionAt 0 = .ok (.ldc 66, 2) := by decide +kernel
theorem dX2_directionAt_2 : decode cX2_directionAt 2 = .ok (.aload_n 0, 1) := by decide +kernel
theorem dX2_directionAt_3 : decode cX2_directionAt 3 = .ok (.iload_n 1, 1) := by decide +kernel
theorem dX2_directionAt_4 : decode cX2_directionAt 4 = .ok (.invokevirtual 23, 3) := by decide +kernel
theorem dX2_directionAt_7 : decode cX2_directionAt 7 = .ok (.invokevirtual 53, 3) := by decide +kernel
theorem dX2_directionAt_10 : decode cX2_directionAt 10 = .ok (.ireturn, 1) := by decide +kernel
theorem dX2_stepsAt_0 : decode cX2_stepsAt 0 = .ok (.iconst 1, 1) := by decide +kernel
theorem dX2_stepsAt_1 : decode cX2_stepsAt 1 = .ok (.ldc 62, 2) := by decide +kernel
theorem dX2_stepsAt_3 : decode cX2_stepsAt 3 = .ok (.aload_n 0, 1) := by decide +kernel
theorem dX2_stepsAt_4 : decode cX2_stepsAt 4 = .ok (.iload_n 1, 1) := by decide +kernel
theorem dX2_stepsAt_5 : decode cX2_stepsAt 5 = .ok (.invokevirtual 23, 3) := by decide +kernel
theorem dX2_stepsAt_8 : decode cX2_stepsAt 8 = .ok (.invokevirtual 53, 3) := by decide +kernel
theorem dX2_stepsAt_11 : decode cX2_stepsAt 11 = .ok (.iadd, 1) := by decide +kernel
theorem dX2_stepsAt_12 : decode cX2_stepsAt 12 = .ok (.ireturn, 1) := by decide +kernel
theorem dX2_isColumn_0 : decode cX2_isColumn 0 = .ok (.ldc 56, 2) := by decide +kernel
theorem dX2_isColumn_2 : decode cX2_isColumn 2 = .ok (.iload_n 0, 1) := by decide +kernel
theorem dX2_isColumn_3 : decode cX2_isColumn 3 = .ok (.invokevirtual 53, 3) := by decide +kernel
theorem dX2_isColumn_6 : decode cX2_isColumn 6 = .ok (.ifCond .lt 7, 3) := by decide +kernel
theorem dX2_isColumn_9 : decode cX2_isColumn 9 = .ok (.iconst 1, 1) := by decide +kernel
theorem dX2_isColumn_10 : decode cX2_isColumn 10 = .ok (.goto 4, 3) := by decide +kernel
theorem dX2_isColumn_13 : decode cX2_isColumn 13 = .ok (.iconst 0, 1) := by decide +kernel
theorem dX2_isColumn_14 : decode cX2_isColumn 14 = .ok (.ireturn, 1) := by decide +kernel
theorem dX2_placesOfOrder_0 : decode cX2_placesOfOrder 0 = .ok (.iload_n 0, 1) := by decide +kernel
theorem dX2_placesOfOrder_1 : decode cX2_placesOfOrder 1 = .ok (.invokestatic 43, 3) := by decide +kernel
theorem dX2_placesOfOrder_4 : decode cX2_placesOfOrder 4 = .ok (.ifCond .eq 6, 3) := by decide +kernel
theorem dX2_placesOfOrder_7 : decode cX2_placesOfOrder 7 = .ok (.ldc 68, 2) := by decide +kernel
theorem dX2_placesOfOrder_9 : decode cX2_placesOfOrder 9 = .ok (.areturn, 1) := by decide +kernel
theorem dX2_placesOfOrder_10 : decode cX2_placesOfOrder 10 = .ok (.iload_n 0, 1) := by decide +kernel
theorem dX2_placesOfOrder_11 : decode cX2_placesOfOrder 11 = .ok (.bipush 43, 2) := by decide +kernel
theorem dX2_placesOfOrder_13 : decode cX2_placesOfOrder 13 = .ok (.if_icmp .ne 6, 3) := by decide +kernel
theorem dX2_placesOfOrder_16 : decode cX2_placesOfOrder 16 = .ok (.ldc 70, 2) := by decide +kernel
theorem dX2_placesOfOrder_18 : decode cX2_placesOfOrder 18 = .ok (.areturn, 1) := by decide +kernel
theorem dX2_placesOfOrder_19 : decode cX2_placesOfOrder 19 = .ok (.ldc 64, 2) := by decide +kernel
theorem dX2_placesOfOrder_21 : decode cX2_placesOfOrder 21 = .ok (.iload_n 0, 1) := by decide +kernel
theorem dX2_placesOfOrder_22 : decode cX2_placesOfOrder 22 = .ok (.invokevirtual 53, 3) := by decide +kernel
theorem dX2_placesOfOrder_25 : decode cX2_placesOfOrder 25 = .ok (.ifCond .lt 8, 3) := by decide +kernel
theorem dX2_placesOfOrder_28 : decode cX2_placesOfOrder 28 = .ok (.ldc 72, 2) := by decide +kernel
theorem dX2_placesOfOrder_30 : decode cX2_placesOfOrder 30 = .ok (.goto 5, 3) := by decide +kernel
theorem dX2_placesOfOrder_33 : decode cX2_placesOfOrder 33 = .ok (.ldc 74, 2) := by decide +kernel
theorem dX2_placesOfOrder_35 : decode cX2_placesOfOrder 35 = .ok (.areturn, 1) := by decide +kernel
theorem dX2_fits_0 : decode cX2_fits 0 = .ok (.iload_n 1, 1) := by decide +kernel
theorem dX2_fits_1 : decode cX2_fits 1 = .ok (.invokestatic 76, 3) := by decide +kernel
theorem dX2_fits_4 : decode cX2_fits 4 = .ok (.astore_n 2, 1) := by decide +kernel
theorem dX2_fits_5 : decode cX2_fits 5 = .ok (.aload_n 2, 1) := by decide +kernel
theorem dX2_fits_6 : decode cX2_fits 6 = .ok (.invokevirtual 79, 3) := by decide +kernel
theorem dX2_fits_9 : decode cX2_fits 9 = .ok (.ifCond .eq 16, 3) := by decide +kernel
theorem dX2_fits_12 : decode cX2_fits 12 = .ok (.iload_n 0, 1) := by decide +kernel
theorem dX2_fits_13 : decode cX2_fits 13 = .ok (.iload_n 1, 1) := by decide +kernel
theorem dX2_fits_14 : decode cX2_fits 14 = .ok (.if_icmp .ne 7, 3) := by decide +kernel
theorem dX2_fits_17 : decode cX2_fits 17 = .ok (.iconst 1, 1) := by decide +kernel
theorem dX2_fits_18 : decode cX2_fits 18 = .ok (.goto 20, 3) := by decide +kernel
theorem dX2_fits_21 : decode cX2_fits 21 = .ok (.iconst 0, 1) := by decide +kernel
theorem dX2_fits_22 : decode cX2_fits 22 = .ok (.goto 16, 3) := by decide +kernel
theorem dX2_fits_25 : decode cX2_fits 25 = .ok (.aload_n 2, 1) := by decide +kernel
theorem dX2_fits_26 : decode cX2_fits 26 = .ok (.iload_n 0, 1) := by decide +kernel
theorem dX2_fits_27 : decode cX2_fits 27 = .ok (.invokevirtual 53, 3) := by decide +kernel
theorem dX2_fits_30 : decode cX2_fits 30 = .ok (.ifCond .lt 7, 3) := by decide +kernel
theorem dX2_fits_33 : decode cX2_fits 33 = .ok (.iconst 1, 1) := by decide +kernel
theorem dX2_fits_34 : decode cX2_fits 34 = .ok (.goto 4, 3) := by decide +kernel
theorem dX2_fits_37 : decode cX2_fits 37 = .ok (.iconst 0, 1) := by decide +kernel
theorem dX2_fits_38 : decode cX2_fits 38 = .ok (.ireturn, 1) := by decide +kernel
theorem dX2_allowedAt_0 : decode cX2_allowedAt 0 = .ok (.iload_n 0, 1) := by decide +kernel
theorem dX2_allowedAt_1 : decode cX2_allowedAt 1 = .ok (.bipush 67, 2) := by decide +kernel
theorem dX2_allowedAt_3 : decode cX2_allowedAt 3 = .ok (.if_icmp .ne 6, 3) := by decide +kernel
theorem dX2_allowedAt_6 : decode cX2_allowedAt 6 = .ok (.ldc 56, 2) := by decide +kernel
theorem dX2_allowedAt_8 : decode cX2_allowedAt 8 = .ok (.areturn, 1) := by decide +kernel
theorem dX2_allowedAt_9 : decode cX2_allowedAt 9 = .ok (.iload_n 0, 1) := by decide +kernel
theorem dX2_allowedAt_10 : decode cX2_allowedAt 10 = .ok (.bipush 82, 2) := by decide +kernel
theorem dX2_allowedAt_12 : decode cX2_allowedAt 12 = .ok (.if_icmp .ne 6, 3) := by decide +kernel
theorem dX2_allowedAt_15 : decode cX2_allowedAt 15 = .ok (.ldc 51, 2) := by decide +kernel
theorem dX2_allowedAt_17 : decode cX2_allowedAt 17 = .ok (.areturn, 1) := by decide +kernel
theorem dX2_allowedAt_18 : decode cX2_allowedAt 18 = .ok (.iload_n 0, 1) := by decide +kernel
theorem dX2_allowedAt_19 : decode cX2_allowedAt 19 = .ok (.bipush 72, 2) := by decide +kernel
theorem dX2_allowedAt_21 : decode cX2_allowedAt 21 = .ok (.if_icmp .ne 6, 3) := by decide +kernel
theorem dX2_allowedAt_24 : decode cX2_allowedAt 24 = .ok (.ldc 58, 2) := by decide +kernel
theorem dX2_allowedAt_26 : decode cX2_allowedAt 26 = .ok (.areturn, 1) := by decide +kernel
theorem dX2_allowedAt_27 : decode cX2_allowedAt 27 = .ok (.iload_n 0, 1) := by decide +kernel
theorem dX2_allowedAt_28 : decode cX2_allowedAt 28 = .ok (.bipush 80, 2) := by decide +kernel
theorem dX2_allowedAt_30 : decode cX2_allowedAt 30 = .ok (.if_icmp .ne 6, 3) := by decide +kernel
theorem dX2_allowedAt_33 : decode cX2_allowedAt 33 = .ok (.ldc 60, 2) := by decide +kernel
theorem dX2_allowedAt_35 : decode cX2_allowedAt 35 = .ok (.areturn, 1) := by decide +kernel
theorem dX2_allowedAt_36 : decode cX2_allowedAt 36 = .ok (.iload_n 0, 1) := by decide +kernel
theorem dX2_allowedAt_37 : decode cX2_allowedAt 37 = .ok (.bipush 68, 2) := by decide +kernel
theorem dX2_allowedAt_39 : decode cX2_allowedAt 39 = .ok (.if_icmp .ne 6, 3) := by decide +kernel
theorem dX2_allowedAt_42 : decode cX2_allowedAt 42 = .ok (.ldc 62, 2) := by decide +kernel
theorem dX2_allowedAt_44 : decode cX2_allowedAt 44 = .ok (.areturn, 1) := by decide +kernel
theorem dX2_allowedAt_45 : decode cX2_allowedAt 45 = .ok (.iload_n 0, 1) := by decide +kernel
theorem dX2_allowedAt_46 : decode cX2_allowedAt 46 = .ok (.bipush 66, 2) := by decide +kernel
theorem dX2_allowedAt_48 : decode cX2_allowedAt 48 = .ok (.if_icmp .ne 6, 3) := by decide +kernel
theorem dX2_allowedAt_51 : decode cX2_allowedAt 51 = .ok (.ldc 64, 2) := by decide +kernel
theorem dX2_allowedAt_53 : decode cX2_allowedAt 53 = .ok (.areturn, 1) := by decide +kernel
theorem dX2_allowedAt_54 : decode cX2_allowedAt 54 = .ok (.iload_n 0, 1) := by decide +kernel
theorem dX2_allowedAt_55 : decode cX2_allowedAt 55 = .ok (.bipush 87, 2) := by decide +kernel
theorem dX2_allowedAt_57 : decode cX2_allowedAt 57 = .ok (.if_icmp .ne 6, 3) := by decide +kernel
theorem dX2_allowedAt_60 : decode cX2_allowedAt 60 = .ok (.ldc 66, 2) := by decide +kernel
theorem dX2_allowedAt_62 : decode cX2_allowedAt 62 = .ok (.areturn, 1) := by decide +kernel
theorem dX2_allowedAt_63 : decode cX2_allowedAt 63 = .ok (.iload_n 0, 1) := by decide +kernel
theorem dX2_allowedAt_64 : decode cX2_allowedAt 64 = .ok (.bipush 83, 2) := by decide +kernel
theorem dX2_allowedAt_66 : decode cX2_allowedAt 66 = .ok (.if_icmp .ne 8, 3) := by decide +kernel
theorem dX2_allowedAt_69 : decode cX2_allowedAt 69 = .ok (.ldc 62, 2) := by decide +kernel
theorem dX2_allowedAt_71 : decode cX2_allowedAt 71 = .ok (.goto 5, 3) := by decide +kernel
theorem dX2_allowedAt_74 : decode cX2_allowedAt 74 = .ok (.ldc 83, 2) := by decide +kernel
theorem dX2_allowedAt_76 : decode cX2_allowedAt 76 = .ok (.areturn, 1) := by decide +kernel
theorem dX3_init_0 : decode cX3_init 0 = .ok (.aload_n 0, 1) := by decide +kernel
theorem dX3_init_1 : decode cX3_init 1 = .ok (.invokespecial 3, 3) := by decide +kernel
theorem dX3_init_4 : decode cX3_init 4 = .ok (.aload_n 0, 1) := by decide +kernel
theorem dX3_init_5 : decode cX3_init 5 = .ok (.aload_n 1, 1) := by decide +kernel
theorem dX3_init_6 : decode cX3_init 6 = .ok (.putfield 9, 3) := by decide +kernel
theorem dX3_init_9 : decode cX3_init 9 = .ok (.return_, 1) := by decide +kernel
theorem dX3_laySand_0 : decode cX3_laySand 0 = .ok (.iload_n 1, 1) := by decide +kernel
theorem dX3_laySand_1 : decode cX3_laySand 1 = .ok (.invokestatic 15, 3) := by decide +kernel
theorem dX3_laySand_4 : decode cX3_laySand 4 = .ok (.ifCond .ne 5, 3) := by decide +kernel
theorem dX3_laySand_7 : decode cX3_laySand 7 = .ok (.iconst (-1), 1) := by decide +kernel
theorem dX3_laySand_8 : decode cX3_laySand 8 = .ok (.ireturn, 1) := by decide +kernel
theorem dX3_laySand_9 : decode cX3_laySand 9 = .ok (.iload_n 2, 1) := by decide +kernel
theorem dX3_laySand_10 : decode cX3_laySand 10 = .ok (.ifCond .lt 8, 3) := by decide +kernel
theorem dX3_laySand_13 : decode cX3_laySand 13 = .ok (.iload_n 2, 1) := by decide +kernel
theorem dX3_laySand_14 : decode cX3_laySand 14 = .ok (.iconst 4, 1) := by decide +kernel
theorem dX3_laySand_15 : decode cX3_laySand 15 = .ok (.if_icmp .le 6, 3) := by decide +kernel
theorem dX3_laySand_18 : decode cX3_laySand 18 = .ok (.bipush (-2), 2) := by decide +kernel
theorem dX3_laySand_20 : decode cX3_laySand 20 = .ok (.ireturn, 1) := by decide +kernel
theorem dX3_laySand_21 : decode cX3_laySand 21 = .ok (.iload_n 1, 1) := by decide +kernel
theorem dX3_laySand_22 : decode cX3_laySand 22 = .ok (.invokestatic 19, 3) := by decide +kernel
theorem dX3_laySand_25 : decode cX3_laySand 25 = .ok (.ifCond .ne 13, 3) := by decide +kernel
theorem dX3_laySand_28 : decode cX3_laySand 28 = .ok (.aload_n 0, 1) := by decide +kernel
theorem dX3_laySand_29 : decode cX3_laySand 29 = .ok (.getfield 9, 3) := by decide +kernel
theorem dX3_laySand_32 : decode cX3_laySand 32 = .ok (.getfield 22, 3) := by decide +kernel
theorem dX3_laySand_35 : decode cX3_laySand 35 = .ok (.ifCond .eq 6, 3) := by decide +kernel
theorem dX3_laySand_38 : decode cX3_laySand 38 = .ok (.bipush (-4), 2) := by decide +kernel
theorem dX3_laySand_40 : decode cX3_laySand 40 = .ok (.ireturn, 1) := by decide +kernel
theorem dX3_laySand_41 : decode cX3_laySand 41 = .ok (.iload_n 3, 1) := by decide +kernel
theorem dX3_laySand_42 : decode cX3_laySand 42 = .ok (.ifCond .eq 7, 3) := by decide +kernel
theorem dX3_laySand_45 : decode cX3_laySand 45 = .ok (.iconst 1, 1) := by decide +kernel
theorem dX3_laySand_46 : decode cX3_laySand 46 = .ok (.goto 4, 3) := by decide +kernel
theorem dX3_laySand_49 : decode cX3_laySand 49 = .ok (.iconst 0, 1) := by decide +kernel
theorem dX3_laySand_50 : decode cX3_laySand 50 = .ok (.istore 4, 2) := by decide +kernel
theorem dX3_laySand_52 : decode cX3_laySand 52 = .ok (.aload_n 0, 1) := by decide +kernel
theorem dX3_laySand_53 : decode cX3_laySand 53 = .ok (.getfield 9, 3) := by decide +kernel
theorem dX3_laySand_56 : decode cX3_laySand 56 = .ok (.getfield 28, 3) := by decide +kernel
theorem dX3_laySand_59 : decode cX3_laySand 59 = .ok (.iload_n 1, 1) := by decide +kernel
theorem dX3_laySand_60 : decode cX3_laySand 60 = .ok (.invokestatic 32, 3) := by decide +kernel
theorem dX3_laySand_63 : decode cX3_laySand 63 = .ok (.istore 5, 2) := by decide +kernel
theorem dX3_laySand_65 : decode cX3_laySand 65 = .ok (.iload 5, 2) := by decide +kernel
theorem dX3_laySand_67 : decode cX3_laySand 67 = .ok (.iload_n 2, 1) := by decide +kernel
theorem dX3_laySand_68 : decode cX3_laySand 68 = .ok (.if_icmp .ne 22, 3) := by decide +kernel
theorem dX3_laySand_71 : decode cX3_laySand 71 = .ok (.aload_n 0, 1) := by decide +kernel
theorem dX3_laySand_72 : decode cX3_laySand 72 = .ok (.getfield 9, 3) := by decide +kernel
theorem dX3_laySand_75 : decode cX3_laySand 75 = .ok (.getfield 36, 3) := by decide +kernel
theorem dX3_laySand_78 : decode cX3_laySand 78 = .ok (.iload_n 1, 1) := by decide +kernel
theorem dX3_laySand_79 : decode cX3_laySand 79 = .ok (.invokestatic 32, 3) := by decide +kernel
theorem dX3_laySand_82 : decode cX3_laySand 82 = .ok (.iload 4, 2) := by decide +kernel
theorem dX3_laySand_84 : decode cX3_laySand 84 = .ok (.if_icmp .ne 6, 3) := by decide +kernel
theorem dX3_laySand_87 : decode cX3_laySand 87 = .ok (.bipush (-5), 2) := by decide +kernel
theorem dX3_laySand_89 : decode cX3_laySand 89 = .ok (.ireturn, 1) := by decide +kernel
theorem dX3_laySand_90 : decode cX3_laySand 90 = .ok (.aload_n 0, 1) := by decide +kernel
theorem dX3_laySand_91 : decode cX3_laySand 91 = .ok (.getfield 9, 3) := by decide +kernel
theorem dX3_laySand_94 : decode cX3_laySand 94 = .ok (.getfield 28, 3) := by decide +kernel
theorem dX3_laySand_97 : decode cX3_laySand 97 = .ok (.iload_n 1, 1) := by decide +kernel
theorem dX3_laySand_98 : decode cX3_laySand 98 = .ok (.iload_n 2, 1) := by decide +kernel
theorem dX3_laySand_99 : decode cX3_laySand 99 = .ok (.invokestatic 39, 3) := by decide +kernel
theorem dX3_laySand_102 : decode cX3_laySand 102 = .ok (.aload_n 0, 1) := by decide +kernel
theorem dX3_laySand_103 : decode cX3_laySand 103 = .ok (.getfield 9, 3) := by decide +kernel
theorem dX3_laySand_106 : decode cX3_laySand 106 = .ok (.getfield 36, 3) := by decide +kernel
theorem dX3_laySand_109 : decode cX3_laySand 109 = .ok (.iload_n 1, 1) := by decide +kernel
theorem dX3_laySand_110 : decode cX3_laySand 110 = .ok (.iload 4, 2) := by decide +kernel
theorem dX3_laySand_112 : decode cX3_laySand 112 = .ok (.invokestatic 39, 3) := by decide +kernel
theorem dX3_laySand_115 : decode cX3_laySand 115 = .ok (.iload 5, 2) := by decide +kernel
theorem dX3_laySand_117 : decode cX3_laySand 117 = .ok (.ireturn, 1) := by decide +kernel
theorem dX3_addBoat_0 : decode cX3_addBoat 0 = .ok (.iload_n 1, 1) := by decide +kernel
theorem dX3_addBoat_1 : decode cX3_addBoat 1 = .ok (.invokestatic 43, 3) := by decide +kernel
theorem dX3_addBoat_4 : decode cX3_addBoat 4 = .ok (.ifCond .eq 10, 3) := by decide +kernel
theorem dX3_addBoat_7 : decode cX3_addBoat 7 = .ok (.iload_n 3, 1) := by decide +kernel
theorem dX3_addBoat_8 : decode cX3_addBoat 8 = .ok (.invokestatic 15, 3) := by decide +kernel
theorem dX3_addBoat_11 : decode cX3_addBoat 11 = .ok (.ifCond .ne 5, 3) := by decide +kernel
theorem dX3_addBoat_14 : decode cX3_addBoat 14 = .ok (.iconst (-1), 1) := by decide +kernel
theorem dX3_addBoat_15 : decode cX3_addBoat 15 = .ok (.ireturn, 1) := by decide +kernel
theorem dX3_addBoat_16 : decode cX3_addBoat 16 = .ok (.iload_n 2, 1) := by decide +kernel
theorem dX3_addBoat_17 : decode cX3_addBoat 17 = .ok (.invokestatic 46, 3) := by decide +kernel
theorem dX3_addBoat_20 : decode cX3_addBoat 20 = .ok (.ifCond .ne 6, 3) := by decide +kernel
theorem dX3_addBoat_23 : decode cX3_addBoat 23 = .ok (.bipush (-2), 2) := by decide +kernel
theorem dX3_addBoat_25 : decode cX3_addBoat 25 = .ok (.ireturn, 1) := by decide +kernel
theorem dX3_addBoat_26 : decode cX3_addBoat 26 = .ok (.aload_n 0, 1) := by decide +kernel
theorem dX3_addBoat_27 : decode cX3_addBoat 27 = .ok (.getfield 9, 3) := by decide +kernel
theorem dX3_addBoat_30 : decode cX3_addBoat 30 = .ok (.getfield 22, 3) := by decide +kernel
theorem dX3_addBoat_33 : decode cX3_addBoat 33 = .ok (.ifCond .ne 23, 3) := by decide +kernel
theorem dX3_addBoat_36 : decode cX3_addBoat 36 = .ok (.iload_n 3, 1) := by decide +kernel
theorem dX3_addBoat_37 : decode cX3_addBoat 37 = .ok (.invokestatic 19, 3) := by decide +kernel
theorem dX3_addBoat_40 : decode cX3_addBoat 40 = .ok (.ifCond .ne 16, 3) := by decide +kernel
theorem dX3_addBoat_43 : decode cX3_addBoat 43 = .ok (.aload_n 0, 1) := by decide +kernel
theorem dX3_addBoat_44 : decode cX3_addBoat 44 = .ok (.getfield 9, 3) := by decide +kernel
theorem dX3_addBoat_47 : decode cX3_addBoat 47 = .ok (.iload_n 3, 1) := by decide +kernel
theorem dX3_addBoat_48 : decode cX3_addBoat 48 = .ok (.invokevirtual 49, 3) := by decide +kernel
theorem dX3_addBoat_51 : decode cX3_addBoat 51 = .ok (.bipush (-5), 2) := by decide +kernel
theorem dX3_addBoat_53 : decode cX3_addBoat 53 = .ok (.if_icmp .eq 6, 3) := by decide +kernel
theorem dX3_addBoat_56 : decode cX3_addBoat 56 = .ok (.bipush (-4), 2) := by decide +kernel
theorem dX3_addBoat_58 : decode cX3_addBoat 58 = .ok (.ireturn, 1) := by decide +kernel
theorem dX3_addBoat_59 : decode cX3_addBoat 59 = .ok (.aload_n 0, 1) := by decide +kernel
theorem dX3_addBoat_60 : decode cX3_addBoat 60 = .ok (.getfield 9, 3) := by decide +kernel
theorem dX3_addBoat_63 : decode cX3_addBoat 63 = .ok (.getfield 53, 3) := by decide +kernel
theorem dX3_addBoat_66 : decode cX3_addBoat 66 = .ok (.istore 4, 2) := by decide +kernel
theorem dX3_addBoat_68 : decode cX3_addBoat 68 = .ok (.iload 4, 2) := by decide +kernel
theorem dX3_addBoat_70 : decode cX3_addBoat 70 = .ok (.bipush 10, 2) := by decide +kernel
theorem dX3_addBoat_72 : decode cX3_addBoat 72 = .ok (.if_icmp .lt 6, 3) := by decide +kernel
theorem dX3_addBoat_75 : decode cX3_addBoat 75 = .ok (.bipush (-3), 2) := by decide +kernel
theorem dX3_addBoat_77 : decode cX3_addBoat 77 = .ok (.ireturn, 1) := by decide +kernel
theorem dX3_addBoat_78 : decode cX3_addBoat 78 = .ok (.aload_n 0, 1) := by decide +kernel
theorem dX3_addBoat_79 : decode cX3_addBoat 79 = .ok (.getfield 9, 3) := by decide +kernel
theorem dX3_addBoat_82 : decode cX3_addBoat 82 = .ok (.getfield 56, 3) := by decide +kernel
theorem dX3_addBoat_85 : decode cX3_addBoat 85 = .ok (.iload 4, 2) := by decide +kernel
theorem dX3_addBoat_87 : decode cX3_addBoat 87 = .ok (.iload_n 1, 1) := by decide +kernel
theorem dX3_addBoat_88 : decode cX3_addBoat 88 = .ok (.invokestatic 39, 3) := by decide +kernel
theorem dX3_addBoat_91 : decode cX3_addBoat 91 = .ok (.aload_n 0, 1) := by decide +kernel
theorem dX3_addBoat_92 : decode cX3_addBoat 92 = .ok (.getfield 9, 3) := by decide +kernel
theorem dX3_addBoat_95 : decode cX3_addBoat 95 = .ok (.getfield 59, 3) := by decide +kernel
theorem dX3_addBoat_98 : decode cX3_addBoat 98 = .ok (.iload 4, 2) := by decide +kernel
theorem dX3_addBoat_100 : decode cX3_addBoat 100 = .ok (.iload_n 2, 1) := by decide +kernel
theorem dX3_addBoat_101 : decode cX3_addBoat 101 = .ok (.invokestatic 39, 3) := by decide +kernel
theorem dX3_addBoat_104 : decode cX3_addBoat 104 = .ok (.aload_n 0, 1) := by decide +kernel
theorem dX3_addBoat_105 : decode cX3_addBoat 105 = .ok (.getfield 9, 3) := by decide +kernel
theorem dX3_addBoat_108 : decode cX3_addBoat 108 = .ok (.getfield 62, 3) := by decide +kernel
theorem dX3_addBoat_111 : decode cX3_addBoat 111 = .ok (.iload 4, 2) := by decide +kernel
theorem dX3_addBoat_113 : decode cX3_addBoat 113 = .ok (.iconst 0, 1) := by decide +kernel
theorem dX3_addBoat_114 : decode cX3_addBoat 114 = .ok (.invokestatic 39, 3) := by decide +kernel
theorem dX3_addBoat_117 : decode cX3_addBoat 117 = .ok (.aload_n 0, 1) := by decide +kernel
theorem dX3_addBoat_118 : decode cX3_addBoat 118 = .ok (.getfield 9, 3) := by decide +kernel
theorem dX3_addBoat_121 : decode cX3_addBoat 121 = .ok (.getfield 65, 3) := by decide +kernel
theorem dX3_addBoat_124 : decode cX3_addBoat 124 = .ok (.iload 4, 2) := by decide +kernel
theorem dX3_addBoat_126 : decode cX3_addBoat 126 = .ok (.iload_n 3, 1) := by decide +kernel
theorem dX3_addBoat_127 : decode cX3_addBoat 127 = .ok (.invokestatic 39, 3) := by decide +kernel
theorem dX3_addBoat_130 : decode cX3_addBoat 130 = .ok (.aload_n 0, 1) := by decide +kernel
theorem dX3_addBoat_131 : decode cX3_addBoat 131 = .ok (.getfield 9, 3) := by decide +kernel
theorem dX3_addBoat_134 : decode cX3_addBoat 134 = .ok (.getfield 68, 3) := by decide +kernel
theorem dX3_addBoat_137 : decode cX3_addBoat 137 = .ok (.iload 4, 2) := by decide +kernel
theorem dX3_addBoat_139 : decode cX3_addBoat 139 = .ok (.iconst 0, 1) := by decide +kernel
theorem dX3_addBoat_140 : decode cX3_addBoat 140 = .ok (.invokestatic 39, 3) := by decide +kernel
theorem dX3_addBoat_143 : decode cX3_addBoat 143 = .ok (.aload_n 0, 1) := by decide +kernel
theorem dX3_addBoat_144 : decode cX3_addBoat 144 = .ok (.getfield 9, 3) := by decide +kernel
theorem dX3_addBoat_147 : decode cX3_addBoat 147 = .ok (.iload 4, 2) := by decide +kernel
theorem dX3_addBoat_149 : decode cX3_addBoat 149 = .ok (.iconst 1, 1) := by decide +kernel
theorem dX3_addBoat_150 : decode cX3_addBoat 150 = .ok (.iadd, 1) := by decide +kernel
theorem dX3_addBoat_151 : decode cX3_addBoat 151 = .ok (.putfield 53, 3) := by decide +kernel
theorem dX3_addBoat_154 : decode cX3_addBoat 154 = .ok (.iload 4, 2) := by decide +kernel
theorem dX3_addBoat_156 : decode cX3_addBoat 156 = .ok (.ireturn, 1) := by decide +kernel
theorem dX3_changeSetting_0 : decode cX3_changeSetting 0 = .ok (.iload_n 1, 1) := by decide +kernel
theorem dX3_changeSetting_1 : decode cX3_changeSetting 1 = .ok (.ifCond .lt 8, 3) := by decide +kernel
theorem dX3_changeSetting_4 : decode cX3_changeSetting 4 = .ok (.iload_n 1, 1) := by decide +kernel
theorem dX3_changeSetting_5 : decode cX3_changeSetting 5 = .ok (.iconst 4, 1) := by decide +kernel
theorem dX3_changeSetting_6 : decode cX3_changeSetting 6 = .ok (.if_icmp .lt 6, 3) := by decide +kernel
theorem dX3_changeSetting_9 : decode cX3_changeSetting 9 = .ok (.bipush (-2), 2) := by decide +kernel
theorem dX3_changeSetting_11 : decode cX3_changeSetting 11 = .ok (.ireturn, 1) := by decide +kernel
theorem dX3_changeSetting_12 : decode cX3_changeSetting 12 = .ok (.iload_n 2, 1) := by decide +kernel
theorem dX3_changeSetting_13 : decode cX3_changeSetting 13 = .ok (.getstatic 71, 3) := by decide +kernel
theorem dX3_changeSetting_16 : decode cX3_changeSetting 16 = .ok (.iload_n 1, 1) := by decide +kernel
theorem dX3_changeSetting_17 : decode cX3_changeSetting 17 = .ok (.invokestatic 32, 3) := by decide +kernel
theorem dX3_changeSetting_20 : decode cX3_changeSetting 20 = .ok (.if_icmp .lt 14, 3) := by decide +kernel
theorem dX3_changeSetting_23 : decode cX3_changeSetting 23 = .ok (.iload_n 2, 1) := by decide +kernel
theorem dX3_changeSetting_24 : decode cX3_changeSetting 24 = .ok (.getstatic 74, 3) := by decide +kernel
theorem dX3_changeSetting_27 : decode cX3_changeSetting 27 = .ok (.iload_n 1, 1) := by decide +kernel
theorem dX3_changeSetting_28 : decode cX3_changeSetting 28 = .ok (.invokestatic 32, 3) := by decide +kernel
theorem dX3_changeSetting_31 : decode cX3_changeSetting 31 = .ok (.if_icmp .le 6, 3) := by decide +kernel
theorem dX3_changeSetting_34 : decode cX3_changeSetting 34 = .ok (.bipush (-2), 2) := by decide +kernel
theorem dX3_changeSetting_36 : decode cX3_changeSetting 36 = .ok (.ireturn, 1) := by decide +kernel
theorem dX3_changeSetting_37 : decode cX3_changeSetting 37 = .ok (.aload_n 0, 1) := by decide +kernel
theorem dX3_changeSetting_38 : decode cX3_changeSetting 38 = .ok (.getfield 9, 3) := by decide +kernel
theorem dX3_changeSetting_41 : decode cX3_changeSetting 41 = .ok (.getfield 22, 3) := by decide +kernel
theorem dX3_changeSetting_44 : decode cX3_changeSetting 44 = .ok (.ifCond .eq 6, 3) := by decide +kernel
theorem dX3_changeSetting_47 : decode cX3_changeSetting 47 = .ok (.bipush (-4), 2) := by decide +kernel
theorem dX3_changeSetting_49 : decode cX3_changeSetting 49 = .ok (.ireturn, 1) := by decide +kernel
theorem dX3_changeSetting_50 : decode cX3_changeSetting 50 = .ok (.aload_n 0, 1) := by decide +kernel
theorem dX3_changeSetting_51 : decode cX3_changeSetting 51 = .ok (.getfield 9, 3) := by decide +kernel
theorem dX3_changeSetting_54 : decode cX3_changeSetting 54 = .ok (.iload_n 1, 1) := by decide +kernel
theorem dX3_changeSetting_55 : decode cX3_changeSetting 55 = .ok (.invokevirtual 77, 3) := by decide +kernel
theorem dX3_changeSetting_58 : decode cX3_changeSetting 58 = .ok (.istore_n 3, 1) := by decide +kernel
theorem dX3_changeSetting_59 : decode cX3_changeSetting 59 = .ok (.iload_n 3, 1) := by decide +kernel
theorem dX3_changeSetting_60 : decode cX3_changeSetting 60 = .ok (.iload_n 2, 1) := by decide +kernel
theorem dX3_changeSetting_61 : decode cX3_changeSetting 61 = .ok (.if_icmp .ne 6, 3) := by decide +kernel
theorem dX3_changeSetting_64 : decode cX3_changeSetting 64 = .ok (.bipush (-5), 2) := by decide +kernel
theorem dX3_changeSetting_66 : decode cX3_changeSetting 66 = .ok (.ireturn, 1) := by decide +kernel
theorem dX3_changeSetting_67 : decode cX3_changeSetting 67 = .ok (.aload_n 0, 1) := by decide +kernel
theorem dX3_changeSetting_68 : decode cX3_changeSetting 68 = .ok (.getfield 9, 3) := by decide +kernel
theorem dX3_changeSetting_71 : decode cX3_changeSetting 71 = .ok (.iload_n 1, 1) := by decide +kernel
theorem dX3_changeSetting_72 : decode cX3_changeSetting 72 = .ok (.iload_n 2, 1) := by decide +kernel
theorem dX3_changeSetting_73 : decode cX3_changeSetting 73 = .ok (.invokevirtual 80, 3) := by decide +kernel
theorem dX3_changeSetting_76 : decode cX3_changeSetting 76 = .ok (.iload_n 3, 1) := by decide +kernel
theorem dX3_changeSetting_77 : decode cX3_changeSetting 77 = .ok (.ireturn, 1) := by decide +kernel
theorem dX3_sail_0 : decode cX3_sail 0 = .ok (.aload_n 0, 1) := by decide +kernel
theorem dX3_sail_1 : decode cX3_sail 1 = .ok (.iload_n 1, 1) := by decide +kernel
theorem dX3_sail_2 : decode cX3_sail 2 = .ok (.iload_n 2, 1) := by decide +kernel
theorem dX3_sail_3 : decode cX3_sail 3 = .ok (.iload_n 3, 1) := by decide +kernel
theorem dX3_sail_4 : decode cX3_sail 4 = .ok (.invokevirtual 84, 3) := by decide +kernel
theorem dX3_sail_7 : decode cX3_sail 7 = .ok (.istore 4, 2) := by decide +kernel
theorem dX3_sail_9 : decode cX3_sail 9 = .ok (.iload 4, 2) := by decide +kernel
theorem dX3_sail_11 : decode cX3_sail 11 = .ok (.ifCond .eq 6, 3) := by decide +kernel
theorem dX3_sail_14 : decode cX3_sail 14 = .ok (.iload 4, 2) := by decide +kernel
theorem dX3_sail_16 : decode cX3_sail 16 = .ok (.ireturn, 1) := by decide +kernel
theorem dX3_sail_17 : decode cX3_sail 17 = .ok (.aload_n 0, 1) := by decide +kernel
theorem dX3_sail_18 : decode cX3_sail 18 = .ok (.iload_n 1, 1) := by decide +kernel
theorem dX3_sail_19 : decode cX3_sail 19 = .ok (.iload_n 2, 1) := by decide +kernel
theorem dX3_sail_20 : decode cX3_sail 20 = .ok (.iload_n 3, 1) := by decide +kernel
theorem dX3_sail_21 : decode cX3_sail 21 = .ok (.iconst 0, 1) := by decide +kernel
theorem dX3_sail_22 : decode cX3_sail 22 = .ok (.invokevirtual 88, 3) := by decide +kernel
theorem dX3_sail_25 : decode cX3_sail 25 = .ok (.istore 5, 2) := by decide +kernel
theorem dX3_sail_27 : decode cX3_sail 27 = .ok (.iload 5, 2) := by decide +kernel
theorem dX3_sail_29 : decode cX3_sail 29 = .ok (.ifCond .eq 9, 3) := by decide +kernel
theorem dX3_sail_32 : decode cX3_sail 32 = .ok (.bipush (-10), 2) := by decide +kernel
theorem dX3_sail_34 : decode cX3_sail 34 = .ok (.iload 5, 2) := by decide +kernel
theorem dX3_sail_36 : decode cX3_sail 36 = .ok (.isub, 1) := by decide +kernel
theorem dX3_sail_37 : decode cX3_sail 37 = .ok (.ireturn, 1) := by decide +kernel
theorem dX3_sail_38 : decode cX3_sail 38 = .ok (.aload_n 0, 1) := by decide +kernel
theorem dX3_sail_39 : decode cX3_sail 39 = .ok (.getfield 9, 3) := by decide +kernel
theorem dX3_sail_42 : decode cX3_sail 42 = .ok (.getfield 65, 3) := by decide +kernel
theorem dX3_sail_45 : decode cX3_sail 45 = .ok (.iload_n 1, 1) := by decide +kernel
theorem dX3_sail_46 : decode cX3_sail 46 = .ok (.invokestatic 32, 3) := by decide +kernel
theorem dX3_sail_49 : decode cX3_sail 49 = .ok (.iload_n 2, 1) := by decide +kernel
theorem dX3_sail_50 : decode cX3_sail 50 = .ok (.iload_n 3, 1) := by decide +kernel
theorem dX3_sail_51 : decode cX3_sail 51 = .ok (.invokestatic 92, 3) := by decide +kernel
theorem dX3_sail_54 : decode cX3_sail 54 = .ok (.istore 6, 2) := by decide +kernel
theorem dX3_sail_56 : decode cX3_sail 56 = .ok (.aload_n 0, 1) := by decide +kernel
theorem dX3_sail_57 : decode cX3_sail 57 = .ok (.aload_n 0, 1) := by decide +kernel
theorem dX3_sail_58 : decode cX3_sail 58 = .ok (.getfield 9, 3) := by decide +kernel
theorem dX3_sail_61 : decode cX3_sail 61 = .ok (.iload 6, 2) := by decide +kernel
theorem dX3_sail_63 : decode cX3_sail 63 = .ok (.invokevirtual 49, 3) := by decide +kernel
theorem dX3_sail_66 : decode cX3_sail 66 = .ok (.invokevirtual 95, 3) := by decide +kernel
theorem dX3_sail_69 : decode cX3_sail 69 = .ok (.istore 7, 2) := by decide +kernel
theorem dX3_sail_71 : decode cX3_sail 71 = .ok (.aload_n 0, 1) := by decide +kernel
theorem dX3_sail_72 : decode cX3_sail 72 = .ok (.getfield 9, 3) := by decide +kernel
theorem dX3_sail_75 : decode cX3_sail 75 = .ok (.getfield 68, 3) := by decide +kernel
theorem dX3_sail_78 : decode cX3_sail 78 = .ok (.iload_n 1, 1) := by decide +kernel
theorem dX3_sail_79 : decode cX3_sail 79 = .ok (.aload_n 0, 1) := by decide +kernel
theorem dX3_sail_80 : decode cX3_sail 80 = .ok (.getfield 9, 3) := by decide +kernel
theorem dX3_sail_83 : decode cX3_sail 83 = .ok (.getfield 68, 3) := by decide +kernel
theorem dX3_sail_86 : decode cX3_sail 86 = .ok (.iload_n 1, 1) := by decide +kernel
theorem dX3_sail_87 : decode cX3_sail 87 = .ok (.invokestatic 32, 3) := by decide +kernel
theorem dX3_sail_90 : decode cX3_sail 90 = .ok (.iload_n 3, 1) := by decide +kernel
theorem dX3_sail_91 : decode cX3_sail 91 = .ok (.iadd, 1) := by decide +kernel
theorem dX3_sail_92 : decode cX3_sail 92 = .ok (.invokestatic 39, 3) := by decide +kernel
theorem dX3_sail_95 : decode cX3_sail 95 = .ok (.aload_n 0, 1) := by decide +kernel
theorem dX3_sail_96 : decode cX3_sail 96 = .ok (.getfield 9, 3) := by decide +kernel
theorem dX3_sail_99 : decode cX3_sail 99 = .ok (.getfield 65, 3) := by decide +kernel
theorem dX3_sail_102 : decode cX3_sail 102 = .ok (.iload_n 1, 1) := by decide +kernel
theorem dX3_sail_103 : decode cX3_sail 103 = .ok (.iload 6, 2) := by decide +kernel
end
section
theorem dX3_sail_105 : decode cX3_sail 105 = .ok (.invokestatic 39, 3) := by decide +kernel
theorem dX3_sail_108 : decode cX3_sail 108 = .ok (.iload 6, 2) := by decide +kernel
theorem dX3_sail_110 : decode cX3_sail 110 = .ok (.aload_n 0, 1) := by decide +kernel
theorem dX3_sail_111 : decode cX3_sail 111 = .ok (.getfield 9, 3) := by decide +kernel
theorem dX3_sail_114 : decode cX3_sail 114 = .ok (.getfield 56, 3) := by decide +kernel
theorem dX3_sail_117 : decode cX3_sail 117 = .ok (.iload_n 1, 1) := by decide +kernel
theorem dX3_sail_118 : decode cX3_sail 118 = .ok (.invokestatic 32, 3) := by decide +kernel
theorem dX3_sail_121 : decode cX3_sail 121 = .ok (.invokestatic 98, 3) := by decide +kernel
theorem dX3_sail_124 : decode cX3_sail 124 = .ok (.if_icmp .ne 15, 3) := by decide +kernel
theorem dX3_sail_127 : decode cX3_sail 127 = .ok (.aload_n 0, 1) := by decide +kernel
theorem dX3_sail_128 : decode cX3_sail 128 = .ok (.getfield 9, 3) := by decide +kernel
theorem dX3_sail_131 : decode cX3_sail 131 = .ok (.getfield 62, 3) := by decide +kernel
theorem dX3_sail_134 : decode cX3_sail 134 = .ok (.iload_n 1, 1) := by decide +kernel
theorem dX3_sail_135 : decode cX3_sail 135 = .ok (.iconst 1, 1) := by decide +kernel
theorem dX3_sail_136 : decode cX3_sail 136 = .ok (.invokestatic 39, 3) := by decide +kernel
theorem dX3_sail_139 : decode cX3_sail 139 = .ok (.aload_n 0, 1) := by decide +kernel
theorem dX3_sail_140 : decode cX3_sail 140 = .ok (.invokevirtual 101, 3) := by decide +kernel
theorem dX3_sail_143 : decode cX3_sail 143 = .ok (.iload 7, 2) := by decide +kernel
theorem dX3_sail_145 : decode cX3_sail 145 = .ok (.ireturn, 1) := by decide +kernel
theorem dX3_waitATurn_0 : decode cX3_waitATurn 0 = .ok (.aload_n 0, 1) := by decide +kernel
theorem dX3_waitATurn_1 : decode cX3_waitATurn 1 = .ok (.getfield 9, 3) := by decide +kernel
theorem dX3_waitATurn_4 : decode cX3_waitATurn 4 = .ok (.invokevirtual 104, 3) := by decide +kernel
theorem dX3_waitATurn_7 : decode cX3_waitATurn 7 = .ok (.ifCond .eq 6, 3) := by decide +kernel
theorem dX3_waitATurn_10 : decode cX3_waitATurn 10 = .ok (.bipush (-4), 2) := by decide +kernel
theorem dX3_waitATurn_12 : decode cX3_waitATurn 12 = .ok (.ireturn, 1) := by decide +kernel
theorem dX3_waitATurn_13 : decode cX3_waitATurn 13 = .ok (.aload_n 0, 1) := by decide +kernel
theorem dX3_waitATurn_14 : decode cX3_waitATurn 14 = .ok (.invokevirtual 101, 3) := by decide +kernel
theorem dX3_waitATurn_17 : decode cX3_waitATurn 17 = .ok (.aload_n 0, 1) := by decide +kernel
theorem dX3_waitATurn_18 : decode cX3_waitATurn 18 = .ok (.getfield 9, 3) := by decide +kernel
theorem dX3_waitATurn_21 : decode cX3_waitATurn 21 = .ok (.aload_n 0, 1) := by decide +kernel
theorem dX3_waitATurn_22 : decode cX3_waitATurn 22 = .ok (.getfield 9, 3) := by decide +kernel
theorem dX3_waitATurn_25 : decode cX3_waitATurn 25 = .ok (.getfield 22, 3) := by decide +kernel
theorem dX3_waitATurn_28 : decode cX3_waitATurn 28 = .ok (.invokevirtual 108, 3) := by decide +kernel
theorem dX3_waitATurn_31 : decode cX3_waitATurn 31 = .ok (.ireturn, 1) := by decide +kernel
theorem dX3_errorOfMove_0 : decode cX3_errorOfMove 0 = .ok (.aload_n 0, 1) := by decide +kernel
theorem dX3_errorOfMove_1 : decode cX3_errorOfMove 1 = .ok (.getfield 9, 3) := by decide +kernel
theorem dX3_errorOfMove_4 : decode cX3_errorOfMove 4 = .ok (.iload_n 1, 1) := by decide +kernel
theorem dX3_errorOfMove_5 : decode cX3_errorOfMove 5 = .ok (.invokevirtual 111, 3) := by decide +kernel
theorem dX3_errorOfMove_8 : decode cX3_errorOfMove 8 = .ok (.ifCond .ne 5, 3) := by decide +kernel
theorem dX3_errorOfMove_11 : decode cX3_errorOfMove 11 = .ok (.iconst (-1), 1) := by decide +kernel
theorem dX3_errorOfMove_12 : decode cX3_errorOfMove 12 = .ok (.ireturn, 1) := by decide +kernel
theorem dX3_errorOfMove_13 : decode cX3_errorOfMove 13 = .ok (.iload_n 2, 1) := by decide +kernel
theorem dX3_errorOfMove_14 : decode cX3_errorOfMove 14 = .ok (.ifCond .lt 18, 3) := by decide +kernel
theorem dX3_errorOfMove_17 : decode cX3_errorOfMove 17 = .ok (.iload_n 2, 1) := by decide +kernel
theorem dX3_errorOfMove_18 : decode cX3_errorOfMove 18 = .ok (.iconst 4, 1) := by decide +kernel
theorem dX3_errorOfMove_19 : decode cX3_errorOfMove 19 = .ok (.if_icmp .ge 13, 3) := by decide +kernel
theorem dX3_errorOfMove_22 : decode cX3_errorOfMove 22 = .ok (.iload_n 3, 1) := by decide +kernel
theorem dX3_errorOfMove_23 : decode cX3_errorOfMove 23 = .ok (.iconst 1, 1) := by decide +kernel
theorem dX3_errorOfMove_24 : decode cX3_errorOfMove 24 = .ok (.if_icmp .lt 8, 3) := by decide +kernel
theorem dX3_errorOfMove_27 : decode cX3_errorOfMove 27 = .ok (.iload_n 3, 1) := by decide +kernel
theorem dX3_errorOfMove_28 : decode cX3_errorOfMove 28 = .ok (.iconst 3, 1) := by decide +kernel
theorem dX3_errorOfMove_29 : decode cX3_errorOfMove 29 = .ok (.if_icmp .le 6, 3) := by decide +kernel
theorem dX3_errorOfMove_32 : decode cX3_errorOfMove 32 = .ok (.bipush (-2), 2) := by decide +kernel
theorem dX3_errorOfMove_34 : decode cX3_errorOfMove 34 = .ok (.ireturn, 1) := by decide +kernel
theorem dX3_errorOfMove_35 : decode cX3_errorOfMove 35 = .ok (.iconst 0, 1) := by decide +kernel
theorem dX3_errorOfMove_36 : decode cX3_errorOfMove 36 = .ok (.ireturn, 1) := by decide +kernel
theorem dX3_reasonAgainst_0 : decode cX3_reasonAgainst 0 = .ok (.aload_n 0, 1) := by decide +kernel
theorem dX3_reasonAgainst_1 : decode cX3_reasonAgainst 1 = .ok (.getfield 9, 3) := by decide +kernel
theorem dX3_reasonAgainst_4 : decode cX3_reasonAgainst 4 = .ok (.invokevirtual 104, 3) := by decide +kernel
theorem dX3_reasonAgainst_7 : decode cX3_reasonAgainst 7 = .ok (.ifCond .eq 5, 3) := by decide +kernel
theorem dX3_reasonAgainst_10 : decode cX3_reasonAgainst 10 = .ok (.iconst 1, 1) := by decide +kernel
theorem dX3_reasonAgainst_11 : decode cX3_reasonAgainst 11 = .ok (.ireturn, 1) := by decide +kernel
theorem dX3_reasonAgainst_12 : decode cX3_reasonAgainst 12 = .ok (.aload_n 0, 1) := by decide +kernel
theorem dX3_reasonAgainst_13 : decode cX3_reasonAgainst 13 = .ok (.getfield 9, 3) := by decide +kernel
theorem dX3_reasonAgainst_16 : decode cX3_reasonAgainst 16 = .ok (.iload_n 1, 1) := by decide +kernel
theorem dX3_reasonAgainst_17 : decode cX3_reasonAgainst 17 = .ok (.invokevirtual 114, 3) := by decide +kernel
theorem dX3_reasonAgainst_20 : decode cX3_reasonAgainst 20 = .ok (.ifCond .ne 5, 3) := by decide +kernel
theorem dX3_reasonAgainst_23 : decode cX3_reasonAgainst 23 = .ok (.iconst 2, 1) := by decide +kernel
theorem dX3_reasonAgainst_24 : decode cX3_reasonAgainst 24 = .ok (.ireturn, 1) := by decide +kernel
theorem dX3_reasonAgainst_25 : decode cX3_reasonAgainst 25 = .ok (.iload 4, 2) := by decide +kernel
theorem dX3_reasonAgainst_27 : decode cX3_reasonAgainst 27 = .ok (.ifCond .ne 26, 3) := by decide +kernel
theorem dX3_reasonAgainst_30 : decode cX3_reasonAgainst 30 = .ok (.aload_n 0, 1) := by decide +kernel
theorem dX3_reasonAgainst_31 : decode cX3_reasonAgainst 31 = .ok (.getfield 9, 3) := by decide +kernel
theorem dX3_reasonAgainst_34 : decode cX3_reasonAgainst 34 = .ok (.getfield 56, 3) := by decide +kernel
theorem dX3_reasonAgainst_37 : decode cX3_reasonAgainst 37 = .ok (.iload_n 1, 1) := by decide +kernel
theorem dX3_reasonAgainst_38 : decode cX3_reasonAgainst 38 = .ok (.invokestatic 32, 3) := by decide +kernel
theorem dX3_reasonAgainst_41 : decode cX3_reasonAgainst 41 = .ok (.aload_n 0, 1) := by decide +kernel
theorem dX3_reasonAgainst_42 : decode cX3_reasonAgainst 42 = .ok (.getfield 9, 3) := by decide +kernel
theorem dX3_reasonAgainst_45 : decode cX3_reasonAgainst 45 = .ok (.invokevirtual 117, 3) := by decide +kernel
theorem dX3_reasonAgainst_48 : decode cX3_reasonAgainst 48 = .ok (.if_icmp .eq 5, 3) := by decide +kernel
theorem dX3_reasonAgainst_51 : decode cX3_reasonAgainst 51 = .ok (.iconst 3, 1) := by decide +kernel
theorem dX3_reasonAgainst_52 : decode cX3_reasonAgainst 52 = .ok (.ireturn, 1) := by decide +kernel
theorem dX3_reasonAgainst_53 : decode cX3_reasonAgainst 53 = .ok (.aload_n 0, 1) := by decide +kernel
theorem dX3_reasonAgainst_54 : decode cX3_reasonAgainst 54 = .ok (.getfield 9, 3) := by decide +kernel
theorem dX3_reasonAgainst_57 : decode cX3_reasonAgainst 57 = .ok (.iload_n 1, 1) := by decide +kernel
theorem dX3_reasonAgainst_58 : decode cX3_reasonAgainst 58 = .ok (.invokevirtual 121, 3) := by decide +kernel
theorem dX3_reasonAgainst_61 : decode cX3_reasonAgainst 61 = .ok (.ifCond .ne 5, 3) := by decide +kernel
theorem dX3_reasonAgainst_64 : decode cX3_reasonAgainst 64 = .ok (.iconst 4, 1) := by decide +kernel
theorem dX3_reasonAgainst_65 : decode cX3_reasonAgainst 65 = .ok (.ireturn, 1) := by decide +kernel
theorem dX3_reasonAgainst_66 : decode cX3_reasonAgainst 66 = .ok (.aload_n 0, 1) := by decide +kernel
theorem dX3_reasonAgainst_67 : decode cX3_reasonAgainst 67 = .ok (.iload_n 1, 1) := by decide +kernel
theorem dX3_reasonAgainst_68 : decode cX3_reasonAgainst 68 = .ok (.iload_n 2, 1) := by decide +kernel
theorem dX3_reasonAgainst_69 : decode cX3_reasonAgainst 69 = .ok (.iload_n 3, 1) := by decide +kernel
theorem dX3_reasonAgainst_70 : decode cX3_reasonAgainst 70 = .ok (.invokevirtual 124, 3) := by decide +kernel
theorem dX3_reasonAgainst_73 : decode cX3_reasonAgainst 73 = .ok (.ifCond .ne 5, 3) := by decide +kernel
theorem dX3_reasonAgainst_76 : decode cX3_reasonAgainst 76 = .ok (.iconst 5, 1) := by decide +kernel
theorem dX3_reasonAgainst_77 : decode cX3_reasonAgainst 77 = .ok (.ireturn, 1) := by decide +kernel
theorem dX3_reasonAgainst_78 : decode cX3_reasonAgainst 78 = .ok (.aload_n 0, 1) := by decide +kernel
theorem dX3_reasonAgainst_79 : decode cX3_reasonAgainst 79 = .ok (.iload_n 1, 1) := by decide +kernel
theorem dX3_reasonAgainst_80 : decode cX3_reasonAgainst 80 = .ok (.iload_n 2, 1) := by decide +kernel
theorem dX3_reasonAgainst_81 : decode cX3_reasonAgainst 81 = .ok (.iload_n 3, 1) := by decide +kernel
theorem dX3_reasonAgainst_82 : decode cX3_reasonAgainst 82 = .ok (.invokevirtual 128, 3) := by decide +kernel
theorem dX3_reasonAgainst_85 : decode cX3_reasonAgainst 85 = .ok (.ifCond .eq 8, 3) := by decide +kernel
theorem dX3_reasonAgainst_88 : decode cX3_reasonAgainst 88 = .ok (.bipush 6, 2) := by decide +kernel
theorem dX3_reasonAgainst_90 : decode cX3_reasonAgainst 90 = .ok (.goto 4, 3) := by decide +kernel
theorem dX3_reasonAgainst_93 : decode cX3_reasonAgainst 93 = .ok (.iconst 0, 1) := by decide +kernel
theorem dX3_reasonAgainst_94 : decode cX3_reasonAgainst 94 = .ok (.ireturn, 1) := by decide +kernel
theorem dX3_movesOf_0 : decode cX3_movesOf 0 = .ok (.iconst 0, 1) := by decide +kernel
theorem dX3_movesOf_1 : decode cX3_movesOf 1 = .ok (.istore_n 2, 1) := by decide +kernel
theorem dX3_movesOf_2 : decode cX3_movesOf 2 = .ok (.iconst 0, 1) := by decide +kernel
theorem dX3_movesOf_3 : decode cX3_movesOf 3 = .ok (.istore_n 3, 1) := by decide +kernel
theorem dX3_movesOf_4 : decode cX3_movesOf 4 = .ok (.iload_n 3, 1) := by decide +kernel
theorem dX3_movesOf_5 : decode cX3_movesOf 5 = .ok (.iconst 4, 1) := by decide +kernel
theorem dX3_movesOf_6 : decode cX3_movesOf 6 = .ok (.if_icmp .ge 39, 3) := by decide +kernel
theorem dX3_movesOf_9 : decode cX3_movesOf 9 = .ok (.iconst 1, 1) := by decide +kernel
theorem dX3_movesOf_10 : decode cX3_movesOf 10 = .ok (.istore 4, 2) := by decide +kernel
theorem dX3_movesOf_12 : decode cX3_movesOf 12 = .ok (.iload 4, 2) := by decide +kernel
theorem dX3_movesOf_14 : decode cX3_movesOf 14 = .ok (.iconst 3, 1) := by decide +kernel
theorem dX3_movesOf_15 : decode cX3_movesOf 15 = .ok (.if_icmp .gt 24, 3) := by decide +kernel
theorem dX3_movesOf_18 : decode cX3_movesOf 18 = .ok (.aload_n 0, 1) := by decide +kernel
theorem dX3_movesOf_19 : decode cX3_movesOf 19 = .ok (.iload_n 1, 1) := by decide +kernel
theorem dX3_movesOf_20 : decode cX3_movesOf 20 = .ok (.iload_n 3, 1) := by decide +kernel
theorem dX3_movesOf_21 : decode cX3_movesOf 21 = .ok (.iload 4, 2) := by decide +kernel
theorem dX3_movesOf_23 : decode cX3_movesOf 23 = .ok (.iconst 1, 1) := by decide +kernel
theorem dX3_movesOf_24 : decode cX3_movesOf 24 = .ok (.invokevirtual 88, 3) := by decide +kernel
theorem dX3_movesOf_27 : decode cX3_movesOf 27 = .ok (.ifCond .ne 6, 3) := by decide +kernel
theorem dX3_movesOf_30 : decode cX3_movesOf 30 = .ok (.iinc 2 1, 3) := by decide +kernel
theorem dX3_movesOf_33 : decode cX3_movesOf 33 = .ok (.iinc 4 1, 3) := by decide +kernel
theorem dX3_movesOf_36 : decode cX3_movesOf 36 = .ok (.goto (-24), 3) := by decide +kernel
theorem dX3_movesOf_39 : decode cX3_movesOf 39 = .ok (.iinc 3 1, 3) := by decide +kernel
theorem dX3_movesOf_42 : decode cX3_movesOf 42 = .ok (.goto (-38), 3) := by decide +kernel
theorem dX3_movesOf_45 : decode cX3_movesOf 45 = .ok (.iload_n 2, 1) := by decide +kernel
theorem dX3_movesOf_46 : decode cX3_movesOf 46 = .ok (.ireturn, 1) := by decide +kernel
theorem dX3_isWayOpen_0 : decode cX3_isWayOpen 0 = .ok (.aload_n 0, 1) := by decide +kernel
theorem dX3_isWayOpen_1 : decode cX3_isWayOpen 1 = .ok (.getfield 9, 3) := by decide +kernel
theorem dX3_isWayOpen_4 : decode cX3_isWayOpen 4 = .ok (.getfield 59, 3) := by decide +kernel
theorem dX3_isWayOpen_7 : decode cX3_isWayOpen 7 = .ok (.iload_n 1, 1) := by decide +kernel
theorem dX3_isWayOpen_8 : decode cX3_isWayOpen 8 = .ok (.invokestatic 32, 3) := by decide +kernel
theorem dX3_isWayOpen_11 : decode cX3_isWayOpen 11 = .ok (.istore 4, 2) := by decide +kernel
theorem dX3_isWayOpen_13 : decode cX3_isWayOpen 13 = .ok (.aload_n 0, 1) := by decide +kernel
theorem dX3_isWayOpen_14 : decode cX3_isWayOpen 14 = .ok (.getfield 9, 3) := by decide +kernel
theorem dX3_isWayOpen_17 : decode cX3_isWayOpen 17 = .ok (.getfield 56, 3) := by decide +kernel
theorem dX3_isWayOpen_20 : decode cX3_isWayOpen 20 = .ok (.iload_n 1, 1) := by decide +kernel
theorem dX3_isWayOpen_21 : decode cX3_isWayOpen 21 = .ok (.invokestatic 32, 3) := by decide +kernel
theorem dX3_isWayOpen_24 : decode cX3_isWayOpen 24 = .ok (.invokestatic 98, 3) := by decide +kernel
theorem dX3_isWayOpen_27 : decode cX3_isWayOpen 27 = .ok (.istore 5, 2) := by decide +kernel
theorem dX3_isWayOpen_29 : decode cX3_isWayOpen 29 = .ok (.aload_n 0, 1) := by decide +kernel
theorem dX3_isWayOpen_30 : decode cX3_isWayOpen 30 = .ok (.getfield 9, 3) := by decide +kernel
theorem dX3_isWayOpen_33 : decode cX3_isWayOpen 33 = .ok (.getfield 65, 3) := by decide +kernel
theorem dX3_isWayOpen_36 : decode cX3_isWayOpen 36 = .ok (.iload_n 1, 1) := by decide +kernel
theorem dX3_isWayOpen_37 : decode cX3_isWayOpen 37 = .ok (.invokestatic 32, 3) := by decide +kernel
theorem dX3_isWayOpen_40 : decode cX3_isWayOpen 40 = .ok (.istore 6, 2) := by decide +kernel
theorem dX3_isWayOpen_42 : decode cX3_isWayOpen 42 = .ok (.iconst 1, 1) := by decide +kernel
theorem dX3_isWayOpen_43 : decode cX3_isWayOpen 43 = .ok (.istore 7, 2) := by decide +kernel
theorem dX3_isWayOpen_45 : decode cX3_isWayOpen 45 = .ok (.iload 7, 2) := by decide +kernel
theorem dX3_isWayOpen_47 : decode cX3_isWayOpen 47 = .ok (.iload_n 3, 1) := by decide +kernel
theorem dX3_isWayOpen_48 : decode cX3_isWayOpen 48 = .ok (.if_icmp .gt 93, 3) := by decide +kernel
theorem dX3_isWayOpen_51 : decode cX3_isWayOpen 51 = .ok (.iload 7, 2) := by decide +kernel
theorem dX3_isWayOpen_53 : decode cX3_isWayOpen 53 = .ok (.iconst 3, 1) := by decide +kernel
theorem dX3_isWayOpen_54 : decode cX3_isWayOpen 54 = .ok (.if_icmp .gt 87, 3) := by decide +kernel
theorem dX3_isWayOpen_57 : decode cX3_isWayOpen 57 = .ok (.iload 6, 2) := by decide +kernel
theorem dX3_isWayOpen_59 : decode cX3_isWayOpen 59 = .ok (.iload_n 2, 1) := by decide +kernel
theorem dX3_isWayOpen_60 : decode cX3_isWayOpen 60 = .ok (.invokestatic 131, 3) := by decide +kernel
theorem dX3_isWayOpen_63 : decode cX3_isWayOpen 63 = .ok (.istore 6, 2) := by decide +kernel
theorem dX3_isWayOpen_65 : decode cX3_isWayOpen 65 = .ok (.iload 6, 2) := by decide +kernel
theorem dX3_isWayOpen_67 : decode cX3_isWayOpen 67 = .ok (.iload 5, 2) := by decide +kernel
theorem dX3_isWayOpen_69 : decode cX3_isWayOpen 69 = .ok (.if_icmp .ne 17, 3) := by decide +kernel
theorem dX3_isWayOpen_72 : decode cX3_isWayOpen 72 = .ok (.iload 7, 2) := by decide +kernel
theorem dX3_isWayOpen_74 : decode cX3_isWayOpen 74 = .ok (.iload_n 3, 1) := by decide +kernel
theorem dX3_isWayOpen_75 : decode cX3_isWayOpen 75 = .ok (.if_icmp .ne 7, 3) := by decide +kernel
theorem dX3_isWayOpen_78 : decode cX3_isWayOpen 78 = .ok (.iconst 1, 1) := by decide +kernel
theorem dX3_isWayOpen_79 : decode cX3_isWayOpen 79 = .ok (.goto 20, 3) := by decide +kernel
theorem dX3_isWayOpen_82 : decode cX3_isWayOpen 82 = .ok (.iconst 0, 1) := by decide +kernel
theorem dX3_isWayOpen_83 : decode cX3_isWayOpen 83 = .ok (.goto 16, 3) := by decide +kernel
theorem dX3_isWayOpen_86 : decode cX3_isWayOpen 86 = .ok (.iload 6, 2) := by decide +kernel
theorem dX3_isWayOpen_88 : decode cX3_isWayOpen 88 = .ok (.invokestatic 19, 3) := by decide +kernel
theorem dX3_isWayOpen_91 : decode cX3_isWayOpen 91 = .ok (.ifCond .ne 7, 3) := by decide +kernel
theorem dX3_isWayOpen_94 : decode cX3_isWayOpen 94 = .ok (.iconst 1, 1) := by decide +kernel
theorem dX3_isWayOpen_95 : decode cX3_isWayOpen 95 = .ok (.goto 4, 3) := by decide +kernel
theorem dX3_isWayOpen_98 : decode cX3_isWayOpen 98 = .ok (.iconst 0, 1) := by decide +kernel
theorem dX3_isWayOpen_99 : decode cX3_isWayOpen 99 = .ok (.istore 8, 2) := by decide +kernel
theorem dX3_isWayOpen_101 : decode cX3_isWayOpen 101 = .ok (.iload 6, 2) := by decide +kernel
theorem dX3_isWayOpen_103 : decode cX3_isWayOpen 103 = .ok (.iconst (-1), 1) := by decide +kernel
theorem dX3_isWayOpen_104 : decode cX3_isWayOpen 104 = .ok (.if_icmp .eq 29, 3) := by decide +kernel
theorem dX3_isWayOpen_107 : decode cX3_isWayOpen 107 = .ok (.iload 8, 2) := by decide +kernel
theorem dX3_isWayOpen_109 : decode cX3_isWayOpen 109 = .ok (.ifCond .eq 24, 3) := by decide +kernel
theorem dX3_isWayOpen_112 : decode cX3_isWayOpen 112 = .ok (.aload_n 0, 1) := by decide +kernel
theorem dX3_isWayOpen_113 : decode cX3_isWayOpen 113 = .ok (.getfield 9, 3) := by decide +kernel
theorem dX3_isWayOpen_116 : decode cX3_isWayOpen 116 = .ok (.iload 6, 2) := by decide +kernel
theorem dX3_isWayOpen_118 : decode cX3_isWayOpen 118 = .ok (.iload 4, 2) := by decide +kernel
theorem dX3_isWayOpen_120 : decode cX3_isWayOpen 120 = .ok (.aload_n 0, 1) := by decide +kernel
theorem dX3_isWayOpen_121 : decode cX3_isWayOpen 121 = .ok (.getfield 9, 3) := by decide +kernel
theorem dX3_isWayOpen_124 : decode cX3_isWayOpen 124 = .ok (.getfield 22, 3) := by decide +kernel
theorem dX3_isWayOpen_127 : decode cX3_isWayOpen 127 = .ok (.invokevirtual 135, 3) := by decide +kernel
theorem dX3_isWayOpen_130 : decode cX3_isWayOpen 130 = .ok (.ifCond .ne 5, 3) := by decide +kernel
theorem dX3_isWayOpen_133 : decode cX3_isWayOpen 133 = .ok (.iconst 0, 1) := by decide +kernel
theorem dX3_isWayOpen_134 : decode cX3_isWayOpen 134 = .ok (.ireturn, 1) := by decide +kernel
theorem dX3_isWayOpen_135 : decode cX3_isWayOpen 135 = .ok (.iinc 7 1, 3) := by decide +kernel
theorem dX3_isWayOpen_138 : decode cX3_isWayOpen 138 = .ok (.goto (-93), 3) := by decide +kernel
theorem dX3_isWayOpen_141 : decode cX3_isWayOpen 141 = .ok (.iconst 1, 1) := by decide +kernel
theorem dX3_isWayOpen_142 : decode cX3_isWayOpen 142 = .ok (.ireturn, 1) := by decide +kernel
theorem dX3_isBoatInWay_0 : decode cX3_isBoatInWay 0 = .ok (.aload_n 0, 1) := by decide +kernel
theorem dX3_isBoatInWay_1 : decode cX3_isBoatInWay 1 = .ok (.getfield 9, 3) := by decide +kernel
theorem dX3_isBoatInWay_4 : decode cX3_isBoatInWay 4 = .ok (.getfield 65, 3) := by decide +kernel
theorem dX3_isBoatInWay_7 : decode cX3_isBoatInWay 7 = .ok (.iload_n 1, 1) := by decide +kernel
theorem dX3_isBoatInWay_8 : decode cX3_isBoatInWay 8 = .ok (.invokestatic 32, 3) := by decide +kernel
theorem dX3_isBoatInWay_11 : decode cX3_isBoatInWay 11 = .ok (.istore 4, 2) := by decide +kernel
theorem dX3_isBoatInWay_13 : decode cX3_isBoatInWay 13 = .ok (.iconst 1, 1) := by decide +kernel
theorem dX3_isBoatInWay_14 : decode cX3_isBoatInWay 14 = .ok (.istore 5, 2) := by decide +kernel
theorem dX3_isBoatInWay_16 : decode cX3_isBoatInWay 16 = .ok (.iload 5, 2) := by decide +kernel
theorem dX3_isBoatInWay_18 : decode cX3_isBoatInWay 18 = .ok (.iload_n 3, 1) := by decide +kernel
theorem dX3_isBoatInWay_19 : decode cX3_isBoatInWay 19 = .ok (.if_icmp .gt 118, 3) := by decide +kernel
theorem dX3_isBoatInWay_22 : decode cX3_isBoatInWay 22 = .ok (.iload 5, 2) := by decide +kernel
theorem dX3_isBoatInWay_24 : decode cX3_isBoatInWay 24 = .ok (.iconst 3, 1) := by decide +kernel
theorem dX3_isBoatInWay_25 : decode cX3_isBoatInWay 25 = .ok (.if_icmp .gt 112, 3) := by decide +kernel
theorem dX3_isBoatInWay_28 : decode cX3_isBoatInWay 28 = .ok (.iload 4, 2) := by decide +kernel
theorem dX3_isBoatInWay_30 : decode cX3_isBoatInWay 30 = .ok (.iload_n 2, 1) := by decide +kernel
theorem dX3_isBoatInWay_31 : decode cX3_isBoatInWay 31 = .ok (.invokestatic 131, 3) := by decide +kernel
theorem dX3_isBoatInWay_34 : decode cX3_isBoatInWay 34 = .ok (.istore 4, 2) := by decide +kernel
theorem dX3_isBoatInWay_36 : decode cX3_isBoatInWay 36 = .ok (.aload_n 0, 1) := by decide +kernel
theorem dX3_isBoatInWay_37 : decode cX3_isBoatInWay 37 = .ok (.getfield 9, 3) := by decide +kernel
theorem dX3_isBoatInWay_40 : decode cX3_isBoatInWay 40 = .ok (.iload 4, 2) := by decide +kernel
theorem dX3_isBoatInWay_42 : decode cX3_isBoatInWay 42 = .ok (.invokevirtual 49, 3) := by decide +kernel
theorem dX3_isBoatInWay_45 : decode cX3_isBoatInWay 45 = .ok (.istore 6, 2) := by decide +kernel
theorem dX3_isBoatInWay_47 : decode cX3_isBoatInWay 47 = .ok (.iload 5, 2) := by decide +kernel
theorem dX3_isBoatInWay_49 : decode cX3_isBoatInWay 49 = .ok (.iload_n 3, 1) := by decide +kernel
theorem dX3_isBoatInWay_50 : decode cX3_isBoatInWay 50 = .ok (.if_icmp .ne 64, 3) := by decide +kernel
theorem dX3_isBoatInWay_53 : decode cX3_isBoatInWay 53 = .ok (.aload_n 0, 1) := by decide +kernel
theorem dX3_isBoatInWay_54 : decode cX3_isBoatInWay 54 = .ok (.getfield 9, 3) := by decide +kernel
theorem dX3_isBoatInWay_57 : decode cX3_isBoatInWay 57 = .ok (.getfield 56, 3) := by decide +kernel
theorem dX3_isBoatInWay_60 : decode cX3_isBoatInWay 60 = .ok (.iload 6, 2) := by decide +kernel
theorem dX3_isBoatInWay_62 : decode cX3_isBoatInWay 62 = .ok (.invokestatic 32, 3) := by decide +kernel
theorem dX3_isBoatInWay_65 : decode cX3_isBoatInWay 65 = .ok (.aload_n 0, 1) := by decide +kernel
theorem dX3_isBoatInWay_66 : decode cX3_isBoatInWay 66 = .ok (.getfield 9, 3) := by decide +kernel
theorem dX3_isBoatInWay_69 : decode cX3_isBoatInWay 69 = .ok (.getfield 56, 3) := by decide +kernel
theorem dX3_isBoatInWay_72 : decode cX3_isBoatInWay 72 = .ok (.iload_n 1, 1) := by decide +kernel
theorem dX3_isBoatInWay_73 : decode cX3_isBoatInWay 73 = .ok (.invokestatic 32, 3) := by decide +kernel
theorem dX3_isBoatInWay_76 : decode cX3_isBoatInWay 76 = .ok (.if_icmp .eq 38, 3) := by decide +kernel
theorem dX3_isBoatInWay_79 : decode cX3_isBoatInWay 79 = .ok (.aload_n 0, 1) := by decide +kernel
theorem dX3_isBoatInWay_80 : decode cX3_isBoatInWay 80 = .ok (.getfield 9, 3) := by decide +kernel
theorem dX3_isBoatInWay_83 : decode cX3_isBoatInWay 83 = .ok (.iload 4, 2) := by decide +kernel
theorem dX3_isBoatInWay_85 : decode cX3_isBoatInWay 85 = .ok (.aload_n 0, 1) := by decide +kernel
theorem dX3_isBoatInWay_86 : decode cX3_isBoatInWay 86 = .ok (.getfield 9, 3) := by decide +kernel
theorem dX3_isBoatInWay_89 : decode cX3_isBoatInWay 89 = .ok (.getfield 59, 3) := by decide +kernel
theorem dX3_isBoatInWay_92 : decode cX3_isBoatInWay 92 = .ok (.iload 6, 2) := by decide +kernel
theorem dX3_isBoatInWay_94 : decode cX3_isBoatInWay 94 = .ok (.invokestatic 32, 3) := by decide +kernel
theorem dX3_isBoatInWay_97 : decode cX3_isBoatInWay 97 = .ok (.aload_n 0, 1) := by decide +kernel
theorem dX3_isBoatInWay_98 : decode cX3_isBoatInWay 98 = .ok (.getfield 9, 3) := by decide +kernel
theorem dX3_isBoatInWay_101 : decode cX3_isBoatInWay 101 = .ok (.getfield 22, 3) := by decide +kernel
theorem dX3_isBoatInWay_104 : decode cX3_isBoatInWay 104 = .ok (.invokevirtual 135, 3) := by decide +kernel
theorem dX3_isBoatInWay_107 : decode cX3_isBoatInWay 107 = .ok (.ifCond .ne 7, 3) := by decide +kernel
theorem dX3_isBoatInWay_110 : decode cX3_isBoatInWay 110 = .ok (.iconst 1, 1) := by decide +kernel
theorem dX3_isBoatInWay_111 : decode cX3_isBoatInWay 111 = .ok (.goto 4, 3) := by decide +kernel
theorem dX3_isBoatInWay_114 : decode cX3_isBoatInWay 114 = .ok (.iconst 0, 1) := by decide +kernel
theorem dX3_isBoatInWay_115 : decode cX3_isBoatInWay 115 = .ok (.istore 7, 2) := by decide +kernel
theorem dX3_isBoatInWay_117 : decode cX3_isBoatInWay 117 = .ok (.iload 6, 2) := by decide +kernel
theorem dX3_isBoatInWay_119 : decode cX3_isBoatInWay 119 = .ok (.bipush (-5), 2) := by decide +kernel
theorem dX3_isBoatInWay_121 : decode cX3_isBoatInWay 121 = .ok (.if_icmp .eq 10, 3) := by decide +kernel
theorem dX3_isBoatInWay_124 : decode cX3_isBoatInWay 124 = .ok (.iload 7, 2) := by decide +kernel
theorem dX3_isBoatInWay_126 : decode cX3_isBoatInWay 126 = .ok (.ifCond .ne 5, 3) := by decide +kernel
theorem dX3_isBoatInWay_129 : decode cX3_isBoatInWay 129 = .ok (.iconst 1, 1) := by decide +kernel
theorem dX3_isBoatInWay_130 : decode cX3_isBoatInWay 130 = .ok (.ireturn, 1) := by decide +kernel
theorem dX3_isBoatInWay_131 : decode cX3_isBoatInWay 131 = .ok (.iinc 5 1, 3) := by decide +kernel
theorem dX3_isBoatInWay_134 : decode cX3_isBoatInWay 134 = .ok (.goto (-118), 3) := by decide +kernel
theorem dX3_isBoatInWay_137 : decode cX3_isBoatInWay 137 = .ok (.iconst 0, 1) := by decide +kernel
theorem dX3_isBoatInWay_138 : decode cX3_isBoatInWay 138 = .ok (.ireturn, 1) := by decide +kernel
theorem dX3_ram_0 : decode cX3_ram 0 = .ok (.iload_n 1, 1) := by decide +kernel
theorem dX3_ram_1 : decode cX3_ram 1 = .ok (.bipush (-5), 2) := by decide +kernel
theorem dX3_ram_3 : decode cX3_ram 3 = .ok (.if_icmp .ne 5, 3) := by decide +kernel
theorem dX3_ram_6 : decode cX3_ram 6 = .ok (.iconst 0, 1) := by decide +kernel
theorem dX3_ram_7 : decode cX3_ram 7 = .ok (.ireturn, 1) := by decide +kernel
theorem dX3_ram_8 : decode cX3_ram 8 = .ok (.aload_n 0, 1) := by decide +kernel
theorem dX3_ram_9 : decode cX3_ram 9 = .ok (.getfield 9, 3) := by decide +kernel
theorem dX3_ram_12 : decode cX3_ram 12 = .ok (.getfield 62, 3) := by decide +kernel
theorem dX3_ram_15 : decode cX3_ram 15 = .ok (.iload_n 1, 1) := by decide +kernel
theorem dX3_ram_16 : decode cX3_ram 16 = .ok (.iconst 2, 1) := by decide +kernel
theorem dX3_ram_17 : decode cX3_ram 17 = .ok (.invokestatic 39, 3) := by decide +kernel
theorem dX3_ram_20 : decode cX3_ram 20 = .ok (.aload_n 0, 1) := by decide +kernel
theorem dX3_ram_21 : decode cX3_ram 21 = .ok (.getfield 9, 3) := by decide +kernel
theorem dX3_ram_24 : decode cX3_ram 24 = .ok (.dup, 1) := by decide +kernel
theorem dX3_ram_25 : decode cX3_ram 25 = .ok (.getfield 138, 3) := by decide +kernel
theorem dX3_ram_28 : decode cX3_ram 28 = .ok (.iconst 1, 1) := by decide +kernel
theorem dX3_ram_29 : decode cX3_ram 29 = .ok (.iadd, 1) := by decide +kernel
theorem dX3_ram_30 : decode cX3_ram 30 = .ok (.putfield 138, 3) := by decide +kernel
theorem dX3_ram_33 : decode cX3_ram 33 = .ok (.aload_n 0, 1) := by decide +kernel
theorem dX3_ram_34 : decode cX3_ram 34 = .ok (.getfield 9, 3) := by decide +kernel
theorem dX3_ram_37 : decode cX3_ram 37 = .ok (.getfield 59, 3) := by decide +kernel
theorem dX3_ram_40 : decode cX3_ram 40 = .ok (.iload_n 1, 1) := by decide +kernel
theorem dX3_ram_41 : decode cX3_ram 41 = .ok (.invokestatic 32, 3) := by decide +kernel
theorem dX3_ram_44 : decode cX3_ram 44 = .ok (.ireturn, 1) := by decide +kernel
theorem dX3_endTurn_0 : decode cX3_endTurn 0 = .ok (.iconst 0, 1) := by decide +kernel
theorem dX3_endTurn_1 : decode cX3_endTurn 1 = .ok (.istore_n 1, 1) := by decide +kernel
theorem dX3_endTurn_2 : decode cX3_endTurn 2 = .ok (.iload_n 1, 1) := by decide +kernel
theorem dX3_endTurn_3 : decode cX3_endTurn 3 = .ok (.aload_n 0, 1) := by decide +kernel
theorem dX3_endTurn_4 : decode cX3_endTurn 4 = .ok (.getfield 9, 3) := by decide +kernel
theorem dX3_endTurn_7 : decode cX3_endTurn 7 = .ok (.getfield 53, 3) := by decide +kernel
theorem dX3_endTurn_10 : decode cX3_endTurn 10 = .ok (.if_icmp .ge 32, 3) := by decide +kernel
theorem dX3_endTurn_13 : decode cX3_endTurn 13 = .ok (.aload_n 0, 1) := by decide +kernel
theorem dX3_endTurn_14 : decode cX3_endTurn 14 = .ok (.getfield 9, 3) := by decide +kernel
theorem dX3_endTurn_17 : decode cX3_endTurn 17 = .ok (.iload_n 1, 1) := by decide +kernel
theorem dX3_endTurn_18 : decode cX3_endTurn 18 = .ok (.invokevirtual 141, 3) := by decide +kernel
theorem dX3_endTurn_21 : decode cX3_endTurn 21 = .ok (.ifCond .eq 15, 3) := by decide +kernel
theorem dX3_endTurn_24 : decode cX3_endTurn 24 = .ok (.aload_n 0, 1) := by decide +kernel
theorem dX3_endTurn_25 : decode cX3_endTurn 25 = .ok (.getfield 9, 3) := by decide +kernel
theorem dX3_endTurn_28 : decode cX3_endTurn 28 = .ok (.getfield 62, 3) := by decide +kernel
theorem dX3_endTurn_31 : decode cX3_endTurn 31 = .ok (.iload_n 1, 1) := by decide +kernel
theorem dX3_endTurn_32 : decode cX3_endTurn 32 = .ok (.iconst 2, 1) := by decide +kernel
theorem dX3_endTurn_33 : decode cX3_endTurn 33 = .ok (.invokestatic 39, 3) := by decide +kernel
theorem dX3_endTurn_36 : decode cX3_endTurn 36 = .ok (.iinc 1 1, 3) := by decide +kernel
theorem dX3_endTurn_39 : decode cX3_endTurn 39 = .ok (.goto (-37), 3) := by decide +kernel
theorem dX3_endTurn_42 : decode cX3_endTurn 42 = .ok (.aload_n 0, 1) := by decide +kernel
theorem dX3_endTurn_43 : decode cX3_endTurn 43 = .ok (.getfield 9, 3) := by decide +kernel
theorem dX3_endTurn_46 : decode cX3_endTurn 46 = .ok (.dup, 1) := by decide +kernel
theorem dX3_endTurn_47 : decode cX3_endTurn 47 = .ok (.getfield 22, 3) := by decide +kernel
theorem dX3_endTurn_50 : decode cX3_endTurn 50 = .ok (.iconst 1, 1) := by decide +kernel
theorem dX3_endTurn_51 : decode cX3_endTurn 51 = .ok (.iadd, 1) := by decide +kernel
theorem dX3_endTurn_52 : decode cX3_endTurn 52 = .ok (.putfield 22, 3) := by decide +kernel
theorem dX3_endTurn_55 : decode cX3_endTurn 55 = .ok (.return_, 1) := by decide +kernel
theorem dX4_init_0 : decode cX4_init 0 = .ok (.aload_n 0, 1) := by decide +kernel
theorem dX4_init_1 : decode cX4_init 1 = .ok (.invokespecial 3, 3) := by decide +kernel
theorem dX4_init_4 : decode cX4_init 4 = .ok (.aload_n 0, 1) := by decide +kernel
theorem dX4_init_5 : decode cX4_init 5 = .ok (.bipush 36, 2) := by decide +kernel
theorem dX4_init_7 : decode cX4_init 7 = .ok (.newarray .int, 2) := by decide +kernel
theorem dX4_init_9 : decode cX4_init 9 = .ok (.putfield 9, 3) := by decide +kernel
theorem dX4_init_12 : decode cX4_init 12 = .ok (.aload_n 0, 1) := by decide +kernel
theorem dX4_init_13 : decode cX4_init 13 = .ok (.bipush 36, 2) := by decide +kernel
theorem dX4_init_15 : decode cX4_init 15 = .ok (.newarray .int, 2) := by decide +kernel
theorem dX4_init_17 : decode cX4_init 17 = .ok (.putfield 15, 3) := by decide +kernel
theorem dX4_init_20 : decode cX4_init 20 = .ok (.aload_n 0, 1) := by decide +kernel
theorem dX4_init_21 : decode cX4_init 21 = .ok (.bipush 10, 2) := by decide +kernel
theorem dX4_init_23 : decode cX4_init 23 = .ok (.newarray .int, 2) := by decide +kernel
theorem dX4_init_25 : decode cX4_init 25 = .ok (.putfield 18, 3) := by decide +kernel
theorem dX4_init_28 : decode cX4_init 28 = .ok (.aload_n 0, 1) := by decide +kernel
theorem dX4_init_29 : decode cX4_init 29 = .ok (.bipush 10, 2) := by decide +kernel
theorem dX4_init_31 : decode cX4_init 31 = .ok (.newarray .int, 2) := by decide +kernel
theorem dX4_init_33 : decode cX4_init 33 = .ok (.putfield 21, 3) := by decide +kernel
theorem dX4_init_36 : decode cX4_init 36 = .ok (.aload_n 0, 1) := by decide +kernel
theorem dX4_init_37 : decode cX4_init 37 = .ok (.bipush 10, 2) := by decide +kernel
theorem dX4_init_39 : decode cX4_init 39 = .ok (.newarray .int, 2) := by decide +kernel
theorem dX4_init_41 : decode cX4_init 41 = .ok (.putfield 24, 3) := by decide +kernel
theorem dX4_init_44 : decode cX4_init 44 = .ok (.aload_n 0, 1) := by decide +kernel
theorem dX4_init_45 : decode cX4_init 45 = .ok (.bipush 10, 2) := by decide +kernel
theorem dX4_init_47 : decode cX4_init 47 = .ok (.newarray .int, 2) := by decide +kernel
theorem dX4_init_49 : decode cX4_init 49 = .ok (.putfield 27, 3) := by decide +kernel
theorem dX4_init_52 : decode cX4_init 52 = .ok (.aload_n 0, 1) := by decide +kernel
theorem dX4_init_53 : decode cX4_init 53 = .ok (.bipush 10, 2) := by decide +kernel
theorem dX4_init_55 : decode cX4_init 55 = .ok (.newarray .int, 2) := by decide +kernel
theorem dX4_init_57 : decode cX4_init 57 = .ok (.putfield 30, 3) := by decide +kernel
theorem dX4_init_60 : decode cX4_init 60 = .ok (.aload_n 0, 1) := by decide +kernel
theorem dX4_init_61 : decode cX4_init 61 = .ok (.iconst 1, 1) := by decide +kernel
theorem dX4_init_62 : decode cX4_init 62 = .ok (.putfield 33, 3) := by decide +kernel
theorem dX4_init_65 : decode cX4_init 65 = .ok (.aload_n 0, 1) := by decide +kernel
theorem dX4_init_66 : decode cX4_init 66 = .ok (.iconst 3, 1) := by decide +kernel
theorem dX4_init_67 : decode cX4_init 67 = .ok (.putfield 37, 3) := by decide +kernel
theorem dX4_init_70 : decode cX4_init 70 = .ok (.aload_n 0, 1) := by decide +kernel
theorem dX4_init_71 : decode cX4_init 71 = .ok (.iconst 1, 1) := by decide +kernel
theorem dX4_init_72 : decode cX4_init 72 = .ok (.putfield 40, 3) := by decide +kernel
theorem dX4_init_75 : decode cX4_init 75 = .ok (.aload_n 0, 1) := by decide +kernel
theorem dX4_init_76 : decode cX4_init 76 = .ok (.bipush 60, 2) := by decide +kernel
theorem dX4_init_78 : decode cX4_init 78 = .ok (.putfield 43, 3) := by decide +kernel
theorem dX4_init_81 : decode cX4_init 81 = .ok (.iconst 0, 1) := by decide +kernel
theorem dX4_init_82 : decode cX4_init 82 = .ok (.istore_n 1, 1) := by decide +kernel
theorem dX4_init_83 : decode cX4_init 83 = .ok (.iload_n 1, 1) := by decide +kernel
theorem dX4_init_84 : decode cX4_init 84 = .ok (.bipush 36, 2) := by decide +kernel
theorem dX4_init_86 : decode cX4_init 86 = .ok (.if_icmp .ge 29, 3) := by decide +kernel
theorem dX4_init_89 : decode cX4_init 89 = .ok (.aload_n 0, 1) := by decide +kernel
theorem dX4_init_90 : decode cX4_init 90 = .ok (.getfield 9, 3) := by decide +kernel
theorem dX4_init_93 : decode cX4_init 93 = .ok (.iload_n 1, 1) := by decide +kernel
theorem dX4_init_94 : decode cX4_init 94 = .ok (.iload_n 1, 1) := by decide +kernel
theorem dX4_init_95 : decode cX4_init 95 = .ok (.invokestatic 46, 3) := by decide +kernel
theorem dX4_init_98 : decode cX4_init 98 = .ok (.ifCond .eq 7, 3) := by decide +kernel
theorem dX4_init_101 : decode cX4_init 101 = .ok (.iconst 0, 1) := by decide +kernel
theorem dX4_init_102 : decode cX4_init 102 = .ok (.goto 4, 3) := by decide +kernel
theorem dX4_init_105 : decode cX4_init 105 = .ok (.iconst 1, 1) := by decide +kernel
theorem dX4_init_106 : decode cX4_init 106 = .ok (.invokestatic 50, 3) := by decide +kernel
theorem dX4_init_109 : decode cX4_init 109 = .ok (.iinc 1 1, 3) := by decide +kernel
theorem dX4_init_112 : decode cX4_init 112 = .ok (.goto (-29), 3) := by decide +kernel
theorem dX4_init_115 : decode cX4_init 115 = .ok (.return_, 1) := by decide +kernel
theorem dX4_copyFrom_0 : decode cX4_copyFrom 0 = .ok (.aload_n 1, 1) := by decide +kernel
theorem dX4_copyFrom_1 : decode cX4_copyFrom 1 = .ok (.getfield 9, 3) := by decide +kernel
theorem dX4_copyFrom_4 : decode cX4_copyFrom 4 = .ok (.aload_n 0, 1) := by decide +kernel
theorem dX4_copyFrom_5 : decode cX4_copyFrom 5 = .ok (.getfield 9, 3) := by decide +kernel
theorem dX4_copyFrom_8 : decode cX4_copyFrom 8 = .ok (.invokestatic 54, 3) := by decide +kernel
theorem dX4_copyFrom_11 : decode cX4_copyFrom 11 = .ok (.aload_n 1, 1) := by decide +kernel
theorem dX4_copyFrom_12 : decode cX4_copyFrom 12 = .ok (.getfield 15, 3) := by decide +kernel
theorem dX4_copyFrom_15 : decode cX4_copyFrom 15 = .ok (.aload_n 0, 1) := by decide +kernel
theorem dX4_copyFrom_16 : decode cX4_copyFrom 16 = .ok (.getfield 15, 3) := by decide +kernel
theorem dX4_copyFrom_19 : decode cX4_copyFrom 19 = .ok (.invokestatic 54, 3) := by decide +kernel
theorem dX4_copyFrom_22 : decode cX4_copyFrom 22 = .ok (.aload_n 1, 1) := by decide +kernel
theorem dX4_copyFrom_23 : decode cX4_copyFrom 23 = .ok (.getfield 18, 3) := by decide +kernel
theorem dX4_copyFrom_26 : decode cX4_copyFrom 26 = .ok (.aload_n 0, 1) := by decide +kernel
theorem dX4_copyFrom_27 : decode cX4_copyFrom 27 = .ok (.getfield 18, 3) := by decide +kernel
theorem dX4_copyFrom_30 : decode cX4_copyFrom 30 = .ok (.invokestatic 54, 3) := by decide +kernel
theorem dX4_copyFrom_33 : decode cX4_copyFrom 33 = .ok (.aload_n 1, 1) := by decide +kernel
theorem dX4_copyFrom_34 : decode cX4_copyFrom 34 = .ok (.getfield 21, 3) := by decide +kernel
theorem dX4_copyFrom_37 : decode cX4_copyFrom 37 = .ok (.aload_n 0, 1) := by decide +kernel
theorem dX4_copyFrom_38 : decode cX4_copyFrom 38 = .ok (.getfield 21, 3) := by decide +kernel
theorem dX4_copyFrom_41 : decode cX4_copyFrom 41 = .ok (.invokestatic 54, 3) := by decide +kernel
theorem dX4_copyFrom_44 : decode cX4_copyFrom 44 = .ok (.aload_n 1, 1) := by decide +kernel
theorem dX4_copyFrom_45 : decode cX4_copyFrom 45 = .ok (.getfield 24, 3) := by decide +kernel
theorem dX4_copyFrom_48 : decode cX4_copyFrom 48 = .ok (.aload_n 0, 1) := by decide +kernel
theorem dX4_copyFrom_49 : decode cX4_copyFrom 49 = .ok (.getfield 24, 3) := by decide +kernel
theorem dX4_copyFrom_52 : decode cX4_copyFrom 52 = .ok (.invokestatic 54, 3) := by decide +kernel
theorem dX4_copyFrom_55 : decode cX4_copyFrom 55 = .ok (.aload_n 1, 1) := by decide +kernel
theorem dX4_copyFrom_56 : decode cX4_copyFrom 56 = .ok (.getfield 27, 3) := by decide +kernel
theorem dX4_copyFrom_59 : decode cX4_copyFrom 59 = .ok (.aload_n 0, 1) := by decide +kernel
theorem dX4_copyFrom_60 : decode cX4_copyFrom 60 = .ok (.getfield 27, 3) := by decide +kernel
theorem dX4_copyFrom_63 : decode cX4_copyFrom 63 = .ok (.invokestatic 54, 3) := by decide +kernel
theorem dX4_copyFrom_66 : decode cX4_copyFrom 66 = .ok (.aload_n 1, 1) := by decide +kernel
theorem dX4_copyFrom_67 : decode cX4_copyFrom 67 = .ok (.getfield 30, 3) := by decide +kernel
theorem dX4_copyFrom_70 : decode cX4_copyFrom 70 = .ok (.aload_n 0, 1) := by decide +kernel
theorem dX4_copyFrom_71 : decode cX4_copyFrom 71 = .ok (.getfield 30, 3) := by decide +kernel
theorem dX4_copyFrom_74 : decode cX4_copyFrom 74 = .ok (.invokestatic 54, 3) := by decide +kernel
theorem dX4_copyFrom_77 : decode cX4_copyFrom 77 = .ok (.aload_n 0, 1) := by decide +kernel
theorem dX4_copyFrom_78 : decode cX4_copyFrom 78 = .ok (.aload_n 1, 1) := by decide +kernel
theorem dX4_copyFrom_79 : decode cX4_copyFrom 79 = .ok (.getfield 58, 3) := by decide +kernel
theorem dX4_copyFrom_82 : decode cX4_copyFrom 82 = .ok (.putfield 58, 3) := by decide +kernel
theorem dX4_copyFrom_85 : decode cX4_copyFrom 85 = .ok (.aload_n 0, 1) := by decide +kernel
theorem dX4_copyFrom_86 : decode cX4_copyFrom 86 = .ok (.aload_n 1, 1) := by decide +kernel
theorem dX4_copyFrom_87 : decode cX4_copyFrom 87 = .ok (.getfield 61, 3) := by decide +kernel
theorem dX4_copyFrom_90 : decode cX4_copyFrom 90 = .ok (.putfield 61, 3) := by decide +kernel
theorem dX4_copyFrom_93 : decode cX4_copyFrom 93 = .ok (.aload_n 0, 1) := by decide +kernel
theorem dX4_copyFrom_94 : decode cX4_copyFrom 94 = .ok (.aload_n 1, 1) := by decide +kernel
theorem dX4_copyFrom_95 : decode cX4_copyFrom 95 = .ok (.getfield 64, 3) := by decide +kernel
theorem dX4_copyFrom_98 : decode cX4_copyFrom 98 = .ok (.putfield 64, 3) := by decide +kernel
theorem dX4_copyFrom_101 : decode cX4_copyFrom 101 = .ok (.aload_n 0, 1) := by decide +kernel
theorem dX4_copyFrom_102 : decode cX4_copyFrom 102 = .ok (.aload_n 1, 1) := by decide +kernel
theorem dX4_copyFrom_103 : decode cX4_copyFrom 103 = .ok (.getfield 33, 3) := by decide +kernel
theorem dX4_copyFrom_106 : decode cX4_copyFrom 106 = .ok (.putfield 33, 3) := by decide +kernel
theorem dX4_copyFrom_109 : decode cX4_copyFrom 109 = .ok (.aload_n 0, 1) := by decide +kernel
theorem dX4_copyFrom_110 : decode cX4_copyFrom 110 = .ok (.aload_n 1, 1) := by decide +kernel
theorem dX4_copyFrom_111 : decode cX4_copyFrom 111 = .ok (.getfield 37, 3) := by decide +kernel
theorem dX4_copyFrom_114 : decode cX4_copyFrom 114 = .ok (.putfield 37, 3) := by decide +kernel
theorem dX4_copyFrom_117 : decode cX4_copyFrom 117 = .ok (.aload_n 0, 1) := by decide +kernel
theorem dX4_copyFrom_118 : decode cX4_copyFrom 118 = .ok (.aload_n 1, 1) := by decide +kernel
theorem dX4_copyFrom_119 : decode cX4_copyFrom 119 = .ok (.getfield 40, 3) := by decide +kernel
theorem dX4_copyFrom_122 : decode cX4_copyFrom 122 = .ok (.putfield 40, 3) := by decide +kernel
theorem dX4_copyFrom_125 : decode cX4_copyFrom 125 = .ok (.aload_n 0, 1) := by decide +kernel
theorem dX4_copyFrom_126 : decode cX4_copyFrom 126 = .ok (.aload_n 1, 1) := by decide +kernel
theorem dX4_copyFrom_127 : decode cX4_copyFrom 127 = .ok (.getfield 43, 3) := by decide +kernel
theorem dX4_copyFrom_130 : decode cX4_copyFrom 130 = .ok (.putfield 43, 3) := by decide +kernel
theorem dX4_copyFrom_133 : decode cX4_copyFrom 133 = .ok (.return_, 1) := by decide +kernel
theorem dX4_settingOf_0 : decode cX4_settingOf 0 = .ok (.iload_n 1, 1) := by decide +kernel
theorem dX4_settingOf_1 : decode cX4_settingOf 1 = .ok (.tableswitch 42 0 2 #[27, 32, 37], 27) := by decide +kernel
theorem dX4_settingOf_28 : decode cX4_settingOf 28 = .ok (.aload_n 0, 1) := by decide +kernel
theorem dX4_settingOf_29 : decode cX4_settingOf 29 = .ok (.getfield 33, 3) := by decide +kernel
theorem dX4_settingOf_32 : decode cX4_settingOf 32 = .ok (.ireturn, 1) := by decide +kernel
theorem dX4_settingOf_33 : decode cX4_settingOf 33 = .ok (.aload_n 0, 1) := by decide +kernel
theorem dX4_settingOf_34 : decode cX4_settingOf 34 = .ok (.getfield 37, 3) := by decide +kernel
theorem dX4_settingOf_37 : decode cX4_settingOf 37 = .ok (.ireturn, 1) := by decide +kernel
theorem dX4_settingOf_38 : decode cX4_settingOf 38 = .ok (.aload_n 0, 1) := by decide +kernel
theorem dX4_settingOf_39 : decode cX4_settingOf 39 = .ok (.getfield 40, 3) := by decide +kernel
theorem dX4_settingOf_42 : decode cX4_settingOf 42 = .ok (.ireturn, 1) := by decide +kernel
theorem dX4_settingOf_43 : decode cX4_settingOf 43 = .ok (.aload_n 0, 1) := by decide +kernel
theorem dX4_settingOf_44 : decode cX4_settingOf 44 = .ok (.getfield 43, 3) := by decide +kernel
theorem dX4_settingOf_47 : decode cX4_settingOf 47 = .ok (.ireturn, 1) := by decide +kernel
theorem dX4_changeSetting_0 : decode cX4_changeSetting 0 = .ok (.iload_n 1, 1) := by decide +kernel
theorem dX4_changeSetting_1 : decode cX4_changeSetting 1 = .ok (.tableswitch 51 0 2 #[27, 35, 43], 27) := by decide +kernel
theorem dX4_changeSetting_28 : decode cX4_changeSetting 28 = .ok (.aload_n 0, 1) := by decide +kernel
theorem dX4_changeSetting_29 : decode cX4_changeSetting 29 = .ok (.iload_n 2, 1) := by decide +kernel
theorem dX4_changeSetting_30 : decode cX4_changeSetting 30 = .ok (.putfield 33, 3) := by decide +kernel
theorem dX4_changeSetting_33 : decode cX4_changeSetting 33 = .ok (.goto 24, 3) := by decide +kernel
theorem dX4_changeSetting_36 : decode cX4_changeSetting 36 = .ok (.aload_n 0, 1) := by decide +kernel
theorem dX4_changeSetting_37 : decode cX4_changeSetting 37 = .ok (.iload_n 2, 1) := by decide +kernel
theorem dX4_changeSetting_38 : decode cX4_changeSetting 38 = .ok (.putfield 37, 3) := by decide +kernel
theorem dX4_changeSetting_41 : decode cX4_changeSetting 41 = .ok (.goto 16, 3) := by decide +kernel
theorem dX4_changeSetting_44 : decode cX4_changeSetting 44 = .ok (.aload_n 0, 1) := by decide +kernel
theorem dX4_changeSetting_45 : decode cX4_changeSetting 45 = .ok (.iload_n 2, 1) := by decide +kernel
theorem dX4_changeSetting_46 : decode cX4_changeSetting 46 = .ok (.putfield 40, 3) := by decide +kernel
theorem dX4_changeSetting_49 : decode cX4_changeSetting 49 = .ok (.goto 8, 3) := by decide +kernel
theorem dX4_changeSetting_52 : decode cX4_changeSetting 52 = .ok (.aload_n 0, 1) := by decide +kernel
theorem dX4_changeSetting_53 : decode cX4_changeSetting 53 = .ok (.iload_n 2, 1) := by decide +kernel
theorem dX4_changeSetting_54 : decode cX4_changeSetting 54 = .ok (.putfield 43, 3) := by decide +kernel
theorem dX4_changeSetting_57 : decode cX4_changeSetting 57 = .ok (.return_, 1) := by decide +kernel
theorem dX4_turnsOfTide_0 : decode cX4_turnsOfTide 0 = .ok (.iconst 2, 1) := by decide +kernel
theorem dX4_turnsOfTide_1 : decode cX4_turnsOfTide 1 = .ok (.aload_n 0, 1) := by decide +kernel
theorem dX4_turnsOfTide_2 : decode cX4_turnsOfTide 2 = .ok (.getfield 37, 3) := by decide +kernel
theorem dX4_turnsOfTide_5 : decode cX4_turnsOfTide 5 = .ok (.imul, 1) := by decide +kernel
theorem dX4_turnsOfTide_6 : decode cX4_turnsOfTide 6 = .ok (.aload_n 0, 1) := by decide +kernel
theorem dX4_turnsOfTide_7 : decode cX4_turnsOfTide 7 = .ok (.getfield 40, 3) := by decide +kernel
theorem dX4_turnsOfTide_10 : decode cX4_turnsOfTide 10 = .ok (.imul, 1) := by decide +kernel
theorem dX4_turnsOfTide_11 : decode cX4_turnsOfTide 11 = .ok (.ireturn, 1) := by decide +kernel
theorem dX4_tideIn_0 : decode cX4_tideIn 0 = .ok (.iconst 2, 1) := by decide +kernel
theorem dX4_tideIn_1 : decode cX4_tideIn 1 = .ok (.aload_n 0, 1) := by decide +kernel
theorem dX4_tideIn_2 : decode cX4_tideIn 2 = .ok (.getfield 37, 3) := by decide +kernel
theorem dX4_tideIn_5 : decode cX4_tideIn 5 = .ok (.imul, 1) := by decide +kernel
theorem dX4_tideIn_6 : decode cX4_tideIn 6 = .ok (.istore_n 2, 1) := by decide +kernel
theorem dX4_tideIn_7 : decode cX4_tideIn 7 = .ok (.aload_n 0, 1) := by decide +kernel
theorem dX4_tideIn_8 : decode cX4_tideIn 8 = .ok (.getfield 40, 3) := by decide +kernel
theorem dX4_tideIn_11 : decode cX4_tideIn 11 = .ok (.iconst 1, 1) := by decide +kernel
theorem dX4_tideIn_12 : decode cX4_tideIn 12 = .ok (.if_icmp .lt 8, 3) := by decide +kernel
theorem dX4_tideIn_15 : decode cX4_tideIn 15 = .ok (.iload_n 2, 1) := by decide +kernel
theorem dX4_tideIn_16 : decode cX4_tideIn 16 = .ok (.iconst 1, 1) := by decide +kernel
theorem dX4_tideIn_17 : decode cX4_tideIn 17 = .ok (.if_icmp .ge 8, 3) := by decide +kernel
theorem dX4_tideIn_20 : decode cX4_tideIn 20 = .ok (.aload_n 0, 1) := by decide +kernel
theorem dX4_tideIn_21 : decode cX4_tideIn 21 = .ok (.getfield 33, 3) := by decide +kernel
theorem dX4_tideIn_24 : decode cX4_tideIn 24 = .ok (.ireturn, 1) := by decide +kernel
theorem dX4_tideIn_25 : decode cX4_tideIn 25 = .ok (.iload_n 1, 1) := by decide +kernel
theorem dX4_tideIn_26 : decode cX4_tideIn 26 = .ok (.aload_n 0, 1) := by decide +kernel
theorem dX4_tideIn_27 : decode cX4_tideIn 27 = .ok (.getfield 40, 3) := by decide +kernel
theorem dX4_tideIn_30 : decode cX4_tideIn 30 = .ok (.idiv, 1) := by decide +kernel
theorem dX4_tideIn_31 : decode cX4_tideIn 31 = .ok (.iload_n 2, 1) := by decide +kernel
theorem dX4_tideIn_32 : decode cX4_tideIn 32 = .ok (.irem, 1) := by decide +kernel
theorem dX4_tideIn_33 : decode cX4_tideIn 33 = .ok (.istore_n 3, 1) := by decide +kernel
theorem dX4_tideIn_34 : decode cX4_tideIn 34 = .ok (.aload_n 0, 1) := by decide +kernel
theorem dX4_tideIn_35 : decode cX4_tideIn 35 = .ok (.getfield 33, 3) := by decide +kernel
theorem dX4_tideIn_38 : decode cX4_tideIn 38 = .ok (.iload_n 3, 1) := by decide +kernel
theorem dX4_tideIn_39 : decode cX4_tideIn 39 = .ok (.aload_n 0, 1) := by decide +kernel
theorem dX4_tideIn_40 : decode cX4_tideIn 40 = .ok (.getfield 37, 3) := by decide +kernel
theorem dX4_tideIn_43 : decode cX4_tideIn 43 = .ok (.if_icmp .gt 7, 3) := by decide +kernel
theorem dX4_tideIn_46 : decode cX4_tideIn 46 = .ok (.iload_n 3, 1) := by decide +kernel
theorem dX4_tideIn_47 : decode cX4_tideIn 47 = .ok (.goto 6, 3) := by decide +kernel
theorem dX4_tideIn_50 : decode cX4_tideIn 50 = .ok (.iload_n 2, 1) := by decide +kernel
theorem dX4_tideIn_51 : decode cX4_tideIn 51 = .ok (.iload_n 3, 1) := by decide +kernel
theorem dX4_tideIn_52 : decode cX4_tideIn 52 = .ok (.isub, 1) := by decide +kernel
theorem dX4_tideIn_53 : decode cX4_tideIn 53 = .ok (.iadd, 1) := by decide +kernel
theorem dX4_tideIn_54 : decode cX4_tideIn 54 = .ok (.ireturn, 1) := by decide +kernel
theorem dX4_waterOver_0 : decode cX4_waterOver 0 = .ok (.iconst 0, 1) := by decide +kernel
theorem dX4_waterOver_1 : decode cX4_waterOver 1 = .ok (.aload_n 0, 1) := by decide +kernel
theorem dX4_waterOver_2 : decode cX4_waterOver 2 = .ok (.aload_n 0, 1) := by decide +kernel
theorem dX4_waterOver_3 : decode cX4_waterOver 3 = .ok (.getfield 64, 3) := by decide +kernel
theorem dX4_waterOver_6 : decode cX4_waterOver 6 = .ok (.invokevirtual 67, 3) := by decide +kernel
theorem dX4_waterOver_9 : decode cX4_waterOver 9 = .ok (.aload_n 0, 1) := by decide +kernel
theorem dX4_waterOver_10 : decode cX4_waterOver 10 = .ok (.getfield 9, 3) := by decide +kernel
theorem dX4_waterOver_13 : decode cX4_waterOver 13 = .ok (.iload_n 1, 1) := by decide +kernel
theorem dX4_waterOver_14 : decode cX4_waterOver 14 = .ok (.invokestatic 71, 3) := by decide +kernel
theorem dX4_waterOver_17 : decode cX4_waterOver 17 = .ok (.isub, 1) := by decide +kernel
theorem dX4_waterOver_18 : decode cX4_waterOver 18 = .ok (.invokestatic 75, 3) := by decide +kernel
theorem dX4_waterOver_21 : decode cX4_waterOver 21 = .ok (.ireturn, 1) := by decide +kernel
theorem dX4_isWet_0 : decode cX4_isWet 0 = .ok (.aload_n 0, 1) := by decide +kernel
theorem dX4_isWet_1 : decode cX4_isWet 1 = .ok (.iload_n 3, 1) := by decide +kernel
theorem dX4_isWet_2 : decode cX4_isWet 2 = .ok (.invokevirtual 67, 3) := by decide +kernel
theorem dX4_isWet_5 : decode cX4_isWet 5 = .ok (.aload_n 0, 1) := by decide +kernel
theorem dX4_isWet_6 : decode cX4_isWet 6 = .ok (.getfield 9, 3) := by decide +kernel
theorem dX4_isWet_9 : decode cX4_isWet 9 = .ok (.iload_n 1, 1) := by decide +kernel
theorem dX4_isWet_10 : decode cX4_isWet 10 = .ok (.invokestatic 71, 3) := by decide +kernel
theorem dX4_isWet_13 : decode cX4_isWet 13 = .ok (.isub, 1) := by decide +kernel
theorem dX4_isWet_14 : decode cX4_isWet 14 = .ok (.iload_n 2, 1) := by decide +kernel
theorem dX4_isWet_15 : decode cX4_isWet 15 = .ok (.if_icmp .lt 7, 3) := by decide +kernel
theorem dX4_isWet_18 : decode cX4_isWet 18 = .ok (.iconst 1, 1) := by decide +kernel
theorem dX4_isWet_19 : decode cX4_isWet 19 = .ok (.goto 4, 3) := by decide +kernel
theorem dX4_isWet_22 : decode cX4_isWet 22 = .ok (.iconst 0, 1) := by decide +kernel
theorem dX4_isWet_23 : decode cX4_isWet 23 = .ok (.ireturn, 1) := by decide +kernel
theorem dX4_isBoat_0 : decode cX4_isBoat 0 = .ok (.iload_n 1, 1) := by decide +kernel
theorem dX4_isBoat_1 : decode cX4_isBoat 1 = .ok (.ifCond .lt 15, 3) := by decide +kernel
theorem dX4_isBoat_4 : decode cX4_isBoat 4 = .ok (.iload_n 1, 1) := by decide +kernel
theorem dX4_isBoat_5 : decode cX4_isBoat 5 = .ok (.aload_n 0, 1) := by decide +kernel
theorem dX4_isBoat_6 : decode cX4_isBoat 6 = .ok (.getfield 58, 3) := by decide +kernel
theorem dX4_isBoat_9 : decode cX4_isBoat 9 = .ok (.if_icmp .ge 7, 3) := by decide +kernel
theorem dX4_isBoat_12 : decode cX4_isBoat 12 = .ok (.iconst 1, 1) := by decide +kernel
theorem dX4_isBoat_13 : decode cX4_isBoat 13 = .ok (.goto 4, 3) := by decide +kernel
theorem dX4_isBoat_16 : decode cX4_isBoat 16 = .ok (.iconst 0, 1) := by decide +kernel
theorem dX4_isBoat_17 : decode cX4_isBoat 17 = .ok (.ireturn, 1) := by decide +kernel
theorem dX4_isOnBoard_0 : decode cX4_isOnBoard 0 = .ok (.aload_n 0, 1) := by decide +kernel
theorem dX4_isOnBoard_1 : decode cX4_isOnBoard 1 = .ok (.iload_n 1, 1) := by decide +kernel
theorem dX4_isOnBoard_2 : decode cX4_isOnBoard 2 = .ok (.invokevirtual 81, 3) := by decide +kernel
theorem dX4_isOnBoard_5 : decode cX4_isOnBoard 5 = .ok (.ifCond .eq 18, 3) := by decide +kernel
theorem dX4_isOnBoard_8 : decode cX4_isOnBoard 8 = .ok (.aload_n 0, 1) := by decide +kernel
theorem dX4_isOnBoard_9 : decode cX4_isOnBoard 9 = .ok (.getfield 24, 3) := by decide +kernel
theorem dX4_isOnBoard_12 : decode cX4_isOnBoard 12 = .ok (.iload_n 1, 1) := by decide +kernel
theorem dX4_isOnBoard_13 : decode cX4_isOnBoard 13 = .ok (.invokestatic 71, 3) := by decide +kernel
theorem dX4_isOnBoard_16 : decode cX4_isOnBoard 16 = .ok (.ifCond .ne 7, 3) := by decide +kernel
theorem dX4_isOnBoard_19 : decode cX4_isOnBoard 19 = .ok (.iconst 1, 1) := by decide +kernel
theorem dX4_isOnBoard_20 : decode cX4_isOnBoard 20 = .ok (.goto 4, 3) := by decide +kernel
theorem dX4_isOnBoard_23 : decode cX4_isOnBoard 23 = .ok (.iconst 0, 1) := by decide +kernel
theorem dX4_isOnBoard_24 : decode cX4_isOnBoard 24 = .ok (.ireturn, 1) := by decide +kernel
theorem dX4_floats_0 : decode cX4_floats 0 = .ok (.aload_n 0, 1) := by decide +kernel
theorem dX4_floats_1 : decode cX4_floats 1 = .ok (.aload_n 0, 1) := by decide +kernel
theorem dX4_floats_2 : decode cX4_floats 2 = .ok (.getfield 27, 3) := by decide +kernel
theorem dX4_floats_5 : decode cX4_floats 5 = .ok (.iload_n 1, 1) := by decide +kernel
theorem dX4_floats_6 : decode cX4_floats 6 = .ok (.invokestatic 71, 3) := by decide +kernel
theorem dX4_floats_9 : decode cX4_floats 9 = .ok (.aload_n 0, 1) := by decide +kernel
theorem dX4_floats_10 : decode cX4_floats 10 = .ok (.getfield 21, 3) := by decide +kernel
theorem dX4_floats_13 : decode cX4_floats 13 = .ok (.iload_n 1, 1) := by decide +kernel
theorem dX4_floats_14 : decode cX4_floats 14 = .ok (.invokestatic 71, 3) := by decide +kernel
theorem dX4_floats_17 : decode cX4_floats 17 = .ok (.aload_n 0, 1) := by decide +kernel
theorem dX4_floats_18 : decode cX4_floats 18 = .ok (.getfield 64, 3) := by decide +kernel
theorem dX4_floats_21 : decode cX4_floats 21 = .ok (.invokevirtual 84, 3) := by decide +kernel
theorem dX4_floats_24 : decode cX4_floats 24 = .ok (.ireturn, 1) := by decide +kernel
theorem dX4_isWreckedAhead_0 : decode cX4_isWreckedAhead 0 = .ok (.aload_n 0, 1) := by decide +kernel
theorem dX4_isWreckedAhead_1 : decode cX4_isWreckedAhead 1 = .ok (.getfield 27, 3) := by decide +kernel
theorem dX4_isWreckedAhead_4 : decode cX4_isWreckedAhead 4 = .ok (.iload_n 1, 1) := by decide +kernel
theorem dX4_isWreckedAhead_5 : decode cX4_isWreckedAhead 5 = .ok (.invokestatic 71, 3) := by decide +kernel
theorem dX4_isWreckedAhead_8 : decode cX4_isWreckedAhead 8 = .ok (.istore_n 2, 1) := by decide +kernel
theorem dX4_isWreckedAhead_9 : decode cX4_isWreckedAhead 9 = .ok (.aload_n 0, 1) := by decide +kernel
theorem dX4_isWreckedAhead_10 : decode cX4_isWreckedAhead 10 = .ok (.iload_n 1, 1) := by decide +kernel
theorem dX4_isWreckedAhead_11 : decode cX4_isWreckedAhead 11 = .ok (.invokevirtual 88, 3) := by decide +kernel
theorem dX4_isWreckedAhead_14 : decode cX4_isWreckedAhead 14 = .ok (.ifCond .eq 61, 3) := by decide +kernel
theorem dX4_isWreckedAhead_17 : decode cX4_isWreckedAhead 17 = .ok (.aload_n 0, 1) := by decide +kernel
theorem dX4_isWreckedAhead_18 : decode cX4_isWreckedAhead 18 = .ok (.getfield 15, 3) := by decide +kernel
theorem dX4_isWreckedAhead_21 : decode cX4_isWreckedAhead 21 = .ok (.iload_n 2, 1) := by decide +kernel
theorem dX4_isWreckedAhead_22 : decode cX4_isWreckedAhead 22 = .ok (.invokestatic 71, 3) := by decide +kernel
theorem dX4_isWreckedAhead_25 : decode cX4_isWreckedAhead 25 = .ok (.iconst 1, 1) := by decide +kernel
theorem dX4_isWreckedAhead_26 : decode cX4_isWreckedAhead 26 = .ok (.if_icmp .ne 49, 3) := by decide +kernel
theorem dX4_isWreckedAhead_29 : decode cX4_isWreckedAhead 29 = .ok (.aload_n 0, 1) := by decide +kernel
theorem dX4_isWreckedAhead_30 : decode cX4_isWreckedAhead 30 = .ok (.iload_n 2, 1) := by decide +kernel
theorem dX4_isWreckedAhead_31 : decode cX4_isWreckedAhead 31 = .ok (.aload_n 0, 1) := by decide +kernel
theorem dX4_isWreckedAhead_32 : decode cX4_isWreckedAhead 32 = .ok (.getfield 21, 3) := by decide +kernel
theorem dX4_isWreckedAhead_35 : decode cX4_isWreckedAhead 35 = .ok (.iload_n 1, 1) := by decide +kernel
theorem dX4_isWreckedAhead_36 : decode cX4_isWreckedAhead 36 = .ok (.invokestatic 71, 3) := by decide +kernel
theorem dX4_isWreckedAhead_39 : decode cX4_isWreckedAhead 39 = .ok (.aload_n 0, 1) := by decide +kernel
theorem dX4_isWreckedAhead_40 : decode cX4_isWreckedAhead 40 = .ok (.getfield 64, 3) := by decide +kernel
theorem dX4_isWreckedAhead_43 : decode cX4_isWreckedAhead 43 = .ok (.invokevirtual 84, 3) := by decide +kernel
theorem dX4_isWreckedAhead_46 : decode cX4_isWreckedAhead 46 = .ok (.ifCond .eq 29, 3) := by decide +kernel
theorem dX4_isWreckedAhead_49 : decode cX4_isWreckedAhead 49 = .ok (.aload_n 0, 1) := by decide +kernel
theorem dX4_isWreckedAhead_50 : decode cX4_isWreckedAhead 50 = .ok (.iload_n 2, 1) := by decide +kernel
theorem dX4_isWreckedAhead_51 : decode cX4_isWreckedAhead 51 = .ok (.aload_n 0, 1) := by decide +kernel
theorem dX4_isWreckedAhead_52 : decode cX4_isWreckedAhead 52 = .ok (.getfield 21, 3) := by decide +kernel
theorem dX4_isWreckedAhead_55 : decode cX4_isWreckedAhead 55 = .ok (.iload_n 1, 1) := by decide +kernel
theorem dX4_isWreckedAhead_56 : decode cX4_isWreckedAhead 56 = .ok (.invokestatic 71, 3) := by decide +kernel
theorem dX4_isWreckedAhead_59 : decode cX4_isWreckedAhead 59 = .ok (.aload_n 0, 1) := by decide +kernel
theorem dX4_isWreckedAhead_60 : decode cX4_isWreckedAhead 60 = .ok (.getfield 64, 3) := by decide +kernel
theorem dX4_isWreckedAhead_63 : decode cX4_isWreckedAhead 63 = .ok (.iconst 1, 1) := by decide +kernel
theorem dX4_isWreckedAhead_64 : decode cX4_isWreckedAhead 64 = .ok (.iadd, 1) := by decide +kernel
theorem dX4_isWreckedAhead_65 : decode cX4_isWreckedAhead 65 = .ok (.invokevirtual 84, 3) := by decide +kernel
theorem dX4_isWreckedAhead_68 : decode cX4_isWreckedAhead 68 = .ok (.ifCond .ne 7, 3) := by decide +kernel
theorem dX4_isWreckedAhead_71 : decode cX4_isWreckedAhead 71 = .ok (.iconst 1, 1) := by decide +kernel
theorem dX4_isWreckedAhead_72 : decode cX4_isWreckedAhead 72 = .ok (.goto 4, 3) := by decide +kernel
theorem dX4_isWreckedAhead_75 : decode cX4_isWreckedAhead 75 = .ok (.iconst 0, 1) := by decide +kernel
theorem dX4_isWreckedAhead_76 : decode cX4_isWreckedAhead 76 = .ok (.ireturn, 1) := by decide +kernel
theorem dX4_boatAt_0 : decode cX4_boatAt 0 = .ok (.iconst 0, 1) := by decide +kernel
theorem dX4_boatAt_1 : decode cX4_boatAt 1 = .ok (.istore_n 2, 1) := by decide +kernel
theorem dX4_boatAt_2 : decode cX4_boatAt 2 = .ok (.iload_n 2, 1) := by decide +kernel
theorem dX4_boatAt_3 : decode cX4_boatAt 3 = .ok (.aload_n 0, 1) := by decide +kernel
theorem dX4_boatAt_4 : decode cX4_boatAt 4 = .ok (.getfield 58, 3) := by decide +kernel
theorem dX4_boatAt_7 : decode cX4_boatAt 7 = .ok (.if_icmp .ge 34, 3) := by decide +kernel
theorem dX4_boatAt_10 : decode cX4_boatAt 10 = .ok (.aload_n 0, 1) := by decide +kernel
theorem dX4_boatAt_11 : decode cX4_boatAt 11 = .ok (.getfield 24, 3) := by decide +kernel
theorem dX4_boatAt_14 : decode cX4_boatAt 14 = .ok (.iload_n 2, 1) := by decide +kernel
theorem dX4_boatAt_15 : decode cX4_boatAt 15 = .ok (.invokestatic 71, 3) := by decide +kernel
theorem dX4_boatAt_18 : decode cX4_boatAt 18 = .ok (.ifCond .ne 17, 3) := by decide +kernel
theorem dX4_boatAt_21 : decode cX4_boatAt 21 = .ok (.aload_n 0, 1) := by decide +kernel
theorem dX4_boatAt_22 : decode cX4_boatAt 22 = .ok (.getfield 27, 3) := by decide +kernel
theorem dX4_boatAt_25 : decode cX4_boatAt 25 = .ok (.iload_n 2, 1) := by decide +kernel
theorem dX4_boatAt_26 : decode cX4_boatAt 26 = .ok (.invokestatic 71, 3) := by decide +kernel
theorem dX4_boatAt_29 : decode cX4_boatAt 29 = .ok (.iload_n 1, 1) := by decide +kernel
theorem dX4_boatAt_30 : decode cX4_boatAt 30 = .ok (.if_icmp .ne 5, 3) := by decide +kernel
theorem dX4_boatAt_33 : decode cX4_boatAt 33 = .ok (.iload_n 2, 1) := by decide +kernel
theorem dX4_boatAt_34 : decode cX4_boatAt 34 = .ok (.ireturn, 1) := by decide +kernel
theorem dX4_boatAt_35 : decode cX4_boatAt 35 = .ok (.iinc 2 1, 3) := by decide +kernel
theorem dX4_boatAt_38 : decode cX4_boatAt 38 = .ok (.goto (-36), 3) := by decide +kernel
theorem dX4_boatAt_41 : decode cX4_boatAt 41 = .ok (.bipush (-5), 2) := by decide +kernel
theorem dX4_boatAt_43 : decode cX4_boatAt 43 = .ok (.ireturn, 1) := by decide +kernel
theorem dX4_boatsThatAre_0 : decode cX4_boatsThatAre 0 = .ok (.iconst 0, 1) := by decide +kernel
theorem dX4_boatsThatAre_1 : decode cX4_boatsThatAre 1 = .ok (.istore_n 2, 1) := by decide +kernel
theorem dX4_boatsThatAre_2 : decode cX4_boatsThatAre 2 = .ok (.iconst 0, 1) := by decide +kernel
theorem dX4_boatsThatAre_3 : decode cX4_boatsThatAre 3 = .ok (.istore_n 3, 1) := by decide +kernel
theorem dX4_boatsThatAre_4 : decode cX4_boatsThatAre 4 = .ok (.iload_n 3, 1) := by decide +kernel
theorem dX4_boatsThatAre_5 : decode cX4_boatsThatAre 5 = .ok (.aload_n 0, 1) := by decide +kernel
theorem dX4_boatsThatAre_6 : decode cX4_boatsThatAre 6 = .ok (.getfield 58, 3) := by decide +kernel
theorem dX4_boatsThatAre_9 : decode cX4_boatsThatAre 9 = .ok (.if_icmp .ge 24, 3) := by decide +kernel
theorem dX4_boatsThatAre_12 : decode cX4_boatsThatAre 12 = .ok (.aload_n 0, 1) := by decide +kernel
theorem dX4_boatsThatAre_13 : decode cX4_boatsThatAre 13 = .ok (.getfield 24, 3) := by decide +kernel
theorem dX4_boatsThatAre_16 : decode cX4_boatsThatAre 16 = .ok (.iload_n 3, 1) := by decide +kernel
theorem dX4_boatsThatAre_17 : decode cX4_boatsThatAre 17 = .ok (.invokestatic 71, 3) := by decide +kernel
theorem dX4_boatsThatAre_20 : decode cX4_boatsThatAre 20 = .ok (.iload_n 1, 1) := by decide +kernel
theorem dX4_boatsThatAre_21 : decode cX4_boatsThatAre 21 = .ok (.if_icmp .ne 6, 3) := by decide +kernel
theorem dX4_boatsThatAre_24 : decode cX4_boatsThatAre 24 = .ok (.iinc 2 1, 3) := by decide +kernel
theorem dX4_boatsThatAre_27 : decode cX4_boatsThatAre 27 = .ok (.iinc 3 1, 3) := by decide +kernel
theorem dX4_boatsThatAre_30 : decode cX4_boatsThatAre 30 = .ok (.goto (-26), 3) := by decide +kernel
theorem dX4_boatsThatAre_33 : decode cX4_boatsThatAre 33 = .ok (.iload_n 2, 1) := by decide +kernel
theorem dX4_boatsThatAre_34 : decode cX4_boatsThatAre 34 = .ok (.ireturn, 1) := by decide +kernel
theorem dX4_boatsAground_0 : decode cX4_boatsAground 0 = .ok (.iconst 0, 1) := by decide +kernel
theorem dX4_boatsAground_1 : decode cX4_boatsAground 1 = .ok (.istore_n 1, 1) := by decide +kernel
theorem dX4_boatsAground_2 : decode cX4_boatsAground 2 = .ok (.iconst 0, 1) := by decide +kernel
theorem dX4_boatsAground_3 : decode cX4_boatsAground 3 = .ok (.istore_n 2, 1) := by decide +kernel
theorem dX4_boatsAground_4 : decode cX4_boatsAground 4 = .ok (.iload_n 2, 1) := by decide +kernel
theorem dX4_boatsAground_5 : decode cX4_boatsAground 5 = .ok (.aload_n 0, 1) := by decide +kernel
theorem dX4_boatsAground_6 : decode cX4_boatsAground 6 = .ok (.getfield 58, 3) := by decide +kernel
theorem dX4_boatsAground_9 : decode cX4_boatsAground 9 = .ok (.if_icmp .ge 28, 3) := by decide +kernel
theorem dX4_boatsAground_12 : decode cX4_boatsAground 12 = .ok (.aload_n 0, 1) := by decide +kernel
theorem dX4_boatsAground_13 : decode cX4_boatsAground 13 = .ok (.iload_n 2, 1) := by decide +kernel
theorem dX4_boatsAground_14 : decode cX4_boatsAground 14 = .ok (.invokevirtual 88, 3) := by decide +kernel
theorem dX4_boatsAground_17 : decode cX4_boatsAground 17 = .ok (.ifCond .eq 14, 3) := by decide +kernel
theorem dX4_boatsAground_20 : decode cX4_boatsAground 20 = .ok (.aload_n 0, 1) := by decide +kernel
theorem dX4_boatsAground_21 : decode cX4_boatsAground 21 = .ok (.iload_n 2, 1) := by decide +kernel
theorem dX4_boatsAground_22 : decode cX4_boatsAground 22 = .ok (.invokevirtual 91, 3) := by decide +kernel
theorem dX4_boatsAground_25 : decode cX4_boatsAground 25 = .ok (.ifCond .ne 6, 3) := by decide +kernel
theorem dX4_boatsAground_28 : decode cX4_boatsAground 28 = .ok (.iinc 1 1, 3) := by decide +kernel
theorem dX4_boatsAground_31 : decode cX4_boatsAground 31 = .ok (.iinc 2 1, 3) := by decide +kernel
theorem dX4_boatsAground_34 : decode cX4_boatsAground 34 = .ok (.goto (-30), 3) := by decide +kernel
theorem dX4_boatsAground_37 : decode cX4_boatsAground 37 = .ok (.iload_n 1, 1) := by decide +kernel
theorem dX4_boatsAground_38 : decode cX4_boatsAground 38 = .ok (.ireturn, 1) := by decide +kernel
theorem dX4_scoreOf_0 : decode cX4_scoreOf 0 = .ok (.iconst 0, 1) := by decide +kernel
theorem dX4_scoreOf_1 : decode cX4_scoreOf 1 = .ok (.istore_n 2, 1) := by decide +kernel
theorem dX4_scoreOf_2 : decode cX4_scoreOf 2 = .ok (.iconst 0, 1) := by decide +kernel
theorem dX4_scoreOf_3 : decode cX4_scoreOf 3 = .ok (.istore_n 3, 1) := by decide +kernel
theorem dX4_scoreOf_4 : decode cX4_scoreOf 4 = .ok (.iload_n 3, 1) := by decide +kernel
theorem dX4_scoreOf_5 : decode cX4_scoreOf 5 = .ok (.aload_n 0, 1) := by decide +kernel
theorem dX4_scoreOf_6 : decode cX4_scoreOf 6 = .ok (.getfield 58, 3) := by decide +kernel
theorem dX4_scoreOf_9 : decode cX4_scoreOf 9 = .ok (.if_icmp .ge 44, 3) := by decide +kernel
theorem dX4_scoreOf_12 : decode cX4_scoreOf 12 = .ok (.aload_n 0, 1) := by decide +kernel
theorem dX4_scoreOf_13 : decode cX4_scoreOf 13 = .ok (.getfield 18, 3) := by decide +kernel
theorem dX4_scoreOf_16 : decode cX4_scoreOf 16 = .ok (.iload_n 3, 1) := by decide +kernel
theorem dX4_scoreOf_17 : decode cX4_scoreOf 17 = .ok (.invokestatic 71, 3) := by decide +kernel
theorem dX4_scoreOf_20 : decode cX4_scoreOf 20 = .ok (.iload_n 1, 1) := by decide +kernel
theorem dX4_scoreOf_21 : decode cX4_scoreOf 21 = .ok (.if_icmp .ne 26, 3) := by decide +kernel
theorem dX4_scoreOf_24 : decode cX4_scoreOf 24 = .ok (.aload_n 0, 1) := by decide +kernel
theorem dX4_scoreOf_25 : decode cX4_scoreOf 25 = .ok (.getfield 24, 3) := by decide +kernel
theorem dX4_scoreOf_28 : decode cX4_scoreOf 28 = .ok (.iload_n 3, 1) := by decide +kernel
theorem dX4_scoreOf_29 : decode cX4_scoreOf 29 = .ok (.invokestatic 71, 3) := by decide +kernel
theorem dX4_scoreOf_32 : decode cX4_scoreOf 32 = .ok (.iconst 1, 1) := by decide +kernel
theorem dX4_scoreOf_33 : decode cX4_scoreOf 33 = .ok (.if_icmp .ne 14, 3) := by decide +kernel
theorem dX4_scoreOf_36 : decode cX4_scoreOf 36 = .ok (.iload_n 2, 1) := by decide +kernel
theorem dX4_scoreOf_37 : decode cX4_scoreOf 37 = .ok (.aload_n 0, 1) := by decide +kernel
theorem dX4_scoreOf_38 : decode cX4_scoreOf 38 = .ok (.getfield 21, 3) := by decide +kernel
theorem dX4_scoreOf_41 : decode cX4_scoreOf 41 = .ok (.iload_n 3, 1) := by decide +kernel
theorem dX4_scoreOf_42 : decode cX4_scoreOf 42 = .ok (.invokestatic 71, 3) := by decide +kernel
theorem dX4_scoreOf_45 : decode cX4_scoreOf 45 = .ok (.iadd, 1) := by decide +kernel
theorem dX4_scoreOf_46 : decode cX4_scoreOf 46 = .ok (.istore_n 2, 1) := by decide +kernel
theorem dX4_scoreOf_47 : decode cX4_scoreOf 47 = .ok (.iinc 3 1, 3) := by decide +kernel
theorem dX4_scoreOf_50 : decode cX4_scoreOf 50 = .ok (.goto (-46), 3) := by decide +kernel
theorem dX4_scoreOf_53 : decode cX4_scoreOf 53 = .ok (.iload_n 2, 1) := by decide +kernel
theorem dX4_scoreOf_54 : decode cX4_scoreOf 54 = .ok (.ireturn, 1) := by decide +kernel
theorem dX4_mover_0 : decode cX4_mover 0 = .ok (.aload_n 0, 1) := by decide +kernel
theorem dX4_mover_1 : decode cX4_mover 1 = .ok (.getfield 64, 3) := by decide +kernel
theorem dX4_mover_4 : decode cX4_mover 4 = .ok (.iconst 2, 1) := by decide +kernel
theorem dX4_mover_5 : decode cX4_mover 5 = .ok (.irem, 1) := by decide +kernel
theorem dX4_mover_6 : decode cX4_mover 6 = .ok (.ireturn, 1) := by decide +kernel
theorem dX4_isOver_0 : decode cX4_isOver 0 = .ok (.aload_n 0, 1) := by decide +kernel
theorem dX4_isOver_1 : decode cX4_isOver 1 = .ok (.getfield 64, 3) := by decide +kernel
theorem dX4_isOver_4 : decode cX4_isOver 4 = .ok (.aload_n 0, 1) := by decide +kernel
theorem dX4_isOver_5 : decode cX4_isOver 5 = .ok (.getfield 43, 3) := by decide +kernel
theorem dX4_isOver_8 : decode cX4_isOver 8 = .ok (.if_icmp .gt 11, 3) := by decide +kernel
theorem dX4_isOver_11 : decode cX4_isOver 11 = .ok (.aload_n 0, 1) := by decide +kernel
theorem dX4_isOver_12 : decode cX4_isOver 12 = .ok (.iconst 0, 1) := by decide +kernel
theorem dX4_isOver_13 : decode cX4_isOver 13 = .ok (.invokevirtual 94, 3) := by decide +kernel
theorem dX4_isOver_16 : decode cX4_isOver 16 = .ok (.ifCond .ne 7, 3) := by decide +kernel
theorem dX4_isOver_19 : decode cX4_isOver 19 = .ok (.iconst 1, 1) := by decide +kernel
theorem dX4_isOver_20 : decode cX4_isOver 20 = .ok (.goto 4, 3) := by decide +kernel
theorem dX4_isOver_23 : decode cX4_isOver 23 = .ok (.iconst 0, 1) := by decide +kernel
theorem dX4_isOver_24 : decode cX4_isOver 24 = .ok (.ireturn, 1) := by decide +kernel
theorem dX5_init_0 : decode cX5_init 0 = .ok (.aload_n 0, 1) := by decide +kernel
theorem dX5_init_1 : decode cX5_init 1 = .ok (.invokespecial 1, 3) := by decide +kernel
theorem dX5_init_4 : decode cX5_init 4 = .ok (.aload_n 0, 1) := by decide +kernel
theorem dX5_init_5 : decode cX5_init 5 = .ok (.new 7, 3) := by decide +kernel
theorem dX5_init_8 : decode cX5_init 8 = .ok (.dup, 1) := by decide +kernel
theorem dX5_init_9 : decode cX5_init 9 = .ok (.invokespecial 9, 3) := by decide +kernel
theorem dX5_init_12 : decode cX5_init 12 = .ok (.putfield 10, 3) := by decide +kernel
theorem dX5_init_15 : decode cX5_init 15 = .ok (.aload_n 0, 1) := by decide +kernel
theorem dX5_init_16 : decode cX5_init 16 = .ok (.new 7, 3) := by decide +kernel
theorem dX5_init_19 : decode cX5_init 19 = .ok (.dup, 1) := by decide +kernel
theorem dX5_init_20 : decode cX5_init 20 = .ok (.invokespecial 9, 3) := by decide +kernel
theorem dX5_init_23 : decode cX5_init 23 = .ok (.putfield 16, 3) := by decide +kernel
theorem dX5_init_26 : decode cX5_init 26 = .ok (.aload_n 0, 1) := by decide +kernel
theorem dX5_init_27 : decode cX5_init 27 = .ok (.new 19, 3) := by decide +kernel
theorem dX5_init_30 : decode cX5_init 30 = .ok (.dup, 1) := by decide +kernel
theorem dX5_init_31 : decode cX5_init 31 = .ok (.aload_n 0, 1) := by decide +kernel
theorem dX5_init_32 : decode cX5_init 32 = .ok (.getfield 10, 3) := by decide +kernel
theorem dX5_init_35 : decode cX5_init 35 = .ok (.invokespecial 21, 3) := by decide +kernel
theorem dX5_init_38 : decode cX5_init 38 = .ok (.putfield 24, 3) := by decide +kernel
theorem dX5_init_41 : decode cX5_init 41 = .ok (.aload_n 0, 1) := by decide +kernel
theorem dX5_init_42 : decode cX5_init 42 = .ok (.new 28, 3) := by decide +kernel
theorem dX5_init_45 : decode cX5_init 45 = .ok (.dup, 1) := by decide +kernel
theorem dX5_init_46 : decode cX5_init 46 = .ok (.aload_n 0, 1) := by decide +kernel
theorem dX5_init_47 : decode cX5_init 47 = .ok (.getfield 10, 3) := by decide +kernel
theorem dX5_init_50 : decode cX5_init 50 = .ok (.invokespecial 30, 3) := by decide +kernel
theorem dX5_init_53 : decode cX5_init 53 = .ok (.putfield 31, 3) := by decide +kernel
theorem dX5_init_56 : decode cX5_init 56 = .ok (.aload_n 0, 1) := by decide +kernel
theorem dX5_init_57 : decode cX5_init 57 = .ok (.new 35, 3) := by decide +kernel
theorem dX5_init_60 : decode cX5_init 60 = .ok (.dup, 1) := by decide +kernel
theorem dX5_init_61 : decode cX5_init 61 = .ok (.invokespecial 37, 3) := by decide +kernel
theorem dX5_init_64 : decode cX5_init 64 = .ok (.putfield 38, 3) := by decide +kernel
theorem dX5_init_67 : decode cX5_init 67 = .ok (.aload_n 0, 1) := by decide +kernel
theorem dX5_init_68 : decode cX5_init 68 = .ok (.new 42, 3) := by decide +kernel
theorem dX5_init_71 : decode cX5_init 71 = .ok (.dup, 1) := by decide +kernel
theorem dX5_init_72 : decode cX5_init 72 = .ok (.invokespecial 44, 3) := by decide +kernel
theorem dX5_init_75 : decode cX5_init 75 = .ok (.putfield 45, 3) := by decide +kernel
theorem dX5_init_78 : decode cX5_init 78 = .ok (.return_, 1) := by decide +kernel
theorem dX5_sand_0 : decode cX5_sand 0 = .ok (.aload_n 0, 1) := by decide +kernel
theorem dX5_sand_1 : decode cX5_sand 1 = .ok (.getfield 16, 3) := by decide +kernel
theorem dX5_sand_4 : decode cX5_sand 4 = .ok (.aload_n 0, 1) := by decide +kernel
theorem dX5_sand_5 : decode cX5_sand 5 = .ok (.getfield 10, 3) := by decide +kernel
theorem dX5_sand_8 : decode cX5_sand 8 = .ok (.invokevirtual 49, 3) := by decide +kernel
theorem dX5_sand_11 : decode cX5_sand 11 = .ok (.aload_n 0, 1) := by decide +kernel
theorem dX5_sand_12 : decode cX5_sand 12 = .ok (.aload_n 0, 1) := by decide +kernel
theorem dX5_sand_13 : decode cX5_sand 13 = .ok (.getfield 24, 3) := by decide +kernel
theorem dX5_sand_16 : decode cX5_sand 16 = .ok (.iload_n 1, 1) := by decide +kernel
theorem dX5_sand_17 : decode cX5_sand 17 = .ok (.iload_n 2, 1) := by decide +kernel
theorem dX5_sand_18 : decode cX5_sand 18 = .ok (.iload_n 3, 1) := by decide +kernel
theorem dX5_sand_19 : decode cX5_sand 19 = .ok (.invokevirtual 52, 3) := by decide +kernel
theorem dX5_sand_22 : decode cX5_sand 22 = .ok (.invokevirtual 56, 3) := by decide +kernel
theorem dX5_sand_25 : decode cX5_sand 25 = .ok (.ireturn, 1) := by decide +kernel
theorem dX5_boat_0 : decode cX5_boat 0 = .ok (.aload_n 0, 1) := by decide +kernel
theorem dX5_boat_1 : decode cX5_boat 1 = .ok (.getfield 16, 3) := by decide +kernel
theorem dX5_boat_4 : decode cX5_boat 4 = .ok (.aload_n 0, 1) := by decide +kernel
theorem dX5_boat_5 : decode cX5_boat 5 = .ok (.getfield 10, 3) := by decide +kernel
theorem dX5_boat_8 : decode cX5_boat 8 = .ok (.invokevirtual 49, 3) := by decide +kernel
theorem dX5_boat_11 : decode cX5_boat 11 = .ok (.aload_n 0, 1) := by decide +kernel
theorem dX5_boat_12 : decode cX5_boat 12 = .ok (.aload_n 0, 1) := by decide +kernel
theorem dX5_boat_13 : decode cX5_boat 13 = .ok (.getfield 24, 3) := by decide +kernel
theorem dX5_boat_16 : decode cX5_boat 16 = .ok (.iload_n 1, 1) := by decide +kernel
theorem dX5_boat_17 : decode cX5_boat 17 = .ok (.iload_n 2, 1) := by decide +kernel
theorem dX5_boat_18 : decode cX5_boat 18 = .ok (.iload_n 3, 1) := by decide +kernel
theorem dX5_boat_19 : decode cX5_boat 19 = .ok (.invokevirtual 60, 3) := by decide +kernel
theorem dX5_boat_22 : decode cX5_boat 22 = .ok (.invokevirtual 56, 3) := by decide +kernel
theorem dX5_boat_25 : decode cX5_boat 25 = .ok (.ireturn, 1) := by decide +kernel
theorem dX5_set_0 : decode cX5_set 0 = .ok (.aload_n 0, 1) := by decide +kernel
theorem dX5_set_1 : decode cX5_set 1 = .ok (.getfield 16, 3) := by decide +kernel
theorem dX5_set_4 : decode cX5_set 4 = .ok (.aload_n 0, 1) := by decide +kernel
theorem dX5_set_5 : decode cX5_set 5 = .ok (.getfield 10, 3) := by decide +kernel
theorem dX5_set_8 : decode cX5_set 8 = .ok (.invokevirtual 49, 3) := by decide +kernel
theorem dX5_set_11 : decode cX5_set 11 = .ok (.aload_n 0, 1) := by decide +kernel
theorem dX5_set_12 : decode cX5_set 12 = .ok (.aload_n 0, 1) := by decide +kernel
theorem dX5_set_13 : decode cX5_set 13 = .ok (.getfield 24, 3) := by decide +kernel
theorem dX5_set_16 : decode cX5_set 16 = .ok (.iload_n 1, 1) := by decide +kernel
theorem dX5_set_17 : decode cX5_set 17 = .ok (.iload_n 2, 1) := by decide +kernel
theorem dX5_set_18 : decode cX5_set 18 = .ok (.invokevirtual 64, 3) := by decide +kernel
theorem dX5_set_21 : decode cX5_set 21 = .ok (.invokevirtual 56, 3) := by decide +kernel
theorem dX5_set_24 : decode cX5_set 24 = .ok (.ireturn, 1) := by decide +kernel
theorem dX5_move_0 : decode cX5_move 0 = .ok (.aload_n 0, 1) := by decide +kernel
theorem dX5_move_1 : decode cX5_move 1 = .ok (.getfield 16, 3) := by decide +kernel
theorem dX5_move_4 : decode cX5_move 4 = .ok (.aload_n 0, 1) := by decide +kernel
theorem dX5_move_5 : decode cX5_move 5 = .ok (.getfield 10, 3) := by decide +kernel
theorem dX5_move_8 : decode cX5_move 8 = .ok (.invokevirtual 49, 3) := by decide +kernel
theorem dX5_move_11 : decode cX5_move 11 = .ok (.aload_n 0, 1) := by decide +kernel
theorem dX5_move_12 : decode cX5_move 12 = .ok (.aload_n 0, 1) := by decide +kernel
theorem dX5_move_13 : decode cX5_move 13 = .ok (.getfield 24, 3) := by decide +kernel
theorem dX5_move_16 : decode cX5_move 16 = .ok (.iload_n 1, 1) := by decide +kernel
theorem dX5_move_17 : decode cX5_move 17 = .ok (.iload_n 2, 1) := by decide +kernel
theorem dX5_move_18 : decode cX5_move 18 = .ok (.iload_n 3, 1) := by decide +kernel
theorem dX5_move_19 : decode cX5_move 19 = .ok (.invokevirtual 68, 3) := by decide +kernel
theorem dX5_move_22 : decode cX5_move 22 = .ok (.invokevirtual 56, 3) := by decide +kernel
theorem dX5_move_25 : decode cX5_move 25 = .ok (.ireturn, 1) := by decide +kernel
theorem dX5_pause_0 : decode cX5_pause 0 = .ok (.aload_n 0, 1) := by decide +kernel
theorem dX5_pause_1 : decode cX5_pause 1 = .ok (.getfield 16, 3) := by decide +kernel
theorem dX5_pause_4 : decode cX5_pause 4 = .ok (.aload_n 0, 1) := by decide +kernel
theorem dX5_pause_5 : decode cX5_pause 5 = .ok (.getfield 10, 3) := by decide +kernel
theorem dX5_pause_8 : decode cX5_pause 8 = .ok (.invokevirtual 49, 3) := by decide +kernel
theorem dX5_pause_11 : decode cX5_pause 11 = .ok (.aload_n 0, 1) := by decide +kernel
theorem dX5_pause_12 : decode cX5_pause 12 = .ok (.aload_n 0, 1) := by decide +kernel
theorem dX5_pause_13 : decode cX5_pause 13 = .ok (.getfield 24, 3) := by decide +kernel
theorem dX5_pause_16 : decode cX5_pause 16 = .ok (.invokevirtual 71, 3) := by decide +kernel
theorem dX5_pause_19 : decode cX5_pause 19 = .ok (.invokevirtual 56, 3) := by decide +kernel
theorem dX5_pause_22 : decode cX5_pause 22 = .ok (.ireturn, 1) := by decide +kernel
theorem dX5_type_0 : decode cX5_type 0 = .ok (.aload_n 0, 1) := by decide +kernel
theorem dX5_type_1 : decode cX5_type 1 = .ok (.getfield 45, 3) := by decide +kernel
theorem dX5_type_4 : decode cX5_type 4 = .ok (.iload_n 1, 1) := by decide +kernel
theorem dX5_type_5 : decode cX5_type 5 = .ok (.invokevirtual 75, 3) := by decide +kernel
theorem dX5_type_8 : decode cX5_type 8 = .ok (.ireturn, 1) := by decide +kernel
theorem dX5_clearText_0 : decode cX5_clearText 0 = .ok (.aload_n 0, 1) := by decide +kernel
theorem dX5_clearText_1 : decode cX5_clearText 1 = .ok (.getfield 45, 3) := by decide +kernel
theorem dX5_clearText_4 : decode cX5_clearText 4 = .ok (.invokevirtual 79, 3) := by decide +kernel
theorem dX5_clearText_7 : decode cX5_clearText 7 = .ok (.ireturn, 1) := by decide +kernel
theorem dX5_fault_0 : decode cX5_fault 0 = .ok (.aload_n 0, 1) := by decide +kernel
theorem dX5_fault_1 : decode cX5_fault 1 = .ok (.getfield 45, 3) := by decide +kernel
theorem dX5_fault_4 : decode cX5_fault 4 = .ok (.invokevirtual 82, 3) := by decide +kernel
theorem dX5_fault_7 : decode cX5_fault 7 = .ok (.ireturn, 1) := by decide +kernel
theorem dX5_doAll_0 : decode cX5_doAll 0 = .ok (.aload_n 0, 1) := by decide +kernel
theorem dX5_doAll_1 : decode cX5_doAll 1 = .ok (.getfield 45, 3) := by decide +kernel
theorem dX5_doAll_4 : decode cX5_doAll 4 = .ok (.invokevirtual 82, 3) := by decide +kernel
theorem dX5_doAll_7 : decode cX5_doAll 7 = .ok (.istore_n 1, 1) := by decide +kernel
theorem dX5_doAll_8 : decode cX5_doAll 8 = .ok (.iload_n 1, 1) := by decide +kernel
theorem dX5_doAll_9 : decode cX5_doAll 9 = .ok (.bipush (-5), 2) := by decide +kernel
theorem dX5_doAll_11 : decode cX5_doAll 11 = .ok (.if_icmp .eq 8, 3) := by decide +kernel
theorem dX5_doAll_14 : decode cX5_doAll 14 = .ok (.bipush (-100), 2) := by decide +kernel
theorem dX5_doAll_16 : decode cX5_doAll 16 = .ok (.iload_n 1, 1) := by decide +kernel
theorem dX5_doAll_17 : decode cX5_doAll 17 = .ok (.isub, 1) := by decide +kernel
theorem dX5_doAll_18 : decode cX5_doAll 18 = .ok (.ireturn, 1) := by decide +kernel
theorem dX5_doAll_19 : decode cX5_doAll 19 = .ok (.aload_n 0, 1) := by decide +kernel
theorem dX5_doAll_20 : decode cX5_doAll 20 = .ok (.getfield 16, 3) := by decide +kernel
theorem dX5_doAll_23 : decode cX5_doAll 23 = .ok (.aload_n 0, 1) := by decide +kernel
theorem dX5_doAll_24 : decode cX5_doAll 24 = .ok (.getfield 10, 3) := by decide +kernel
theorem dX5_doAll_27 : decode cX5_doAll 27 = .ok (.invokevirtual 49, 3) := by decide +kernel
theorem dX5_doAll_30 : decode cX5_doAll 30 = .ok (.iconst 0, 1) := by decide +kernel
theorem dX5_doAll_31 : decode cX5_doAll 31 = .ok (.istore_n 2, 1) := by decide +kernel
theorem dX5_doAll_32 : decode cX5_doAll 32 = .ok (.iconst 0, 1) := by decide +kernel
theorem dX5_doAll_33 : decode cX5_doAll 33 = .ok (.istore_n 3, 1) := by decide +kernel
theorem dX5_doAll_34 : decode cX5_doAll 34 = .ok (.iconst 0, 1) := by decide +kernel
theorem dX5_doAll_35 : decode cX5_doAll 35 = .ok (.istore 4, 2) := by decide +kernel
theorem dX5_doAll_37 : decode cX5_doAll 37 = .ok (.iload 4, 2) := by decide +kernel
theorem dX5_doAll_39 : decode cX5_doAll 39 = .ok (.bipush 60, 2) := by decide +kernel
theorem dX5_doAll_41 : decode cX5_doAll 41 = .ok (.if_icmp .ge 67, 3) := by decide +kernel
theorem dX5_doAll_44 : decode cX5_doAll 44 = .ok (.iload_n 3, 1) := by decide +kernel
theorem dX5_doAll_45 : decode cX5_doAll 45 = .ok (.aload_n 0, 1) := by decide +kernel
theorem dX5_doAll_46 : decode cX5_doAll 46 = .ok (.getfield 45, 3) := by decide +kernel
theorem dX5_doAll_49 : decode cX5_doAll 49 = .ok (.getfield 85, 3) := by decide +kernel
theorem dX5_doAll_52 : decode cX5_doAll 52 = .ok (.if_icmp .ge 56, 3) := by decide +kernel
theorem dX5_doAll_55 : decode cX5_doAll 55 = .ok (.aload_n 0, 1) := by decide +kernel
theorem dX5_doAll_56 : decode cX5_doAll 56 = .ok (.iload_n 3, 1) := by decide +kernel
theorem dX5_doAll_57 : decode cX5_doAll 57 = .ok (.invokevirtual 89, 3) := by decide +kernel
theorem dX5_doAll_60 : decode cX5_doAll 60 = .ok (.istore 5, 2) := by decide +kernel
theorem dX5_doAll_62 : decode cX5_doAll 62 = .ok (.iload 5, 2) := by decide +kernel
theorem dX5_doAll_64 : decode cX5_doAll 64 = .ok (.ifCond .ge 24, 3) := by decide +kernel
theorem dX5_doAll_67 : decode cX5_doAll 67 = .ok (.iload 5, 2) := by decide +kernel
theorem dX5_doAll_69 : decode cX5_doAll 69 = .ok (.bipush (-5), 2) := by decide +kernel
theorem dX5_doAll_71 : decode cX5_doAll 71 = .ok (.if_icmp .eq 17, 3) := by decide +kernel
theorem dX5_doAll_74 : decode cX5_doAll 74 = .ok (.aload_n 0, 1) := by decide +kernel
theorem dX5_doAll_75 : decode cX5_doAll 75 = .ok (.getfield 10, 3) := by decide +kernel
theorem dX5_doAll_78 : decode cX5_doAll 78 = .ok (.aload_n 0, 1) := by decide +kernel
theorem dX5_doAll_79 : decode cX5_doAll 79 = .ok (.getfield 16, 3) := by decide +kernel
theorem dX5_doAll_82 : decode cX5_doAll 82 = .ok (.invokevirtual 49, 3) := by decide +kernel
theorem dX5_doAll_85 : decode cX5_doAll 85 = .ok (.iload 5, 2) := by decide +kernel
theorem dX5_doAll_87 : decode cX5_doAll 87 = .ok (.ireturn, 1) := by decide +kernel
theorem dX5_doAll_88 : decode cX5_doAll 88 = .ok (.iinc 2 1, 3) := by decide +kernel
theorem dX5_doAll_91 : decode cX5_doAll 91 = .ok (.aload_n 0, 1) := by decide +kernel
theorem dX5_doAll_92 : decode cX5_doAll 92 = .ok (.getfield 45, 3) := by decide +kernel
theorem dX5_doAll_95 : decode cX5_doAll 95 = .ok (.iload_n 3, 1) := by decide +kernel
theorem dX5_doAll_96 : decode cX5_doAll 96 = .ok (.invokevirtual 92, 3) := by decide +kernel
theorem dX5_doAll_99 : decode cX5_doAll 99 = .ok (.iconst 1, 1) := by decide +kernel
theorem dX5_doAll_100 : decode cX5_doAll 100 = .ok (.iadd, 1) := by decide +kernel
theorem dX5_doAll_101 : decode cX5_doAll 101 = .ok (.istore_n 3, 1) := by decide +kernel
theorem dX5_doAll_102 : decode cX5_doAll 102 = .ok (.iinc 4 1, 3) := by decide +kernel
theorem dX5_doAll_105 : decode cX5_doAll 105 = .ok (.goto (-68), 3) := by decide +kernel
theorem dX5_doAll_108 : decode cX5_doAll 108 = .ok (.aload_n 0, 1) := by decide +kernel
theorem dX5_doAll_109 : decode cX5_doAll 109 = .ok (.iload_n 2, 1) := by decide +kernel
theorem dX5_doAll_110 : decode cX5_doAll 110 = .ok (.invokevirtual 56, 3) := by decide +kernel
theorem dX5_doAll_113 : decode cX5_doAll 113 = .ok (.ireturn, 1) := by decide +kernel
theorem dX5_undo_0 : decode cX5_undo 0 = .ok (.aload_n 0, 1) := by decide +kernel
theorem dX5_undo_1 : decode cX5_undo 1 = .ok (.getfield 38, 3) := by decide +kernel
theorem dX5_undo_4 : decode cX5_undo 4 = .ok (.aload_n 0, 1) := by decide +kernel
theorem dX5_undo_5 : decode cX5_undo 5 = .ok (.getfield 10, 3) := by decide +kernel
theorem dX5_undo_8 : decode cX5_undo 8 = .ok (.invokevirtual 95, 3) := by decide +kernel
theorem dX5_undo_11 : decode cX5_undo 11 = .ok (.ireturn, 1) := by decide +kernel
theorem dX5_keep_0 : decode cX5_keep 0 = .ok (.aload_n 0, 1) := by decide +kernel
theorem dX5_keep_1 : decode cX5_keep 1 = .ok (.getfield 38, 3) := by decide +kernel
theorem dX5_keep_4 : decode cX5_keep 4 = .ok (.aload_n 0, 1) := by decide +kernel
theorem dX5_keep_5 : decode cX5_keep 5 = .ok (.getfield 10, 3) := by decide +kernel
theorem dX5_keep_8 : decode cX5_keep 8 = .ok (.invokevirtual 99, 3) := by decide +kernel
theorem dX5_keep_11 : decode cX5_keep 11 = .ok (.aload_n 0, 1) := by decide +kernel
theorem dX5_keep_12 : decode cX5_keep 12 = .ok (.getfield 10, 3) := by decide +kernel
theorem dX5_keep_15 : decode cX5_keep 15 = .ok (.getfield 102, 3) := by decide +kernel
theorem dX5_keep_18 : decode cX5_keep 18 = .ok (.ireturn, 1) := by decide +kernel
theorem dX5_restore_0 : decode cX5_restore 0 = .ok (.aload_n 0, 1) := by decide +kernel
theorem dX5_restore_1 : decode cX5_restore 1 = .ok (.getfield 16, 3) := by decide +kernel
theorem dX5_restore_4 : decode cX5_restore 4 = .ok (.aload_n 0, 1) := by decide +kernel
theorem dX5_restore_5 : decode cX5_restore 5 = .ok (.getfield 10, 3) := by decide +kernel
theorem dX5_restore_8 : decode cX5_restore 8 = .ok (.invokevirtual 49, 3) := by decide +kernel
theorem dX5_restore_11 : decode cX5_restore 11 = .ok (.aload_n 0, 1) := by decide +kernel
theorem dX5_restore_12 : decode cX5_restore 12 = .ok (.aload_n 0, 1) := by decide +kernel
theorem dX5_restore_13 : decode cX5_restore 13 = .ok (.getfield 38, 3) := by decide +kernel
theorem dX5_restore_16 : decode cX5_restore 16 = .ok (.aload_n 0, 1) := by decide +kernel
theorem dX5_restore_17 : decode cX5_restore 17 = .ok (.getfield 10, 3) := by decide +kernel
theorem dX5_restore_20 : decode cX5_restore 20 = .ok (.invokevirtual 105, 3) := by decide +kernel
theorem dX5_restore_23 : decode cX5_restore 23 = .ok (.invokevirtual 56, 3) := by decide +kernel
theorem dX5_restore_26 : decode cX5_restore 26 = .ok (.ireturn, 1) := by decide +kernel
theorem dX5_cellOf_0 : decode cX5_cellOf 0 = .ok (.iload_n 1, 1) := by decide +kernel
theorem dX5_cellOf_1 : decode cX5_cellOf 1 = .ok (.invokestatic 108, 3) := by decide +kernel
theorem dX5_cellOf_4 : decode cX5_cellOf 4 = .ok (.ifCond .ne 5, 3) := by decide +kernel
theorem dX5_cellOf_7 : decode cX5_cellOf 7 = .ok (.iconst (-1), 1) := by decide +kernel
theorem dX5_cellOf_8 : decode cX5_cellOf 8 = .ok (.ireturn, 1) := by decide +kernel
theorem dX5_cellOf_9 : decode cX5_cellOf 9 = .ok (.iload_n 2, 1) := by decide +kernel
theorem dX5_cellOf_10 : decode cX5_cellOf 10 = .ok (.tableswitch 72 0 3 #[30, 42, 54, 63], 30) := by decide +kernel
theorem dX5_cellOf_40 : decode cX5_cellOf 40 = .ok (.aload_n 0, 1) := by decide +kernel
theorem dX5_cellOf_41 : decode cX5_cellOf 41 = .ok (.getfield 10, 3) := by decide +kernel
theorem dX5_cellOf_44 : decode cX5_cellOf 44 = .ok (.getfield 112, 3) := by decide +kernel
theorem dX5_cellOf_47 : decode cX5_cellOf 47 = .ok (.iload_n 1, 1) := by decide +kernel
theorem dX5_cellOf_48 : decode cX5_cellOf 48 = .ok (.invokestatic 116, 3) := by decide +kernel
theorem dX5_cellOf_51 : decode cX5_cellOf 51 = .ok (.ireturn, 1) := by decide +kernel
theorem dX5_cellOf_52 : decode cX5_cellOf 52 = .ok (.aload_n 0, 1) := by decide +kernel
theorem dX5_cellOf_53 : decode cX5_cellOf 53 = .ok (.getfield 10, 3) := by decide +kernel
theorem dX5_cellOf_56 : decode cX5_cellOf 56 = .ok (.getfield 120, 3) := by decide +kernel
theorem dX5_cellOf_59 : decode cX5_cellOf 59 = .ok (.iload_n 1, 1) := by decide +kernel
theorem dX5_cellOf_60 : decode cX5_cellOf 60 = .ok (.invokestatic 116, 3) := by decide +kernel
theorem dX5_cellOf_63 : decode cX5_cellOf 63 = .ok (.ireturn, 1) := by decide +kernel
theorem dX5_cellOf_64 : decode cX5_cellOf 64 = .ok (.aload_n 0, 1) := by decide +kernel
theorem dX5_cellOf_65 : decode cX5_cellOf 65 = .ok (.getfield 10, 3) := by decide +kernel
theorem dX5_cellOf_68 : decode cX5_cellOf 68 = .ok (.iload_n 1, 1) := by decide +kernel
theorem dX5_cellOf_69 : decode cX5_cellOf 69 = .ok (.invokevirtual 123, 3) := by decide +kernel
theorem dX5_cellOf_72 : decode cX5_cellOf 72 = .ok (.ireturn, 1) := by decide +kernel
theorem dX5_cellOf_73 : decode cX5_cellOf 73 = .ok (.aload_n 0, 1) := by decide +kernel
theorem dX5_cellOf_74 : decode cX5_cellOf 74 = .ok (.getfield 10, 3) := by decide +kernel
theorem dX5_cellOf_77 : decode cX5_cellOf 77 = .ok (.iload_n 1, 1) := by decide +kernel
theorem dX5_cellOf_78 : decode cX5_cellOf 78 = .ok (.invokevirtual 126, 3) := by decide +kernel
theorem dX5_cellOf_81 : decode cX5_cellOf 81 = .ok (.ireturn, 1) := by decide +kernel
theorem dX5_cellOf_82 : decode cX5_cellOf 82 = .ok (.bipush (-2), 2) := by decide +kernel
theorem dX5_cellOf_84 : decode cX5_cellOf 84 = .ok (.ireturn, 1) := by decide +kernel
theorem dX5_boatOf_0 : decode cX5_boatOf 0 = .ok (.aload_n 0, 1) := by decide +kernel
theorem dX5_boatOf_1 : decode cX5_boatOf 1 = .ok (.getfield 10, 3) := by decide +kernel
theorem dX5_boatOf_4 : decode cX5_boatOf 4 = .ok (.iload_n 1, 1) := by decide +kernel
theorem dX5_boatOf_5 : decode cX5_boatOf 5 = .ok (.invokevirtual 129, 3) := by decide +kernel
theorem dX5_boatOf_8 : decode cX5_boatOf 8 = .ok (.ifCond .ne 5, 3) := by decide +kernel
theorem dX5_boatOf_11 : decode cX5_boatOf 11 = .ok (.iconst (-1), 1) := by decide +kernel
theorem dX5_boatOf_12 : decode cX5_boatOf 12 = .ok (.ireturn, 1) := by decide +kernel
theorem dX5_boatOf_13 : decode cX5_boatOf 13 = .ok (.iload_n 2, 1) := by decide +kernel
theorem dX5_boatOf_14 : decode cX5_boatOf 14 = .ok (.tableswitch 155 0 6 #[42, 54, 66, 78, 106, 134, 146], 42) := by decide +kernel
theorem dX5_boatOf_56 : decode cX5_boatOf 56 = .ok (.aload_n 0, 1) := by decide +kernel
theorem dX5_boatOf_57 : decode cX5_boatOf 57 = .ok (.getfield 10, 3) := by decide +kernel
theorem dX5_boatOf_60 : decode cX5_boatOf 60 = .ok (.getfield 132, 3) := by decide +kernel
theorem dX5_boatOf_63 : decode cX5_boatOf 63 = .ok (.iload_n 1, 1) := by decide +kernel
theorem dX5_boatOf_64 : decode cX5_boatOf 64 = .ok (.invokestatic 116, 3) := by decide +kernel
theorem dX5_boatOf_67 : decode cX5_boatOf 67 = .ok (.ireturn, 1) := by decide +kernel
theorem dX5_boatOf_68 : decode cX5_boatOf 68 = .ok (.aload_n 0, 1) := by decide +kernel
theorem dX5_boatOf_69 : decode cX5_boatOf 69 = .ok (.getfield 10, 3) := by decide +kernel
theorem dX5_boatOf_72 : decode cX5_boatOf 72 = .ok (.getfield 135, 3) := by decide +kernel
theorem dX5_boatOf_75 : decode cX5_boatOf 75 = .ok (.iload_n 1, 1) := by decide +kernel
theorem dX5_boatOf_76 : decode cX5_boatOf 76 = .ok (.invokestatic 116, 3) := by decide +kernel
theorem dX5_boatOf_79 : decode cX5_boatOf 79 = .ok (.ireturn, 1) := by decide +kernel
theorem dX5_boatOf_80 : decode cX5_boatOf 80 = .ok (.aload_n 0, 1) := by decide +kernel
theorem dX5_boatOf_81 : decode cX5_boatOf 81 = .ok (.getfield 10, 3) := by decide +kernel
theorem dX5_boatOf_84 : decode cX5_boatOf 84 = .ok (.getfield 138, 3) := by decide +kernel
theorem dX5_boatOf_87 : decode cX5_boatOf 87 = .ok (.iload_n 1, 1) := by decide +kernel
theorem dX5_boatOf_88 : decode cX5_boatOf 88 = .ok (.invokestatic 116, 3) := by decide +kernel
theorem dX5_boatOf_91 : decode cX5_boatOf 91 = .ok (.ireturn, 1) := by decide +kernel
theorem dX5_boatOf_92 : decode cX5_boatOf 92 = .ok (.aload_n 0, 1) := by decide +kernel
theorem dX5_boatOf_93 : decode cX5_boatOf 93 = .ok (.getfield 10, 3) := by decide +kernel
theorem dX5_boatOf_96 : decode cX5_boatOf 96 = .ok (.iload_n 1, 1) := by decide +kernel
theorem dX5_boatOf_97 : decode cX5_boatOf 97 = .ok (.invokevirtual 141, 3) := by decide +kernel
theorem dX5_boatOf_100 : decode cX5_boatOf 100 = .ok (.ifCond .eq 17, 3) := by decide +kernel
theorem dX5_boatOf_103 : decode cX5_boatOf 103 = .ok (.aload_n 0, 1) := by decide +kernel
theorem dX5_boatOf_104 : decode cX5_boatOf 104 = .ok (.getfield 10, 3) := by decide +kernel
theorem dX5_boatOf_107 : decode cX5_boatOf 107 = .ok (.getfield 144, 3) := by decide +kernel
theorem dX5_boatOf_110 : decode cX5_boatOf 110 = .ok (.iload_n 1, 1) := by decide +kernel
theorem dX5_boatOf_111 : decode cX5_boatOf 111 = .ok (.invokestatic 116, 3) := by decide +kernel
theorem dX5_boatOf_114 : decode cX5_boatOf 114 = .ok (.goto 5, 3) := by decide +kernel
theorem dX5_boatOf_117 : decode cX5_boatOf 117 = .ok (.bipush (-5), 2) := by decide +kernel
theorem dX5_boatOf_119 : decode cX5_boatOf 119 = .ok (.ireturn, 1) := by decide +kernel
theorem dX5_boatOf_120 : decode cX5_boatOf 120 = .ok (.aload_n 0, 1) := by decide +kernel
theorem dX5_boatOf_121 : decode cX5_boatOf 121 = .ok (.getfield 10, 3) := by decide +kernel
theorem dX5_boatOf_124 : decode cX5_boatOf 124 = .ok (.iload_n 1, 1) := by decide +kernel
theorem dX5_boatOf_125 : decode cX5_boatOf 125 = .ok (.invokevirtual 141, 3) := by decide +kernel
theorem dX5_boatOf_128 : decode cX5_boatOf 128 = .ok (.ifCond .eq 18, 3) := by decide +kernel
theorem dX5_boatOf_131 : decode cX5_boatOf 131 = .ok (.aload_n 0, 1) := by decide +kernel
theorem dX5_boatOf_132 : decode cX5_boatOf 132 = .ok (.getfield 10, 3) := by decide +kernel
theorem dX5_boatOf_135 : decode cX5_boatOf 135 = .ok (.iload_n 1, 1) := by decide +kernel
theorem dX5_boatOf_136 : decode cX5_boatOf 136 = .ok (.invokevirtual 147, 3) := by decide +kernel
theorem dX5_boatOf_139 : decode cX5_boatOf 139 = .ok (.ifCond .eq 7, 3) := by decide +kernel
theorem dX5_boatOf_142 : decode cX5_boatOf 142 = .ok (.iconst 1, 1) := by decide +kernel
theorem dX5_boatOf_143 : decode cX5_boatOf 143 = .ok (.goto 4, 3) := by decide +kernel
theorem dX5_boatOf_146 : decode cX5_boatOf 146 = .ok (.iconst 0, 1) := by decide +kernel
theorem dX5_boatOf_147 : decode cX5_boatOf 147 = .ok (.ireturn, 1) := by decide +kernel
theorem dX5_boatOf_148 : decode cX5_boatOf 148 = .ok (.aload_n 0, 1) := by decide +kernel
theorem dX5_boatOf_149 : decode cX5_boatOf 149 = .ok (.getfield 10, 3) := by decide +kernel
theorem dX5_boatOf_152 : decode cX5_boatOf 152 = .ok (.getfield 150, 3) := by decide +kernel
theorem dX5_boatOf_155 : decode cX5_boatOf 155 = .ok (.iload_n 1, 1) := by decide +kernel
theorem dX5_boatOf_156 : decode cX5_boatOf 156 = .ok (.invokestatic 116, 3) := by decide +kernel
theorem dX5_boatOf_159 : decode cX5_boatOf 159 = .ok (.ireturn, 1) := by decide +kernel
theorem dX5_boatOf_160 : decode cX5_boatOf 160 = .ok (.aload_n 0, 1) := by decide +kernel
theorem dX5_boatOf_161 : decode cX5_boatOf 161 = .ok (.getfield 24, 3) := by decide +kernel
theorem dX5_boatOf_164 : decode cX5_boatOf 164 = .ok (.iload_n 1, 1) := by decide +kernel
theorem dX5_boatOf_165 : decode cX5_boatOf 165 = .ok (.invokevirtual 153, 3) := by decide +kernel
theorem dX5_boatOf_168 : decode cX5_boatOf 168 = .ok (.ireturn, 1) := by decide +kernel
theorem dX5_boatOf_169 : decode cX5_boatOf 169 = .ok (.bipush (-2), 2) := by decide +kernel
theorem dX5_boatOf_171 : decode cX5_boatOf 171 = .ok (.ireturn, 1) := by decide +kernel
theorem dX5_tide_0 : decode cX5_tide 0 = .ok (.iload_n 1, 1) := by decide +kernel
theorem dX5_tide_1 : decode cX5_tide 1 = .ok (.ifCond .lt 10, 3) := by decide +kernel
theorem dX5_tide_4 : decode cX5_tide 4 = .ok (.iload_n 1, 1) := by decide +kernel
theorem dX5_tide_5 : decode cX5_tide 5 = .ok (.sipush 1000, 3) := by decide +kernel
theorem dX5_tide_8 : decode cX5_tide 8 = .ok (.if_icmp .le 7, 3) := by decide +kernel
theorem dX5_tide_11 : decode cX5_tide 11 = .ok (.iconst (-1), 1) := by decide +kernel
theorem dX5_tide_12 : decode cX5_tide 12 = .ok (.goto 11, 3) := by decide +kernel
theorem dX5_tide_15 : decode cX5_tide 15 = .ok (.aload_n 0, 1) := by decide +kernel
theorem dX5_tide_16 : decode cX5_tide 16 = .ok (.getfield 10, 3) := by decide +kernel
theorem dX5_tide_19 : decode cX5_tide 19 = .ok (.iload_n 1, 1) := by decide +kernel
theorem dX5_tide_20 : decode cX5_tide 20 = .ok (.invokevirtual 156, 3) := by decide +kernel
theorem dX5_tide_23 : decode cX5_tide 23 = .ok (.ireturn, 1) := by decide +kernel
theorem dX5_why_0 : decode cX5_why 0 = .ok (.aload_n 0, 1) := by decide +kernel
theorem dX5_why_1 : decode cX5_why 1 = .ok (.getfield 24, 3) := by decide +kernel
theorem dX5_why_4 : decode cX5_why 4 = .ok (.iload_n 1, 1) := by decide +kernel
theorem dX5_why_5 : decode cX5_why 5 = .ok (.iload_n 2, 1) := by decide +kernel
theorem dX5_why_6 : decode cX5_why 6 = .ok (.iload_n 3, 1) := by decide +kernel
theorem dX5_why_7 : decode cX5_why 7 = .ok (.invokevirtual 159, 3) := by decide +kernel
theorem dX5_why_10 : decode cX5_why 10 = .ok (.istore 4, 2) := by decide +kernel
theorem dX5_why_12 : decode cX5_why 12 = .ok (.iload 4, 2) := by decide +kernel
theorem dX5_why_14 : decode cX5_why 14 = .ok (.ifCond .eq 8, 3) := by decide +kernel
theorem dX5_why_17 : decode cX5_why 17 = .ok (.iload 4, 2) := by decide +kernel
theorem dX5_why_19 : decode cX5_why 19 = .ok (.goto 14, 3) := by decide +kernel
theorem dX5_why_22 : decode cX5_why 22 = .ok (.aload_n 0, 1) := by decide +kernel
theorem dX5_why_23 : decode cX5_why 23 = .ok (.getfield 24, 3) := by decide +kernel
theorem dX5_why_26 : decode cX5_why 26 = .ok (.iload_n 1, 1) := by decide +kernel
theorem dX5_why_27 : decode cX5_why 27 = .ok (.iload_n 2, 1) := by decide +kernel
theorem dX5_why_28 : decode cX5_why 28 = .ok (.iload_n 3, 1) := by decide +kernel
theorem dX5_why_29 : decode cX5_why 29 = .ok (.iconst 0, 1) := by decide +kernel
theorem dX5_why_30 : decode cX5_why 30 = .ok (.invokevirtual 162, 3) := by decide +kernel
theorem dX5_why_33 : decode cX5_why 33 = .ok (.ireturn, 1) := by decide +kernel
theorem dX5_count_0 : decode cX5_count 0 = .ok (.iload_n 1, 1) := by decide +kernel
theorem dX5_count_1 : decode cX5_count 1 = .ok (.tableswitch 260 0 18 #[91, 99, 107, 122, 131, 140, 148, 157, 166, 175, 183, 191, 207, 212, 220, 228, 236, 244, 252], 91) := by decide +kernel
theorem dX5_count_92 : decode cX5_count 92 = .ok (.aload_n 0, 1) := by decide +kernel
theorem dX5_count_93 : decode cX5_count 93 = .ok (.getfield 10, 3) := by decide +kernel
theorem dX5_count_96 : decode cX5_count 96 = .ok (.getfield 102, 3) := by decide +kernel
theorem dX5_count_99 : decode cX5_count 99 = .ok (.ireturn, 1) := by decide +kernel
theorem dX5_count_100 : decode cX5_count 100 = .ok (.aload_n 0, 1) := by decide +kernel
theorem dX5_count_101 : decode cX5_count 101 = .ok (.getfield 10, 3) := by decide +kernel
theorem dX5_count_104 : decode cX5_count 104 = .ok (.invokevirtual 166, 3) := by decide +kernel
theorem dX5_count_107 : decode cX5_count 107 = .ok (.ireturn, 1) := by decide +kernel
theorem dX5_count_108 : decode cX5_count 108 = .ok (.aload_n 0, 1) := by decide +kernel
theorem dX5_count_109 : decode cX5_count 109 = .ok (.getfield 10, 3) := by decide +kernel
theorem dX5_count_112 : decode cX5_count 112 = .ok (.aload_n 0, 1) := by decide +kernel
theorem dX5_count_113 : decode cX5_count 113 = .ok (.getfield 10, 3) := by decide +kernel
theorem dX5_count_116 : decode cX5_count 116 = .ok (.getfield 102, 3) := by decide +kernel
theorem dX5_count_119 : decode cX5_count 119 = .ok (.invokevirtual 156, 3) := by decide +kernel
theorem dX5_count_122 : decode cX5_count 122 = .ok (.ireturn, 1) := by decide +kernel
theorem dX5_count_123 : decode cX5_count 123 = .ok (.aload_n 0, 1) := by decide +kernel
theorem dX5_count_124 : decode cX5_count 124 = .ok (.getfield 10, 3) := by decide +kernel
theorem dX5_count_127 : decode cX5_count 127 = .ok (.iconst 0, 1) := by decide +kernel
theorem dX5_count_128 : decode cX5_count 128 = .ok (.invokevirtual 169, 3) := by decide +kernel
theorem dX5_count_131 : decode cX5_count 131 = .ok (.ireturn, 1) := by decide +kernel
theorem dX5_count_132 : decode cX5_count 132 = .ok (.aload_n 0, 1) := by decide +kernel
theorem dX5_count_133 : decode cX5_count 133 = .ok (.getfield 10, 3) := by decide +kernel
theorem dX5_count_136 : decode cX5_count 136 = .ok (.iconst 1, 1) := by decide +kernel
theorem dX5_count_137 : decode cX5_count 137 = .ok (.invokevirtual 169, 3) := by decide +kernel
theorem dX5_count_140 : decode cX5_count 140 = .ok (.ireturn, 1) := by decide +kernel
theorem dX5_count_141 : decode cX5_count 141 = .ok (.aload_n 0, 1) := by decide +kernel
theorem dX5_count_142 : decode cX5_count 142 = .ok (.getfield 10, 3) := by decide +kernel
theorem dX5_count_145 : decode cX5_count 145 = .ok (.getfield 172, 3) := by decide +kernel
theorem dX5_count_148 : decode cX5_count 148 = .ok (.ireturn, 1) := by decide +kernel
theorem dX5_count_149 : decode cX5_count 149 = .ok (.aload_n 0, 1) := by decide +kernel
theorem dX5_count_150 : decode cX5_count 150 = .ok (.getfield 10, 3) := by decide +kernel
theorem dX5_count_153 : decode cX5_count 153 = .ok (.iconst 0, 1) := by decide +kernel
theorem dX5_count_154 : decode cX5_count 154 = .ok (.invokevirtual 175, 3) := by decide +kernel
end
section
theorem dX5_count_157 : decode cX5_count 157 = .ok (.ireturn, 1) := by decide +kernel
theorem dX5_count_158 : decode cX5_count 158 = .ok (.aload_n 0, 1) := by decide +kernel
theorem dX5_count_159 : decode cX5_count 159 = .ok (.getfield 10, 3) := by decide +kernel
theorem dX5_count_162 : decode cX5_count 162 = .ok (.iconst 1, 1) := by decide +kernel
theorem dX5_count_163 : decode cX5_count 163 = .ok (.invokevirtual 175, 3) := by decide +kernel
theorem dX5_count_166 : decode cX5_count 166 = .ok (.ireturn, 1) := by decide +kernel
theorem dX5_count_167 : decode cX5_count 167 = .ok (.aload_n 0, 1) := by decide +kernel
theorem dX5_count_168 : decode cX5_count 168 = .ok (.getfield 10, 3) := by decide +kernel
theorem dX5_count_171 : decode cX5_count 171 = .ok (.iconst 2, 1) := by decide +kernel
theorem dX5_count_172 : decode cX5_count 172 = .ok (.invokevirtual 175, 3) := by decide +kernel
theorem dX5_count_175 : decode cX5_count 175 = .ok (.ireturn, 1) := by decide +kernel
theorem dX5_count_176 : decode cX5_count 176 = .ok (.aload_n 0, 1) := by decide +kernel
theorem dX5_count_177 : decode cX5_count 177 = .ok (.getfield 10, 3) := by decide +kernel
theorem dX5_count_180 : decode cX5_count 180 = .ok (.invokevirtual 178, 3) := by decide +kernel
theorem dX5_count_183 : decode cX5_count 183 = .ok (.ireturn, 1) := by decide +kernel
theorem dX5_count_184 : decode cX5_count 184 = .ok (.aload_n 0, 1) := by decide +kernel
theorem dX5_count_185 : decode cX5_count 185 = .ok (.getfield 10, 3) := by decide +kernel
theorem dX5_count_188 : decode cX5_count 188 = .ok (.getfield 181, 3) := by decide +kernel
theorem dX5_count_191 : decode cX5_count 191 = .ok (.ireturn, 1) := by decide +kernel
theorem dX5_count_192 : decode cX5_count 192 = .ok (.aload_n 0, 1) := by decide +kernel
theorem dX5_count_193 : decode cX5_count 193 = .ok (.getfield 10, 3) := by decide +kernel
theorem dX5_count_196 : decode cX5_count 196 = .ok (.invokevirtual 184, 3) := by decide +kernel
theorem dX5_count_199 : decode cX5_count 199 = .ok (.ifCond .eq 7, 3) := by decide +kernel
theorem dX5_count_202 : decode cX5_count 202 = .ok (.iconst 1, 1) := by decide +kernel
theorem dX5_count_203 : decode cX5_count 203 = .ok (.goto 4, 3) := by decide +kernel
theorem dX5_count_206 : decode cX5_count 206 = .ok (.iconst 0, 1) := by decide +kernel
theorem dX5_count_207 : decode cX5_count 207 = .ok (.ireturn, 1) := by decide +kernel
theorem dX5_count_208 : decode cX5_count 208 = .ok (.aload_n 0, 1) := by decide +kernel
theorem dX5_count_209 : decode cX5_count 209 = .ok (.invokevirtual 188, 3) := by decide +kernel
theorem dX5_count_212 : decode cX5_count 212 = .ok (.ireturn, 1) := by decide +kernel
theorem dX5_count_213 : decode cX5_count 213 = .ok (.aload_n 0, 1) := by decide +kernel
theorem dX5_count_214 : decode cX5_count 214 = .ok (.getfield 38, 3) := by decide +kernel
theorem dX5_count_217 : decode cX5_count 217 = .ok (.getfield 191, 3) := by decide +kernel
theorem dX5_count_220 : decode cX5_count 220 = .ok (.ireturn, 1) := by decide +kernel
theorem dX5_count_221 : decode cX5_count 221 = .ok (.aload_n 0, 1) := by decide +kernel
theorem dX5_count_222 : decode cX5_count 222 = .ok (.getfield 45, 3) := by decide +kernel
theorem dX5_count_225 : decode cX5_count 225 = .ok (.getfield 85, 3) := by decide +kernel
theorem dX5_count_228 : decode cX5_count 228 = .ok (.ireturn, 1) := by decide +kernel
theorem dX5_count_229 : decode cX5_count 229 = .ok (.aload_n 0, 1) := by decide +kernel
theorem dX5_count_230 : decode cX5_count 230 = .ok (.getfield 10, 3) := by decide +kernel
theorem dX5_count_233 : decode cX5_count 233 = .ok (.getfield 194, 3) := by decide +kernel
theorem dX5_count_236 : decode cX5_count 236 = .ok (.ireturn, 1) := by decide +kernel
theorem dX5_count_237 : decode cX5_count 237 = .ok (.aload_n 0, 1) := by decide +kernel
theorem dX5_count_238 : decode cX5_count 238 = .ok (.getfield 10, 3) := by decide +kernel
theorem dX5_count_241 : decode cX5_count 241 = .ok (.getfield 197, 3) := by decide +kernel
theorem dX5_count_244 : decode cX5_count 244 = .ok (.ireturn, 1) := by decide +kernel
theorem dX5_count_245 : decode cX5_count 245 = .ok (.aload_n 0, 1) := by decide +kernel
theorem dX5_count_246 : decode cX5_count 246 = .ok (.getfield 10, 3) := by decide +kernel
theorem dX5_count_249 : decode cX5_count 249 = .ok (.getfield 200, 3) := by decide +kernel
theorem dX5_count_252 : decode cX5_count 252 = .ok (.ireturn, 1) := by decide +kernel
theorem dX5_count_253 : decode cX5_count 253 = .ok (.aload_n 0, 1) := by decide +kernel
theorem dX5_count_254 : decode cX5_count 254 = .ok (.getfield 10, 3) := by decide +kernel
theorem dX5_count_257 : decode cX5_count 257 = .ok (.getfield 203, 3) := by decide +kernel
theorem dX5_count_260 : decode cX5_count 260 = .ok (.ireturn, 1) := by decide +kernel
theorem dX5_count_261 : decode cX5_count 261 = .ok (.bipush (-2), 2) := by decide +kernel
theorem dX5_count_263 : decode cX5_count 263 = .ok (.ireturn, 1) := by decide +kernel
theorem dX5_afloat_0 : decode cX5_afloat 0 = .ok (.aload_n 0, 1) := by decide +kernel
theorem dX5_afloat_1 : decode cX5_afloat 1 = .ok (.getfield 10, 3) := by decide +kernel
theorem dX5_afloat_4 : decode cX5_afloat 4 = .ok (.invokevirtual 206, 3) := by decide +kernel
theorem dX5_afloat_7 : decode cX5_afloat 7 = .ok (.istore_n 3, 1) := by decide +kernel
theorem dX5_afloat_8 : decode cX5_afloat 8 = .ok (.iload_n 1, 1) := by decide +kernel
theorem dX5_afloat_9 : decode cX5_afloat 9 = .ok (.invokestatic 108, 3) := by decide +kernel
theorem dX5_afloat_12 : decode cX5_afloat 12 = .ok (.ifCond .eq 15, 3) := by decide +kernel
theorem dX5_afloat_15 : decode cX5_afloat 15 = .ok (.iload_n 2, 1) := by decide +kernel
theorem dX5_afloat_16 : decode cX5_afloat 16 = .ok (.invokestatic 209, 3) := by decide +kernel
theorem dX5_afloat_19 : decode cX5_afloat 19 = .ok (.ifCond .eq 8, 3) := by decide +kernel
theorem dX5_afloat_22 : decode cX5_afloat 22 = .ok (.iload_n 3, 1) := by decide +kernel
theorem dX5_afloat_23 : decode cX5_afloat 23 = .ok (.iconst 1, 1) := by decide +kernel
theorem dX5_afloat_24 : decode cX5_afloat 24 = .ok (.if_icmp .ge 6, 3) := by decide +kernel
theorem dX5_afloat_27 : decode cX5_afloat 27 = .ok (.ldc 212, 2) := by decide +kernel
theorem dX5_afloat_29 : decode cX5_afloat 29 = .ok (.freturn, 1) := by decide +kernel
theorem dX5_afloat_30 : decode cX5_afloat 30 = .ok (.iconst 0, 1) := by decide +kernel
theorem dX5_afloat_31 : decode cX5_afloat 31 = .ok (.istore 4, 2) := by decide +kernel
theorem dX5_afloat_33 : decode cX5_afloat 33 = .ok (.iconst 0, 1) := by decide +kernel
theorem dX5_afloat_34 : decode cX5_afloat 34 = .ok (.istore 5, 2) := by decide +kernel
theorem dX5_afloat_36 : decode cX5_afloat 36 = .ok (.iload 5, 2) := by decide +kernel
theorem dX5_afloat_38 : decode cX5_afloat 38 = .ok (.iload_n 3, 1) := by decide +kernel
theorem dX5_afloat_39 : decode cX5_afloat 39 = .ok (.if_icmp .ge 26, 3) := by decide +kernel
theorem dX5_afloat_42 : decode cX5_afloat 42 = .ok (.aload_n 0, 1) := by decide +kernel
theorem dX5_afloat_43 : decode cX5_afloat 43 = .ok (.getfield 10, 3) := by decide +kernel
theorem dX5_afloat_46 : decode cX5_afloat 46 = .ok (.iload_n 1, 1) := by decide +kernel
theorem dX5_afloat_47 : decode cX5_afloat 47 = .ok (.iload_n 2, 1) := by decide +kernel
theorem dX5_afloat_48 : decode cX5_afloat 48 = .ok (.iload 5, 2) := by decide +kernel
theorem dX5_afloat_50 : decode cX5_afloat 50 = .ok (.invokevirtual 213, 3) := by decide +kernel
theorem dX5_afloat_53 : decode cX5_afloat 53 = .ok (.ifCond .eq 6, 3) := by decide +kernel
theorem dX5_afloat_56 : decode cX5_afloat 56 = .ok (.iinc 4 1, 3) := by decide +kernel
theorem dX5_afloat_59 : decode cX5_afloat 59 = .ok (.iinc 5 1, 3) := by decide +kernel
theorem dX5_afloat_62 : decode cX5_afloat 62 = .ok (.goto (-26), 3) := by decide +kernel
theorem dX5_afloat_65 : decode cX5_afloat 65 = .ok (.iload 4, 2) := by decide +kernel
theorem dX5_afloat_67 : decode cX5_afloat 67 = .ok (.i2f, 1) := by decide +kernel
theorem dX5_afloat_68 : decode cX5_afloat 68 = .ok (.iload_n 3, 1) := by decide +kernel
theorem dX5_afloat_69 : decode cX5_afloat 69 = .ok (.i2f, 1) := by decide +kernel
theorem dX5_afloat_70 : decode cX5_afloat 70 = .ok (.fdiv, 1) := by decide +kernel
theorem dX5_afloat_71 : decode cX5_afloat 71 = .ok (.freturn, 1) := by decide +kernel
theorem dX5_floatsIn_0 : decode cX5_floatsIn 0 = .ok (.aload_n 0, 1) := by decide +kernel
theorem dX5_floatsIn_1 : decode cX5_floatsIn 1 = .ok (.getfield 10, 3) := by decide +kernel
theorem dX5_floatsIn_4 : decode cX5_floatsIn 4 = .ok (.iload_n 1, 1) := by decide +kernel
theorem dX5_floatsIn_5 : decode cX5_floatsIn 5 = .ok (.invokevirtual 129, 3) := by decide +kernel
theorem dX5_floatsIn_8 : decode cX5_floatsIn 8 = .ok (.ifCond .ne 5, 3) := by decide +kernel
theorem dX5_floatsIn_11 : decode cX5_floatsIn 11 = .ok (.iconst (-1), 1) := by decide +kernel
theorem dX5_floatsIn_12 : decode cX5_floatsIn 12 = .ok (.ireturn, 1) := by decide +kernel
theorem dX5_floatsIn_13 : decode cX5_floatsIn 13 = .ok (.aload_n 0, 1) := by decide +kernel
theorem dX5_floatsIn_14 : decode cX5_floatsIn 14 = .ok (.getfield 10, 3) := by decide +kernel
theorem dX5_floatsIn_17 : decode cX5_floatsIn 17 = .ok (.iload_n 1, 1) := by decide +kernel
theorem dX5_floatsIn_18 : decode cX5_floatsIn 18 = .ok (.invokevirtual 141, 3) := by decide +kernel
theorem dX5_floatsIn_21 : decode cX5_floatsIn 21 = .ok (.ifCond .ne 6, 3) := by decide +kernel
theorem dX5_floatsIn_24 : decode cX5_floatsIn 24 = .ok (.bipush (-4), 2) := by decide +kernel
theorem dX5_floatsIn_26 : decode cX5_floatsIn 26 = .ok (.ireturn, 1) := by decide +kernel
theorem dX5_floatsIn_27 : decode cX5_floatsIn 27 = .ok (.aload_n 0, 1) := by decide +kernel
theorem dX5_floatsIn_28 : decode cX5_floatsIn 28 = .ok (.getfield 10, 3) := by decide +kernel
theorem dX5_floatsIn_31 : decode cX5_floatsIn 31 = .ok (.getfield 144, 3) := by decide +kernel
theorem dX5_floatsIn_34 : decode cX5_floatsIn 34 = .ok (.iload_n 1, 1) := by decide +kernel
theorem dX5_floatsIn_35 : decode cX5_floatsIn 35 = .ok (.invokestatic 116, 3) := by decide +kernel
theorem dX5_floatsIn_38 : decode cX5_floatsIn 38 = .ok (.istore_n 2, 1) := by decide +kernel
theorem dX5_floatsIn_39 : decode cX5_floatsIn 39 = .ok (.aload_n 0, 1) := by decide +kernel
theorem dX5_floatsIn_40 : decode cX5_floatsIn 40 = .ok (.getfield 10, 3) := by decide +kernel
theorem dX5_floatsIn_43 : decode cX5_floatsIn 43 = .ok (.getfield 135, 3) := by decide +kernel
theorem dX5_floatsIn_46 : decode cX5_floatsIn 46 = .ok (.iload_n 1, 1) := by decide +kernel
theorem dX5_floatsIn_47 : decode cX5_floatsIn 47 = .ok (.invokestatic 116, 3) := by decide +kernel
theorem dX5_floatsIn_50 : decode cX5_floatsIn 50 = .ok (.istore_n 3, 1) := by decide +kernel
theorem dX5_floatsIn_51 : decode cX5_floatsIn 51 = .ok (.aload_n 0, 1) := by decide +kernel
theorem dX5_floatsIn_52 : decode cX5_floatsIn 52 = .ok (.getfield 10, 3) := by decide +kernel
theorem dX5_floatsIn_55 : decode cX5_floatsIn 55 = .ok (.invokevirtual 206, 3) := by decide +kernel
theorem dX5_floatsIn_58 : decode cX5_floatsIn 58 = .ok (.istore 4, 2) := by decide +kernel
theorem dX5_floatsIn_60 : decode cX5_floatsIn 60 = .ok (.iconst 0, 1) := by decide +kernel
theorem dX5_floatsIn_61 : decode cX5_floatsIn 61 = .ok (.istore 5, 2) := by decide +kernel
theorem dX5_floatsIn_63 : decode cX5_floatsIn 63 = .ok (.iload 5, 2) := by decide +kernel
theorem dX5_floatsIn_65 : decode cX5_floatsIn 65 = .ok (.iload 4, 2) := by decide +kernel
theorem dX5_floatsIn_67 : decode cX5_floatsIn 67 = .ok (.if_icmp .ge 34, 3) := by decide +kernel
theorem dX5_floatsIn_70 : decode cX5_floatsIn 70 = .ok (.aload_n 0, 1) := by decide +kernel
theorem dX5_floatsIn_71 : decode cX5_floatsIn 71 = .ok (.getfield 10, 3) := by decide +kernel
theorem dX5_floatsIn_74 : decode cX5_floatsIn 74 = .ok (.iload_n 2, 1) := by decide +kernel
theorem dX5_floatsIn_75 : decode cX5_floatsIn 75 = .ok (.iload_n 3, 1) := by decide +kernel
theorem dX5_floatsIn_76 : decode cX5_floatsIn 76 = .ok (.aload_n 0, 1) := by decide +kernel
theorem dX5_floatsIn_77 : decode cX5_floatsIn 77 = .ok (.getfield 10, 3) := by decide +kernel
theorem dX5_floatsIn_80 : decode cX5_floatsIn 80 = .ok (.getfield 102, 3) := by decide +kernel
theorem dX5_floatsIn_83 : decode cX5_floatsIn 83 = .ok (.iload 5, 2) := by decide +kernel
theorem dX5_floatsIn_85 : decode cX5_floatsIn 85 = .ok (.iadd, 1) := by decide +kernel
theorem dX5_floatsIn_86 : decode cX5_floatsIn 86 = .ok (.invokevirtual 213, 3) := by decide +kernel
theorem dX5_floatsIn_89 : decode cX5_floatsIn 89 = .ok (.ifCond .eq 6, 3) := by decide +kernel
theorem dX5_floatsIn_92 : decode cX5_floatsIn 92 = .ok (.iload 5, 2) := by decide +kernel
theorem dX5_floatsIn_94 : decode cX5_floatsIn 94 = .ok (.ireturn, 1) := by decide +kernel
theorem dX5_floatsIn_95 : decode cX5_floatsIn 95 = .ok (.iinc 5 1, 3) := by decide +kernel
theorem dX5_floatsIn_98 : decode cX5_floatsIn 98 = .ok (.goto (-35), 3) := by decide +kernel
theorem dX5_floatsIn_101 : decode cX5_floatsIn 101 = .ok (.bipush (-5), 2) := by decide +kernel
theorem dX5_floatsIn_103 : decode cX5_floatsIn 103 = .ok (.ireturn, 1) := by decide +kernel
theorem dX5_homeIn_0 : decode cX5_homeIn 0 = .ok (.aload_n 0, 1) := by decide +kernel
theorem dX5_homeIn_1 : decode cX5_homeIn 1 = .ok (.getfield 10, 3) := by decide +kernel
theorem dX5_homeIn_4 : decode cX5_homeIn 4 = .ok (.iload_n 1, 1) := by decide +kernel
theorem dX5_homeIn_5 : decode cX5_homeIn 5 = .ok (.invokevirtual 129, 3) := by decide +kernel
theorem dX5_homeIn_8 : decode cX5_homeIn 8 = .ok (.ifCond .ne 5, 3) := by decide +kernel
theorem dX5_homeIn_11 : decode cX5_homeIn 11 = .ok (.iconst (-1), 1) := by decide +kernel
theorem dX5_homeIn_12 : decode cX5_homeIn 12 = .ok (.ireturn, 1) := by decide +kernel
theorem dX5_homeIn_13 : decode cX5_homeIn 13 = .ok (.iload_n 2, 1) := by decide +kernel
theorem dX5_homeIn_14 : decode cX5_homeIn 14 = .ok (.ifCond .eq 11, 3) := by decide +kernel
theorem dX5_homeIn_17 : decode cX5_homeIn 17 = .ok (.iload_n 2, 1) := by decide +kernel
theorem dX5_homeIn_18 : decode cX5_homeIn 18 = .ok (.iconst 1, 1) := by decide +kernel
theorem dX5_homeIn_19 : decode cX5_homeIn 19 = .ok (.if_icmp .eq 6, 3) := by decide +kernel
theorem dX5_homeIn_22 : decode cX5_homeIn 22 = .ok (.bipush (-2), 2) := by decide +kernel
theorem dX5_homeIn_24 : decode cX5_homeIn 24 = .ok (.ireturn, 1) := by decide +kernel
theorem dX5_homeIn_25 : decode cX5_homeIn 25 = .ok (.aload_n 0, 1) := by decide +kernel
theorem dX5_homeIn_26 : decode cX5_homeIn 26 = .ok (.getfield 10, 3) := by decide +kernel
theorem dX5_homeIn_29 : decode cX5_homeIn 29 = .ok (.iload_n 1, 1) := by decide +kernel
theorem dX5_homeIn_30 : decode cX5_homeIn 30 = .ok (.invokevirtual 141, 3) := by decide +kernel
theorem dX5_homeIn_33 : decode cX5_homeIn 33 = .ok (.ifCond .ne 6, 3) := by decide +kernel
theorem dX5_homeIn_36 : decode cX5_homeIn 36 = .ok (.bipush (-4), 2) := by decide +kernel
theorem dX5_homeIn_38 : decode cX5_homeIn 38 = .ok (.ireturn, 1) := by decide +kernel
theorem dX5_homeIn_39 : decode cX5_homeIn 39 = .ok (.aload_n 0, 1) := by decide +kernel
theorem dX5_homeIn_40 : decode cX5_homeIn 40 = .ok (.getfield 31, 3) := by decide +kernel
theorem dX5_homeIn_43 : decode cX5_homeIn 43 = .ok (.iload_n 1, 1) := by decide +kernel
theorem dX5_homeIn_44 : decode cX5_homeIn 44 = .ok (.invokevirtual 217, 3) := by decide +kernel
theorem dX5_homeIn_47 : decode cX5_homeIn 47 = .ok (.aload_n 0, 1) := by decide +kernel
theorem dX5_homeIn_48 : decode cX5_homeIn 48 = .ok (.getfield 10, 3) := by decide +kernel
theorem dX5_homeIn_51 : decode cX5_homeIn 51 = .ok (.getfield 144, 3) := by decide +kernel
theorem dX5_homeIn_54 : decode cX5_homeIn 54 = .ok (.iload_n 1, 1) := by decide +kernel
theorem dX5_homeIn_55 : decode cX5_homeIn 55 = .ok (.invokestatic 116, 3) := by decide +kernel
theorem dX5_homeIn_58 : decode cX5_homeIn 58 = .ok (.istore_n 3, 1) := by decide +kernel
theorem dX5_homeIn_59 : decode cX5_homeIn 59 = .ok (.iload_n 2, 1) := by decide +kernel
theorem dX5_homeIn_60 : decode cX5_homeIn 60 = .ok (.ifCond .ne 21, 3) := by decide +kernel
theorem dX5_homeIn_63 : decode cX5_homeIn 63 = .ok (.aload_n 0, 1) := by decide +kernel
theorem dX5_homeIn_64 : decode cX5_homeIn 64 = .ok (.getfield 31, 3) := by decide +kernel
theorem dX5_homeIn_67 : decode cX5_homeIn 67 = .ok (.iload_n 3, 1) := by decide +kernel
theorem dX5_homeIn_68 : decode cX5_homeIn 68 = .ok (.aload_n 0, 1) := by decide +kernel
theorem dX5_homeIn_69 : decode cX5_homeIn 69 = .ok (.getfield 10, 3) := by decide +kernel
theorem dX5_homeIn_72 : decode cX5_homeIn 72 = .ok (.getfield 102, 3) := by decide +kernel
theorem dX5_homeIn_75 : decode cX5_homeIn 75 = .ok (.invokevirtual 221, 3) := by decide +kernel
theorem dX5_homeIn_78 : decode cX5_homeIn 78 = .ok (.goto 18, 3) := by decide +kernel
theorem dX5_homeIn_81 : decode cX5_homeIn 81 = .ok (.aload_n 0, 1) := by decide +kernel
theorem dX5_homeIn_82 : decode cX5_homeIn 82 = .ok (.getfield 31, 3) := by decide +kernel
theorem dX5_homeIn_85 : decode cX5_homeIn 85 = .ok (.iload_n 3, 1) := by decide +kernel
theorem dX5_homeIn_86 : decode cX5_homeIn 86 = .ok (.aload_n 0, 1) := by decide +kernel
theorem dX5_homeIn_87 : decode cX5_homeIn 87 = .ok (.getfield 10, 3) := by decide +kernel
theorem dX5_homeIn_90 : decode cX5_homeIn 90 = .ok (.getfield 102, 3) := by decide +kernel
theorem dX5_homeIn_93 : decode cX5_homeIn 93 = .ok (.invokevirtual 224, 3) := by decide +kernel
theorem dX5_homeIn_96 : decode cX5_homeIn 96 = .ok (.ireturn, 1) := by decide +kernel
theorem dX5_inDanger_0 : decode cX5_inDanger 0 = .ok (.iload_n 1, 1) := by decide +kernel
theorem dX5_inDanger_1 : decode cX5_inDanger 1 = .ok (.invokestatic 227, 3) := by decide +kernel
theorem dX5_inDanger_4 : decode cX5_inDanger 4 = .ok (.ifCond .ne 5, 3) := by decide +kernel
theorem dX5_inDanger_7 : decode cX5_inDanger 7 = .ok (.iconst (-1), 1) := by decide +kernel
theorem dX5_inDanger_8 : decode cX5_inDanger 8 = .ok (.ireturn, 1) := by decide +kernel
theorem dX5_inDanger_9 : decode cX5_inDanger 9 = .ok (.aload_n 0, 1) := by decide +kernel
theorem dX5_inDanger_10 : decode cX5_inDanger 10 = .ok (.getfield 10, 3) := by decide +kernel
theorem dX5_inDanger_13 : decode cX5_inDanger 13 = .ok (.invokevirtual 184, 3) := by decide +kernel
theorem dX5_inDanger_16 : decode cX5_inDanger 16 = .ok (.ifCond .eq 5, 3) := by decide +kernel
theorem dX5_inDanger_19 : decode cX5_inDanger 19 = .ok (.iconst 0, 1) := by decide +kernel
theorem dX5_inDanger_20 : decode cX5_inDanger 20 = .ok (.ireturn, 1) := by decide +kernel
theorem dX5_inDanger_21 : decode cX5_inDanger 21 = .ok (.iconst 0, 1) := by decide +kernel
theorem dX5_inDanger_22 : decode cX5_inDanger 22 = .ok (.istore_n 2, 1) := by decide +kernel
theorem dX5_inDanger_23 : decode cX5_inDanger 23 = .ok (.iconst 0, 1) := by decide +kernel
theorem dX5_inDanger_24 : decode cX5_inDanger 24 = .ok (.istore_n 3, 1) := by decide +kernel
theorem dX5_inDanger_25 : decode cX5_inDanger 25 = .ok (.iload_n 3, 1) := by decide +kernel
theorem dX5_inDanger_26 : decode cX5_inDanger 26 = .ok (.aload_n 0, 1) := by decide +kernel
theorem dX5_inDanger_27 : decode cX5_inDanger 27 = .ok (.getfield 10, 3) := by decide +kernel
theorem dX5_inDanger_30 : decode cX5_inDanger 30 = .ok (.getfield 172, 3) := by decide +kernel
theorem dX5_inDanger_33 : decode cX5_inDanger 33 = .ok (.if_icmp .ge 41, 3) := by decide +kernel
theorem dX5_inDanger_36 : decode cX5_inDanger 36 = .ok (.aload_n 0, 1) := by decide +kernel
theorem dX5_inDanger_37 : decode cX5_inDanger 37 = .ok (.getfield 10, 3) := by decide +kernel
theorem dX5_inDanger_40 : decode cX5_inDanger 40 = .ok (.getfield 132, 3) := by decide +kernel
theorem dX5_inDanger_43 : decode cX5_inDanger 43 = .ok (.iload_n 3, 1) := by decide +kernel
theorem dX5_inDanger_44 : decode cX5_inDanger 44 = .ok (.invokestatic 116, 3) := by decide +kernel
theorem dX5_inDanger_47 : decode cX5_inDanger 47 = .ok (.iload_n 1, 1) := by decide +kernel
theorem dX5_inDanger_48 : decode cX5_inDanger 48 = .ok (.if_icmp .ne 20, 3) := by decide +kernel
theorem dX5_inDanger_51 : decode cX5_inDanger 51 = .ok (.aload_n 0, 1) := by decide +kernel
theorem dX5_inDanger_52 : decode cX5_inDanger 52 = .ok (.getfield 10, 3) := by decide +kernel
theorem dX5_inDanger_55 : decode cX5_inDanger 55 = .ok (.iload_n 3, 1) := by decide +kernel
theorem dX5_inDanger_56 : decode cX5_inDanger 56 = .ok (.invokevirtual 230, 3) := by decide +kernel
theorem dX5_inDanger_59 : decode cX5_inDanger 59 = .ok (.ifCond .eq 9, 3) := by decide +kernel
theorem dX5_inDanger_62 : decode cX5_inDanger 62 = .ok (.iload_n 2, 1) := by decide +kernel
theorem dX5_inDanger_63 : decode cX5_inDanger 63 = .ok (.iconst 1, 1) := by decide +kernel
theorem dX5_inDanger_64 : decode cX5_inDanger 64 = .ok (.iload_n 3, 1) := by decide +kernel
theorem dX5_inDanger_65 : decode cX5_inDanger 65 = .ok (.ishl, 1) := by decide +kernel
theorem dX5_inDanger_66 : decode cX5_inDanger 66 = .ok (.ior, 1) := by decide +kernel
theorem dX5_inDanger_67 : decode cX5_inDanger 67 = .ok (.istore_n 2, 1) := by decide +kernel
theorem dX5_inDanger_68 : decode cX5_inDanger 68 = .ok (.iinc 3 1, 3) := by decide +kernel
theorem dX5_inDanger_71 : decode cX5_inDanger 71 = .ok (.goto (-46), 3) := by decide +kernel
theorem dX5_inDanger_74 : decode cX5_inDanger 74 = .ok (.iload_n 2, 1) := by decide +kernel
theorem dX5_inDanger_75 : decode cX5_inDanger 75 = .ok (.ireturn, 1) := by decide +kernel
theorem dX5_best_0 : decode cX5_best 0 = .ok (.aload_n 0, 1) := by decide +kernel
theorem dX5_best_1 : decode cX5_best 1 = .ok (.getfield 10, 3) := by decide +kernel
theorem dX5_best_4 : decode cX5_best 4 = .ok (.invokevirtual 184, 3) := by decide +kernel
theorem dX5_best_7 : decode cX5_best 7 = .ok (.ifCond .eq 6, 3) := by decide +kernel
theorem dX5_best_10 : decode cX5_best 10 = .ok (.bipush (-4), 2) := by decide +kernel
theorem dX5_best_12 : decode cX5_best 12 = .ok (.ireturn, 1) := by decide +kernel
theorem dX5_best_13 : decode cX5_best 13 = .ok (.bipush (-5), 2) := by decide +kernel
theorem dX5_best_15 : decode cX5_best 15 = .ok (.istore_n 1, 1) := by decide +kernel
theorem dX5_best_16 : decode cX5_best 16 = .ok (.iconst 0, 1) := by decide +kernel
theorem dX5_best_17 : decode cX5_best 17 = .ok (.istore_n 2, 1) := by decide +kernel
theorem dX5_best_18 : decode cX5_best 18 = .ok (.iconst 0, 1) := by decide +kernel
theorem dX5_best_19 : decode cX5_best 19 = .ok (.istore_n 3, 1) := by decide +kernel
theorem dX5_best_20 : decode cX5_best 20 = .ok (.iload_n 3, 1) := by decide +kernel
theorem dX5_best_21 : decode cX5_best 21 = .ok (.aload_n 0, 1) := by decide +kernel
theorem dX5_best_22 : decode cX5_best 22 = .ok (.getfield 10, 3) := by decide +kernel
theorem dX5_best_25 : decode cX5_best 25 = .ok (.getfield 172, 3) := by decide +kernel
theorem dX5_best_28 : decode cX5_best 28 = .ok (.if_icmp .ge 73, 3) := by decide +kernel
theorem dX5_best_31 : decode cX5_best 31 = .ok (.iconst 0, 1) := by decide +kernel
theorem dX5_best_32 : decode cX5_best 32 = .ok (.istore 4, 2) := by decide +kernel
theorem dX5_best_34 : decode cX5_best 34 = .ok (.iload 4, 2) := by decide +kernel
theorem dX5_best_36 : decode cX5_best 36 = .ok (.iconst 4, 1) := by decide +kernel
theorem dX5_best_37 : decode cX5_best 37 = .ok (.if_icmp .ge 58, 3) := by decide +kernel
theorem dX5_best_40 : decode cX5_best 40 = .ok (.iconst 1, 1) := by decide +kernel
theorem dX5_best_41 : decode cX5_best 41 = .ok (.istore 5, 2) := by decide +kernel
theorem dX5_best_43 : decode cX5_best 43 = .ok (.iload 5, 2) := by decide +kernel
theorem dX5_best_45 : decode cX5_best 45 = .ok (.iconst 3, 1) := by decide +kernel
theorem dX5_best_46 : decode cX5_best 46 = .ok (.if_icmp .gt 43, 3) := by decide +kernel
theorem dX5_best_49 : decode cX5_best 49 = .ok (.aload_n 0, 1) := by decide +kernel
theorem dX5_best_50 : decode cX5_best 50 = .ok (.iload_n 3, 1) := by decide +kernel
theorem dX5_best_51 : decode cX5_best 51 = .ok (.iload 4, 2) := by decide +kernel
theorem dX5_best_53 : decode cX5_best 53 = .ok (.iload 5, 2) := by decide +kernel
theorem dX5_best_55 : decode cX5_best 55 = .ok (.invokevirtual 233, 3) := by decide +kernel
theorem dX5_best_58 : decode cX5_best 58 = .ok (.istore 6, 2) := by decide +kernel
theorem dX5_best_60 : decode cX5_best 60 = .ok (.iload 6, 2) := by decide +kernel
theorem dX5_best_62 : decode cX5_best 62 = .ok (.iload_n 2, 1) := by decide +kernel
theorem dX5_best_63 : decode cX5_best 63 = .ok (.if_icmp .le 20, 3) := by decide +kernel
theorem dX5_best_66 : decode cX5_best 66 = .ok (.iload 6, 2) := by decide +kernel
theorem dX5_best_68 : decode cX5_best 68 = .ok (.istore_n 2, 1) := by decide +kernel
theorem dX5_best_69 : decode cX5_best 69 = .ok (.bipush 100, 2) := by decide +kernel
theorem dX5_best_71 : decode cX5_best 71 = .ok (.iload_n 3, 1) := by decide +kernel
theorem dX5_best_72 : decode cX5_best 72 = .ok (.imul, 1) := by decide +kernel
theorem dX5_best_73 : decode cX5_best 73 = .ok (.bipush 10, 2) := by decide +kernel
theorem dX5_best_75 : decode cX5_best 75 = .ok (.iload 4, 2) := by decide +kernel
theorem dX5_best_77 : decode cX5_best 77 = .ok (.imul, 1) := by decide +kernel
theorem dX5_best_78 : decode cX5_best 78 = .ok (.iadd, 1) := by decide +kernel
theorem dX5_best_79 : decode cX5_best 79 = .ok (.iload 5, 2) := by decide +kernel
theorem dX5_best_81 : decode cX5_best 81 = .ok (.iadd, 1) := by decide +kernel
theorem dX5_best_82 : decode cX5_best 82 = .ok (.istore_n 1, 1) := by decide +kernel
theorem dX5_best_83 : decode cX5_best 83 = .ok (.iinc 5 1, 3) := by decide +kernel
theorem dX5_best_86 : decode cX5_best 86 = .ok (.goto (-43), 3) := by decide +kernel
theorem dX5_best_89 : decode cX5_best 89 = .ok (.iinc 4 1, 3) := by decide +kernel
theorem dX5_best_92 : decode cX5_best 92 = .ok (.goto (-58), 3) := by decide +kernel
theorem dX5_best_95 : decode cX5_best 95 = .ok (.iinc 3 1, 3) := by decide +kernel
theorem dX5_best_98 : decode cX5_best 98 = .ok (.goto (-78), 3) := by decide +kernel
theorem dX5_best_101 : decode cX5_best 101 = .ok (.iload_n 1, 1) := by decide +kernel
theorem dX5_best_102 : decode cX5_best 102 = .ok (.ireturn, 1) := by decide +kernel
theorem dX5_recorded_0 : decode cX5_recorded 0 = .ok (.iload_n 1, 1) := by decide +kernel
theorem dX5_recorded_1 : decode cX5_recorded 1 = .ok (.ifCond .lt 14, 3) := by decide +kernel
theorem dX5_recorded_4 : decode cX5_recorded 4 = .ok (.aload_n 0, 1) := by decide +kernel
theorem dX5_recorded_5 : decode cX5_recorded 5 = .ok (.getfield 38, 3) := by decide +kernel
theorem dX5_recorded_8 : decode cX5_recorded 8 = .ok (.aload_n 0, 1) := by decide +kernel
theorem dX5_recorded_9 : decode cX5_recorded 9 = .ok (.getfield 16, 3) := by decide +kernel
theorem dX5_recorded_12 : decode cX5_recorded 12 = .ok (.invokevirtual 236, 3) := by decide +kernel
theorem dX5_recorded_15 : decode cX5_recorded 15 = .ok (.iload_n 1, 1) := by decide +kernel
theorem dX5_recorded_16 : decode cX5_recorded 16 = .ok (.ireturn, 1) := by decide +kernel
theorem dX5_doOrder_0 : decode cX5_doOrder 0 = .ok (.aload_n 0, 1) := by decide +kernel
theorem dX5_doOrder_1 : decode cX5_doOrder 1 = .ok (.getfield 45, 3) := by decide +kernel
theorem dX5_doOrder_4 : decode cX5_doOrder 4 = .ok (.iload_n 1, 1) := by decide +kernel
theorem dX5_doOrder_5 : decode cX5_doOrder 5 = .ok (.invokevirtual 239, 3) := by decide +kernel
theorem dX5_doOrder_8 : decode cX5_doOrder 8 = .ok (.istore_n 2, 1) := by decide +kernel
theorem dX5_doOrder_9 : decode cX5_doOrder 9 = .ok (.iload_n 2, 1) := by decide +kernel
theorem dX5_doOrder_10 : decode cX5_doOrder 10 = .ok (.invokestatic 243, 3) := by decide +kernel
theorem dX5_doOrder_13 : decode cX5_doOrder 13 = .ok (.ifCond .eq 39, 3) := by decide +kernel
theorem dX5_doOrder_16 : decode cX5_doOrder 16 = .ok (.aload_n 0, 1) := by decide +kernel
theorem dX5_doOrder_17 : decode cX5_doOrder 17 = .ok (.getfield 24, 3) := by decide +kernel
theorem dX5_doOrder_20 : decode cX5_doOrder 20 = .ok (.aload_n 0, 1) := by decide +kernel
theorem dX5_doOrder_21 : decode cX5_doOrder 21 = .ok (.getfield 45, 3) := by decide +kernel
theorem dX5_doOrder_24 : decode cX5_doOrder 24 = .ok (.iload_n 1, 1) := by decide +kernel
theorem dX5_doOrder_25 : decode cX5_doOrder 25 = .ok (.invokevirtual 247, 3) := by decide +kernel
theorem dX5_doOrder_28 : decode cX5_doOrder 28 = .ok (.aload_n 0, 1) := by decide +kernel
theorem dX5_doOrder_29 : decode cX5_doOrder 29 = .ok (.getfield 45, 3) := by decide +kernel
theorem dX5_doOrder_32 : decode cX5_doOrder 32 = .ok (.iload_n 1, 1) := by decide +kernel
theorem dX5_doOrder_33 : decode cX5_doOrder 33 = .ok (.iconst 3, 1) := by decide +kernel
theorem dX5_doOrder_34 : decode cX5_doOrder 34 = .ok (.iadd, 1) := by decide +kernel
theorem dX5_doOrder_35 : decode cX5_doOrder 35 = .ok (.invokevirtual 250, 3) := by decide +kernel
theorem dX5_doOrder_38 : decode cX5_doOrder 38 = .ok (.aload_n 0, 1) := by decide +kernel
theorem dX5_doOrder_39 : decode cX5_doOrder 39 = .ok (.getfield 45, 3) := by decide +kernel
theorem dX5_doOrder_42 : decode cX5_doOrder 42 = .ok (.iload_n 1, 1) := by decide +kernel
theorem dX5_doOrder_43 : decode cX5_doOrder 43 = .ok (.iconst 4, 1) := by decide +kernel
theorem dX5_doOrder_44 : decode cX5_doOrder 44 = .ok (.iadd, 1) := by decide +kernel
theorem dX5_doOrder_45 : decode cX5_doOrder 45 = .ok (.invokevirtual 253, 3) := by decide +kernel
theorem dX5_doOrder_48 : decode cX5_doOrder 48 = .ok (.invokevirtual 52, 3) := by decide +kernel
theorem dX5_doOrder_51 : decode cX5_doOrder 51 = .ok (.ireturn, 1) := by decide +kernel
theorem dX5_doOrder_52 : decode cX5_doOrder 52 = .ok (.iload_n 2, 1) := by decide +kernel
theorem dX5_doOrder_53 : decode cX5_doOrder 53 = .ok (.bipush 43, 2) := by decide +kernel
theorem dX5_doOrder_55 : decode cX5_doOrder 55 = .ok (.if_icmp .ne 41, 3) := by decide +kernel
theorem dX5_doOrder_58 : decode cX5_doOrder 58 = .ok (.aload_n 0, 1) := by decide +kernel
theorem dX5_doOrder_59 : decode cX5_doOrder 59 = .ok (.getfield 24, 3) := by decide +kernel
theorem dX5_doOrder_62 : decode cX5_doOrder 62 = .ok (.aload_n 0, 1) := by decide +kernel
theorem dX5_doOrder_63 : decode cX5_doOrder 63 = .ok (.getfield 45, 3) := by decide +kernel
theorem dX5_doOrder_66 : decode cX5_doOrder 66 = .ok (.iload_n 1, 1) := by decide +kernel
theorem dX5_doOrder_67 : decode cX5_doOrder 67 = .ok (.iconst 1, 1) := by decide +kernel
theorem dX5_doOrder_68 : decode cX5_doOrder 68 = .ok (.iadd, 1) := by decide +kernel
theorem dX5_doOrder_69 : decode cX5_doOrder 69 = .ok (.invokevirtual 256, 3) := by decide +kernel
theorem dX5_doOrder_72 : decode cX5_doOrder 72 = .ok (.aload_n 0, 1) := by decide +kernel
theorem dX5_doOrder_73 : decode cX5_doOrder 73 = .ok (.getfield 45, 3) := by decide +kernel
theorem dX5_doOrder_76 : decode cX5_doOrder 76 = .ok (.iload_n 1, 1) := by decide +kernel
theorem dX5_doOrder_77 : decode cX5_doOrder 77 = .ok (.iconst 2, 1) := by decide +kernel
theorem dX5_doOrder_78 : decode cX5_doOrder 78 = .ok (.iadd, 1) := by decide +kernel
theorem dX5_doOrder_79 : decode cX5_doOrder 79 = .ok (.invokevirtual 259, 3) := by decide +kernel
theorem dX5_doOrder_82 : decode cX5_doOrder 82 = .ok (.aload_n 0, 1) := by decide +kernel
theorem dX5_doOrder_83 : decode cX5_doOrder 83 = .ok (.getfield 45, 3) := by decide +kernel
theorem dX5_doOrder_86 : decode cX5_doOrder 86 = .ok (.iload_n 1, 1) := by decide +kernel
theorem dX5_doOrder_87 : decode cX5_doOrder 87 = .ok (.iconst 3, 1) := by decide +kernel
theorem dX5_doOrder_88 : decode cX5_doOrder 88 = .ok (.iadd, 1) := by decide +kernel
theorem dX5_doOrder_89 : decode cX5_doOrder 89 = .ok (.invokevirtual 247, 3) := by decide +kernel
theorem dX5_doOrder_92 : decode cX5_doOrder 92 = .ok (.invokevirtual 60, 3) := by decide +kernel
theorem dX5_doOrder_95 : decode cX5_doOrder 95 = .ok (.ireturn, 1) := by decide +kernel
theorem dX5_doOrder_96 : decode cX5_doOrder 96 = .ok (.iload_n 2, 1) := by decide +kernel
theorem dX5_doOrder_97 : decode cX5_doOrder 97 = .ok (.bipush 119, 2) := by decide +kernel
theorem dX5_doOrder_99 : decode cX5_doOrder 99 = .ok (.if_icmp .ne 11, 3) := by decide +kernel
theorem dX5_doOrder_102 : decode cX5_doOrder 102 = .ok (.aload_n 0, 1) := by decide +kernel
theorem dX5_doOrder_103 : decode cX5_doOrder 103 = .ok (.getfield 24, 3) := by decide +kernel
theorem dX5_doOrder_106 : decode cX5_doOrder 106 = .ok (.invokevirtual 71, 3) := by decide +kernel
theorem dX5_doOrder_109 : decode cX5_doOrder 109 = .ok (.ireturn, 1) := by decide +kernel
theorem dX5_doOrder_110 : decode cX5_doOrder 110 = .ok (.aload_n 0, 1) := by decide +kernel
theorem dX5_doOrder_111 : decode cX5_doOrder 111 = .ok (.getfield 24, 3) := by decide +kernel
theorem dX5_doOrder_114 : decode cX5_doOrder 114 = .ok (.aload_n 0, 1) := by decide +kernel
theorem dX5_doOrder_115 : decode cX5_doOrder 115 = .ok (.getfield 45, 3) := by decide +kernel
theorem dX5_doOrder_118 : decode cX5_doOrder 118 = .ok (.iload_n 1, 1) := by decide +kernel
theorem dX5_doOrder_119 : decode cX5_doOrder 119 = .ok (.invokevirtual 262, 3) := by decide +kernel
theorem dX5_doOrder_122 : decode cX5_doOrder 122 = .ok (.aload_n 0, 1) := by decide +kernel
theorem dX5_doOrder_123 : decode cX5_doOrder 123 = .ok (.getfield 45, 3) := by decide +kernel
theorem dX5_doOrder_126 : decode cX5_doOrder 126 = .ok (.iload_n 1, 1) := by decide +kernel
theorem dX5_doOrder_127 : decode cX5_doOrder 127 = .ok (.iconst 1, 1) := by decide +kernel
theorem dX5_doOrder_128 : decode cX5_doOrder 128 = .ok (.iadd, 1) := by decide +kernel
theorem dX5_doOrder_129 : decode cX5_doOrder 129 = .ok (.invokevirtual 263, 3) := by decide +kernel
theorem dX5_doOrder_132 : decode cX5_doOrder 132 = .ok (.aload_n 0, 1) := by decide +kernel
theorem dX5_doOrder_133 : decode cX5_doOrder 133 = .ok (.getfield 45, 3) := by decide +kernel
theorem dX5_doOrder_136 : decode cX5_doOrder 136 = .ok (.iload_n 1, 1) := by decide +kernel
theorem dX5_doOrder_137 : decode cX5_doOrder 137 = .ok (.iconst 2, 1) := by decide +kernel
theorem dX5_doOrder_138 : decode cX5_doOrder 138 = .ok (.iadd, 1) := by decide +kernel
theorem dX5_doOrder_139 : decode cX5_doOrder 139 = .ok (.invokevirtual 266, 3) := by decide +kernel
theorem dX5_doOrder_142 : decode cX5_doOrder 142 = .ok (.invokevirtual 68, 3) := by decide +kernel
theorem dX5_doOrder_145 : decode cX5_doOrder 145 = .ok (.ireturn, 1) := by decide +kernel
theorem dX5_movesOfMover_0 : decode cX5_movesOfMover 0 = .ok (.iconst 0, 1) := by decide +kernel
theorem dX5_movesOfMover_1 : decode cX5_movesOfMover 1 = .ok (.istore_n 1, 1) := by decide +kernel
theorem dX5_movesOfMover_2 : decode cX5_movesOfMover 2 = .ok (.iconst 0, 1) := by decide +kernel
theorem dX5_movesOfMover_3 : decode cX5_movesOfMover 3 = .ok (.istore_n 2, 1) := by decide +kernel
theorem dX5_movesOfMover_4 : decode cX5_movesOfMover 4 = .ok (.iload_n 2, 1) := by decide +kernel
theorem dX5_movesOfMover_5 : decode cX5_movesOfMover 5 = .ok (.aload_n 0, 1) := by decide +kernel
theorem dX5_movesOfMover_6 : decode cX5_movesOfMover 6 = .ok (.getfield 10, 3) := by decide +kernel
theorem dX5_movesOfMover_9 : decode cX5_movesOfMover 9 = .ok (.getfield 172, 3) := by decide +kernel
theorem dX5_movesOfMover_12 : decode cX5_movesOfMover 12 = .ok (.if_icmp .ge 41, 3) := by decide +kernel
theorem dX5_movesOfMover_15 : decode cX5_movesOfMover 15 = .ok (.aload_n 0, 1) := by decide +kernel
theorem dX5_movesOfMover_16 : decode cX5_movesOfMover 16 = .ok (.getfield 10, 3) := by decide +kernel
theorem dX5_movesOfMover_19 : decode cX5_movesOfMover 19 = .ok (.getfield 132, 3) := by decide +kernel
theorem dX5_movesOfMover_22 : decode cX5_movesOfMover 22 = .ok (.iload_n 2, 1) := by decide +kernel
theorem dX5_movesOfMover_23 : decode cX5_movesOfMover 23 = .ok (.invokestatic 116, 3) := by decide +kernel
theorem dX5_movesOfMover_26 : decode cX5_movesOfMover 26 = .ok (.aload_n 0, 1) := by decide +kernel
theorem dX5_movesOfMover_27 : decode cX5_movesOfMover 27 = .ok (.getfield 10, 3) := by decide +kernel
theorem dX5_movesOfMover_30 : decode cX5_movesOfMover 30 = .ok (.invokevirtual 166, 3) := by decide +kernel
theorem dX5_movesOfMover_33 : decode cX5_movesOfMover 33 = .ok (.if_icmp .ne 14, 3) := by decide +kernel
theorem dX5_movesOfMover_36 : decode cX5_movesOfMover 36 = .ok (.iload_n 1, 1) := by decide +kernel
theorem dX5_movesOfMover_37 : decode cX5_movesOfMover 37 = .ok (.aload_n 0, 1) := by decide +kernel
theorem dX5_movesOfMover_38 : decode cX5_movesOfMover 38 = .ok (.getfield 24, 3) := by decide +kernel
theorem dX5_movesOfMover_41 : decode cX5_movesOfMover 41 = .ok (.iload_n 2, 1) := by decide +kernel
theorem dX5_movesOfMover_42 : decode cX5_movesOfMover 42 = .ok (.invokevirtual 153, 3) := by decide +kernel
theorem dX5_movesOfMover_45 : decode cX5_movesOfMover 45 = .ok (.iadd, 1) := by decide +kernel
theorem dX5_movesOfMover_46 : decode cX5_movesOfMover 46 = .ok (.istore_n 1, 1) := by decide +kernel
theorem dX5_movesOfMover_47 : decode cX5_movesOfMover 47 = .ok (.iinc 2 1, 3) := by decide +kernel
theorem dX5_movesOfMover_50 : decode cX5_movesOfMover 50 = .ok (.goto (-46), 3) := by decide +kernel
theorem dX5_movesOfMover_53 : decode cX5_movesOfMover 53 = .ok (.iload_n 1, 1) := by decide +kernel
theorem dX5_movesOfMover_54 : decode cX5_movesOfMover 54 = .ok (.ireturn, 1) := by decide +kernel
theorem dX5_worthOf_0 : decode cX5_worthOf 0 = .ok (.aload_n 0, 1) := by decide +kernel
theorem dX5_worthOf_1 : decode cX5_worthOf 1 = .ok (.getfield 24, 3) := by decide +kernel
theorem dX5_worthOf_4 : decode cX5_worthOf 4 = .ok (.iload_n 1, 1) := by decide +kernel
theorem dX5_worthOf_5 : decode cX5_worthOf 5 = .ok (.iload_n 2, 1) := by decide +kernel
theorem dX5_worthOf_6 : decode cX5_worthOf 6 = .ok (.iload_n 3, 1) := by decide +kernel
theorem dX5_worthOf_7 : decode cX5_worthOf 7 = .ok (.iconst 0, 1) := by decide +kernel
theorem dX5_worthOf_8 : decode cX5_worthOf 8 = .ok (.invokevirtual 162, 3) := by decide +kernel
theorem dX5_worthOf_11 : decode cX5_worthOf 11 = .ok (.ifCond .eq 5, 3) := by decide +kernel
theorem dX5_worthOf_14 : decode cX5_worthOf 14 = .ok (.iconst 0, 1) := by decide +kernel
theorem dX5_worthOf_15 : decode cX5_worthOf 15 = .ok (.ireturn, 1) := by decide +kernel
theorem dX5_worthOf_16 : decode cX5_worthOf 16 = .ok (.aload_n 0, 1) := by decide +kernel
theorem dX5_worthOf_17 : decode cX5_worthOf 17 = .ok (.getfield 10, 3) := by decide +kernel
theorem dX5_worthOf_20 : decode cX5_worthOf 20 = .ok (.getfield 144, 3) := by decide +kernel
theorem dX5_worthOf_23 : decode cX5_worthOf 23 = .ok (.iload_n 1, 1) := by decide +kernel
theorem dX5_worthOf_24 : decode cX5_worthOf 24 = .ok (.invokestatic 116, 3) := by decide +kernel
theorem dX5_worthOf_27 : decode cX5_worthOf 27 = .ok (.iload_n 2, 1) := by decide +kernel
theorem dX5_worthOf_28 : decode cX5_worthOf 28 = .ok (.iload_n 3, 1) := by decide +kernel
theorem dX5_worthOf_29 : decode cX5_worthOf 29 = .ok (.invokestatic 269, 3) := by decide +kernel
theorem dX5_worthOf_32 : decode cX5_worthOf 32 = .ok (.istore 4, 2) := by decide +kernel
theorem dX5_worthOf_34 : decode cX5_worthOf 34 = .ok (.iload 4, 2) := by decide +kernel
theorem dX5_worthOf_36 : decode cX5_worthOf 36 = .ok (.aload_n 0, 1) := by decide +kernel
theorem dX5_worthOf_37 : decode cX5_worthOf 37 = .ok (.getfield 10, 3) := by decide +kernel
theorem dX5_worthOf_40 : decode cX5_worthOf 40 = .ok (.getfield 132, 3) := by decide +kernel
theorem dX5_worthOf_43 : decode cX5_worthOf 43 = .ok (.iload_n 1, 1) := by decide +kernel
theorem dX5_worthOf_44 : decode cX5_worthOf 44 = .ok (.invokestatic 116, 3) := by decide +kernel
theorem dX5_worthOf_47 : decode cX5_worthOf 47 = .ok (.invokestatic 272, 3) := by decide +kernel
theorem dX5_worthOf_50 : decode cX5_worthOf 50 = .ok (.if_icmp .ne 19, 3) := by decide +kernel
theorem dX5_worthOf_53 : decode cX5_worthOf 53 = .ok (.sipush 3000, 3) := by decide +kernel
theorem dX5_worthOf_56 : decode cX5_worthOf 56 = .ok (.aload_n 0, 1) := by decide +kernel
theorem dX5_worthOf_57 : decode cX5_worthOf 57 = .ok (.getfield 10, 3) := by decide +kernel
theorem dX5_worthOf_60 : decode cX5_worthOf 60 = .ok (.getfield 135, 3) := by decide +kernel
theorem dX5_worthOf_63 : decode cX5_worthOf 63 = .ok (.iload_n 1, 1) := by decide +kernel
theorem dX5_worthOf_64 : decode cX5_worthOf 64 = .ok (.invokestatic 116, 3) := by decide +kernel
theorem dX5_worthOf_67 : decode cX5_worthOf 67 = .ok (.iadd, 1) := by decide +kernel
theorem dX5_worthOf_68 : decode cX5_worthOf 68 = .ok (.ireturn, 1) := by decide +kernel
theorem dX5_worthOf_69 : decode cX5_worthOf 69 = .ok (.aload_n 0, 1) := by decide +kernel
theorem dX5_worthOf_70 : decode cX5_worthOf 70 = .ok (.getfield 10, 3) := by decide +kernel
theorem dX5_worthOf_73 : decode cX5_worthOf 73 = .ok (.iload 4, 2) := by decide +kernel
theorem dX5_worthOf_75 : decode cX5_worthOf 75 = .ok (.invokevirtual 126, 3) := by decide +kernel
theorem dX5_worthOf_78 : decode cX5_worthOf 78 = .ok (.istore 5, 2) := by decide +kernel
theorem dX5_worthOf_80 : decode cX5_worthOf 80 = .ok (.iload 5, 2) := by decide +kernel
theorem dX5_worthOf_82 : decode cX5_worthOf 82 = .ok (.bipush (-5), 2) := by decide +kernel
theorem dX5_worthOf_84 : decode cX5_worthOf 84 = .ok (.if_icmp .eq 20, 3) := by decide +kernel
theorem dX5_worthOf_87 : decode cX5_worthOf 87 = .ok (.sipush 2000, 3) := by decide +kernel
theorem dX5_worthOf_90 : decode cX5_worthOf 90 = .ok (.aload_n 0, 1) := by decide +kernel
theorem dX5_worthOf_91 : decode cX5_worthOf 91 = .ok (.getfield 10, 3) := by decide +kernel
theorem dX5_worthOf_94 : decode cX5_worthOf 94 = .ok (.getfield 135, 3) := by decide +kernel
theorem dX5_worthOf_97 : decode cX5_worthOf 97 = .ok (.iload 5, 2) := by decide +kernel
theorem dX5_worthOf_99 : decode cX5_worthOf 99 = .ok (.invokestatic 116, 3) := by decide +kernel
theorem dX5_worthOf_102 : decode cX5_worthOf 102 = .ok (.iadd, 1) := by decide +kernel
theorem dX5_worthOf_103 : decode cX5_worthOf 103 = .ok (.ireturn, 1) := by decide +kernel
theorem dX5_worthOf_104 : decode cX5_worthOf 104 = .ok (.aload_n 0, 1) := by decide +kernel
theorem dX5_worthOf_105 : decode cX5_worthOf 105 = .ok (.getfield 31, 3) := by decide +kernel
theorem dX5_worthOf_108 : decode cX5_worthOf 108 = .ok (.iload_n 1, 1) := by decide +kernel
theorem dX5_worthOf_109 : decode cX5_worthOf 109 = .ok (.invokevirtual 217, 3) := by decide +kernel
theorem dX5_worthOf_112 : decode cX5_worthOf 112 = .ok (.aload_n 0, 1) := by decide +kernel
theorem dX5_worthOf_113 : decode cX5_worthOf 113 = .ok (.getfield 31, 3) := by decide +kernel
theorem dX5_worthOf_116 : decode cX5_worthOf 116 = .ok (.iload 4, 2) := by decide +kernel
theorem dX5_worthOf_118 : decode cX5_worthOf 118 = .ok (.aload_n 0, 1) := by decide +kernel
theorem dX5_worthOf_119 : decode cX5_worthOf 119 = .ok (.getfield 10, 3) := by decide +kernel
theorem dX5_worthOf_122 : decode cX5_worthOf 122 = .ok (.getfield 102, 3) := by decide +kernel
theorem dX5_worthOf_125 : decode cX5_worthOf 125 = .ok (.invokevirtual 275, 3) := by decide +kernel
theorem dX5_worthOf_128 : decode cX5_worthOf 128 = .ok (.istore 6, 2) := by decide +kernel
theorem dX5_worthOf_130 : decode cX5_worthOf 130 = .ok (.iload 6, 2) := by decide +kernel
theorem dX5_worthOf_132 : decode cX5_worthOf 132 = .ok (.bipush (-5), 2) := by decide +kernel
theorem dX5_worthOf_134 : decode cX5_worthOf 134 = .ok (.if_icmp .ne 7, 3) := by decide +kernel
theorem dX5_worthOf_137 : decode cX5_worthOf 137 = .ok (.iconst 0, 1) := by decide +kernel
theorem dX5_worthOf_138 : decode cX5_worthOf 138 = .ok (.goto 9, 3) := by decide +kernel
theorem dX5_worthOf_141 : decode cX5_worthOf 141 = .ok (.sipush 1000, 3) := by decide +kernel
theorem dX5_worthOf_144 : decode cX5_worthOf 144 = .ok (.iload 6, 2) := by decide +kernel
theorem dX5_worthOf_146 : decode cX5_worthOf 146 = .ok (.isub, 1) := by decide +kernel
theorem dX5_worthOf_147 : decode cX5_worthOf 147 = .ok (.ireturn, 1) := by decide +kernel
theorem dX5_isCell_0 : decode cX5_isCell 0 = .ok (.iload_n 0, 1) := by decide +kernel
theorem dX5_isCell_1 : decode cX5_isCell 1 = .ok (.ifCond .lt 13, 3) := by decide +kernel
theorem dX5_isCell_4 : decode cX5_isCell 4 = .ok (.iload_n 0, 1) := by decide +kernel
theorem dX5_isCell_5 : decode cX5_isCell 5 = .ok (.bipush 36, 2) := by decide +kernel
theorem dX5_isCell_7 : decode cX5_isCell 7 = .ok (.if_icmp .ge 7, 3) := by decide +kernel
theorem dX5_isCell_10 : decode cX5_isCell 10 = .ok (.iconst 1, 1) := by decide +kernel
theorem dX5_isCell_11 : decode cX5_isCell 11 = .ok (.goto 4, 3) := by decide +kernel
theorem dX5_isCell_14 : decode cX5_isCell 14 = .ok (.iconst 0, 1) := by decide +kernel
theorem dX5_isCell_15 : decode cX5_isCell 15 = .ok (.ireturn, 1) := by decide +kernel
theorem dX5_isPlayer_0 : decode cX5_isPlayer 0 = .ok (.iload_n 0, 1) := by decide +kernel
theorem dX5_isPlayer_1 : decode cX5_isPlayer 1 = .ok (.ifCond .eq 8, 3) := by decide +kernel
theorem dX5_isPlayer_4 : decode cX5_isPlayer 4 = .ok (.iload_n 0, 1) := by decide +kernel
theorem dX5_isPlayer_5 : decode cX5_isPlayer 5 = .ok (.iconst 1, 1) := by decide +kernel
theorem dX5_isPlayer_6 : decode cX5_isPlayer 6 = .ok (.if_icmp .ne 7, 3) := by decide +kernel
theorem dX5_isPlayer_9 : decode cX5_isPlayer 9 = .ok (.iconst 1, 1) := by decide +kernel
theorem dX5_isPlayer_10 : decode cX5_isPlayer 10 = .ok (.goto 4, 3) := by decide +kernel
theorem dX5_isPlayer_13 : decode cX5_isPlayer 13 = .ok (.iconst 0, 1) := by decide +kernel
theorem dX5_isPlayer_14 : decode cX5_isPlayer 14 = .ok (.ireturn, 1) := by decide +kernel
theorem dX5_isDraft_0 : decode cX5_isDraft 0 = .ok (.iload_n 0, 1) := by decide +kernel
theorem dX5_isDraft_1 : decode cX5_isDraft 1 = .ok (.iconst 1, 1) := by decide +kernel
theorem dX5_isDraft_2 : decode cX5_isDraft 2 = .ok (.if_icmp .lt 12, 3) := by decide +kernel
theorem dX5_isDraft_5 : decode cX5_isDraft 5 = .ok (.iload_n 0, 1) := by decide +kernel
theorem dX5_isDraft_6 : decode cX5_isDraft 6 = .ok (.iconst 3, 1) := by decide +kernel
theorem dX5_isDraft_7 : decode cX5_isDraft 7 = .ok (.if_icmp .gt 7, 3) := by decide +kernel
theorem dX5_isDraft_10 : decode cX5_isDraft 10 = .ok (.iconst 1, 1) := by decide +kernel
theorem dX5_isDraft_11 : decode cX5_isDraft 11 = .ok (.goto 4, 3) := by decide +kernel
theorem dX5_isDraft_14 : decode cX5_isDraft 14 = .ok (.iconst 0, 1) := by decide +kernel
theorem dX5_isDraft_15 : decode cX5_isDraft 15 = .ok (.ireturn, 1) := by decide +kernel
theorem dX5_isHarbour_0 : decode cX5_isHarbour 0 = .ok (.iload_n 0, 1) := by decide +kernel
theorem dX5_isHarbour_1 : decode cX5_isHarbour 1 = .ok (.bipush 35, 2) := by decide +kernel
theorem dX5_isHarbour_3 : decode cX5_isHarbour 3 = .ok (.if_icmp .eq 7, 3) := by decide +kernel
theorem dX5_isHarbour_6 : decode cX5_isHarbour 6 = .ok (.iload_n 0, 1) := by decide +kernel
theorem dX5_isHarbour_7 : decode cX5_isHarbour 7 = .ok (.ifCond .ne 7, 3) := by decide +kernel
theorem dX5_isHarbour_10 : decode cX5_isHarbour 10 = .ok (.iconst 1, 1) := by decide +kernel
theorem dX5_isHarbour_11 : decode cX5_isHarbour 11 = .ok (.goto 4, 3) := by decide +kernel
theorem dX5_isHarbour_14 : decode cX5_isHarbour 14 = .ok (.iconst 0, 1) := by decide +kernel
theorem dX5_isHarbour_15 : decode cX5_isHarbour 15 = .ok (.ireturn, 1) := by decide +kernel
theorem dX5_harbourOf_0 : decode cX5_harbourOf 0 = .ok (.iload_n 0, 1) := by decide +kernel
theorem dX5_harbourOf_1 : decode cX5_harbourOf 1 = .ok (.ifCond .ne 8, 3) := by decide +kernel
theorem dX5_harbourOf_4 : decode cX5_harbourOf 4 = .ok (.bipush 35, 2) := by decide +kernel
theorem dX5_harbourOf_6 : decode cX5_harbourOf 6 = .ok (.goto 4, 3) := by decide +kernel
theorem dX5_harbourOf_9 : decode cX5_harbourOf 9 = .ok (.iconst 0, 1) := by decide +kernel
theorem dX5_harbourOf_10 : decode cX5_harbourOf 10 = .ok (.ireturn, 1) := by decide +kernel
theorem dX5_cellBeside_0 : decode cX5_cellBeside 0 = .ok (.iload_n 0, 1) := by decide +kernel
theorem dX5_cellBeside_1 : decode cX5_cellBeside 1 = .ok (.invokestatic 108, 3) := by decide +kernel
theorem dX5_cellBeside_4 : decode cX5_cellBeside 4 = .ok (.ifCond .ne 5, 3) := by decide +kernel
theorem dX5_cellBeside_7 : decode cX5_cellBeside 7 = .ok (.iconst (-1), 1) := by decide +kernel
theorem dX5_cellBeside_8 : decode cX5_cellBeside 8 = .ok (.ireturn, 1) := by decide +kernel
theorem dX5_cellBeside_9 : decode cX5_cellBeside 9 = .ok (.iload_n 0, 1) := by decide +kernel
theorem dX5_cellBeside_10 : decode cX5_cellBeside 10 = .ok (.bipush 6, 2) := by decide +kernel
theorem dX5_cellBeside_12 : decode cX5_cellBeside 12 = .ok (.irem, 1) := by decide +kernel
theorem dX5_cellBeside_13 : decode cX5_cellBeside 13 = .ok (.istore_n 2, 1) := by decide +kernel
theorem dX5_cellBeside_14 : decode cX5_cellBeside 14 = .ok (.iload_n 1, 1) := by decide +kernel
theorem dX5_cellBeside_15 : decode cX5_cellBeside 15 = .ok (.tableswitch 87 0 3 #[29, 42, 60, 72], 29) := by decide +kernel
theorem dX5_cellBeside_44 : decode cX5_cellBeside 44 = .ok (.iload_n 2, 1) := by decide +kernel
theorem dX5_cellBeside_45 : decode cX5_cellBeside 45 = .ok (.iconst 5, 1) := by decide +kernel
theorem dX5_cellBeside_46 : decode cX5_cellBeside 46 = .ok (.if_icmp .ge 9, 3) := by decide +kernel
theorem dX5_cellBeside_49 : decode cX5_cellBeside 49 = .ok (.iload_n 0, 1) := by decide +kernel
theorem dX5_cellBeside_50 : decode cX5_cellBeside 50 = .ok (.iconst 1, 1) := by decide +kernel
theorem dX5_cellBeside_51 : decode cX5_cellBeside 51 = .ok (.iadd, 1) := by decide +kernel
theorem dX5_cellBeside_52 : decode cX5_cellBeside 52 = .ok (.goto 4, 3) := by decide +kernel
theorem dX5_cellBeside_55 : decode cX5_cellBeside 55 = .ok (.iconst (-1), 1) := by decide +kernel
theorem dX5_cellBeside_56 : decode cX5_cellBeside 56 = .ok (.ireturn, 1) := by decide +kernel
theorem dX5_cellBeside_57 : decode cX5_cellBeside 57 = .ok (.iload_n 0, 1) := by decide +kernel
theorem dX5_cellBeside_58 : decode cX5_cellBeside 58 = .ok (.bipush 6, 2) := by decide +kernel
theorem dX5_cellBeside_60 : decode cX5_cellBeside 60 = .ok (.iadd, 1) := by decide +kernel
theorem dX5_cellBeside_61 : decode cX5_cellBeside 61 = .ok (.bipush 36, 2) := by decide +kernel
theorem dX5_cellBeside_63 : decode cX5_cellBeside 63 = .ok (.if_icmp .ge 10, 3) := by decide +kernel
theorem dX5_cellBeside_66 : decode cX5_cellBeside 66 = .ok (.iload_n 0, 1) := by decide +kernel
theorem dX5_cellBeside_67 : decode cX5_cellBeside 67 = .ok (.bipush 6, 2) := by decide +kernel
theorem dX5_cellBeside_69 : decode cX5_cellBeside 69 = .ok (.iadd, 1) := by decide +kernel
theorem dX5_cellBeside_70 : decode cX5_cellBeside 70 = .ok (.goto 4, 3) := by decide +kernel
theorem dX5_cellBeside_73 : decode cX5_cellBeside 73 = .ok (.iconst (-1), 1) := by decide +kernel
theorem dX5_cellBeside_74 : decode cX5_cellBeside 74 = .ok (.ireturn, 1) := by decide +kernel
theorem dX5_cellBeside_75 : decode cX5_cellBeside 75 = .ok (.iload_n 2, 1) := by decide +kernel
theorem dX5_cellBeside_76 : decode cX5_cellBeside 76 = .ok (.ifCond .le 9, 3) := by decide +kernel
theorem dX5_cellBeside_79 : decode cX5_cellBeside 79 = .ok (.iload_n 0, 1) := by decide +kernel
theorem dX5_cellBeside_80 : decode cX5_cellBeside 80 = .ok (.iconst 1, 1) := by decide +kernel
theorem dX5_cellBeside_81 : decode cX5_cellBeside 81 = .ok (.isub, 1) := by decide +kernel
theorem dX5_cellBeside_82 : decode cX5_cellBeside 82 = .ok (.goto 4, 3) := by decide +kernel
theorem dX5_cellBeside_85 : decode cX5_cellBeside 85 = .ok (.iconst (-1), 1) := by decide +kernel
theorem dX5_cellBeside_86 : decode cX5_cellBeside 86 = .ok (.ireturn, 1) := by decide +kernel
theorem dX5_cellBeside_87 : decode cX5_cellBeside 87 = .ok (.iload_n 0, 1) := by decide +kernel
theorem dX5_cellBeside_88 : decode cX5_cellBeside 88 = .ok (.bipush 6, 2) := by decide +kernel
theorem dX5_cellBeside_90 : decode cX5_cellBeside 90 = .ok (.if_icmp .lt 10, 3) := by decide +kernel
theorem dX5_cellBeside_93 : decode cX5_cellBeside 93 = .ok (.iload_n 0, 1) := by decide +kernel
theorem dX5_cellBeside_94 : decode cX5_cellBeside 94 = .ok (.bipush 6, 2) := by decide +kernel
theorem dX5_cellBeside_96 : decode cX5_cellBeside 96 = .ok (.isub, 1) := by decide +kernel
theorem dX5_cellBeside_97 : decode cX5_cellBeside 97 = .ok (.goto 4, 3) := by decide +kernel
theorem dX5_cellBeside_100 : decode cX5_cellBeside 100 = .ok (.iconst (-1), 1) := by decide +kernel
theorem dX5_cellBeside_101 : decode cX5_cellBeside 101 = .ok (.ireturn, 1) := by decide +kernel
theorem dX5_cellBeside_102 : decode cX5_cellBeside 102 = .ok (.iconst (-1), 1) := by decide +kernel
theorem dX5_cellBeside_103 : decode cX5_cellBeside 103 = .ok (.ireturn, 1) := by decide +kernel
theorem dX5_cellFrom_0 : decode cX5_cellFrom 0 = .ok (.iload_n 0, 1) := by decide +kernel
theorem dX5_cellFrom_1 : decode cX5_cellFrom 1 = .ok (.istore_n 3, 1) := by decide +kernel
theorem dX5_cellFrom_2 : decode cX5_cellFrom 2 = .ok (.iconst 0, 1) := by decide +kernel
theorem dX5_cellFrom_3 : decode cX5_cellFrom 3 = .ok (.istore 4, 2) := by decide +kernel
theorem dX5_cellFrom_5 : decode cX5_cellFrom 5 = .ok (.iload 4, 2) := by decide +kernel
theorem dX5_cellFrom_7 : decode cX5_cellFrom 7 = .ok (.iload_n 2, 1) := by decide +kernel
theorem dX5_cellFrom_8 : decode cX5_cellFrom 8 = .ok (.if_icmp .ge 21, 3) := by decide +kernel
theorem dX5_cellFrom_11 : decode cX5_cellFrom 11 = .ok (.iload 4, 2) := by decide +kernel
theorem dX5_cellFrom_13 : decode cX5_cellFrom 13 = .ok (.iconst 3, 1) := by decide +kernel
theorem dX5_cellFrom_14 : decode cX5_cellFrom 14 = .ok (.if_icmp .ge 15, 3) := by decide +kernel
theorem dX5_cellFrom_17 : decode cX5_cellFrom 17 = .ok (.iload_n 3, 1) := by decide +kernel
theorem dX5_cellFrom_18 : decode cX5_cellFrom 18 = .ok (.iload_n 1, 1) := by decide +kernel
theorem dX5_cellFrom_19 : decode cX5_cellFrom 19 = .ok (.invokestatic 278, 3) := by decide +kernel
theorem dX5_cellFrom_22 : decode cX5_cellFrom 22 = .ok (.istore_n 3, 1) := by decide +kernel
theorem dX5_cellFrom_23 : decode cX5_cellFrom 23 = .ok (.iinc 4 1, 3) := by decide +kernel
theorem dX5_cellFrom_26 : decode cX5_cellFrom 26 = .ok (.goto (-21), 3) := by decide +kernel
theorem dX5_cellFrom_29 : decode cX5_cellFrom 29 = .ok (.iload_n 3, 1) := by decide +kernel
theorem dX5_cellFrom_30 : decode cX5_cellFrom 30 = .ok (.ireturn, 1) := by decide +kernel
theorem dX5_read_0 : decode cX5_read 0 = .ok (.iload_n 1, 1) := by decide +kernel
theorem dX5_read_1 : decode cX5_read 1 = .ok (.ifCond .lt 15, 3) := by decide +kernel
theorem dX5_read_4 : decode cX5_read 4 = .ok (.iload_n 1, 1) := by decide +kernel
theorem dX5_read_5 : decode cX5_read 5 = .ok (.aload_n 0, 1) := by decide +kernel
theorem dX5_read_6 : decode cX5_read 6 = .ok (.arraylength, 1) := by decide +kernel
theorem dX5_read_7 : decode cX5_read 7 = .ok (.if_icmp .ge 9, 3) := by decide +kernel
theorem dX5_read_10 : decode cX5_read 10 = .ok (.aload_n 0, 1) := by decide +kernel
theorem dX5_read_11 : decode cX5_read 11 = .ok (.iload_n 1, 1) := by decide +kernel
theorem dX5_read_12 : decode cX5_read 12 = .ok (.iaload, 1) := by decide +kernel
theorem dX5_read_13 : decode cX5_read 13 = .ok (.goto 4, 3) := by decide +kernel
theorem dX5_read_16 : decode cX5_read 16 = .ok (.iconst 0, 1) := by decide +kernel
theorem dX5_read_17 : decode cX5_read 17 = .ok (.ireturn, 1) := by decide +kernel
theorem dX5_write_0 : decode cX5_write 0 = .ok (.iload_n 1, 1) := by decide +kernel
theorem dX5_write_1 : decode cX5_write 1 = .ok (.ifCond .lt 13, 3) := by decide +kernel
theorem dX5_write_4 : decode cX5_write 4 = .ok (.iload_n 1, 1) := by decide +kernel
theorem dX5_write_5 : decode cX5_write 5 = .ok (.aload_n 0, 1) := by decide +kernel
theorem dX5_write_6 : decode cX5_write 6 = .ok (.arraylength, 1) := by decide +kernel
theorem dX5_write_7 : decode cX5_write 7 = .ok (.if_icmp .ge 7, 3) := by decide +kernel
theorem dX5_write_10 : decode cX5_write 10 = .ok (.aload_n 0, 1) := by decide +kernel
theorem dX5_write_11 : decode cX5_write 11 = .ok (.iload_n 1, 1) := by decide +kernel
theorem dX5_write_12 : decode cX5_write 12 = .ok (.iload_n 2, 1) := by decide +kernel
theorem dX5_write_13 : decode cX5_write 13 = .ok (.iastore, 1) := by decide +kernel
theorem dX5_write_14 : decode cX5_write 14 = .ok (.return_, 1) := by decide +kernel
theorem dX5_copy_0 : decode cX5_copy 0 = .ok (.iconst 0, 1) := by decide +kernel
theorem dX5_copy_1 : decode cX5_copy 1 = .ok (.istore_n 2, 1) := by decide +kernel
theorem dX5_copy_2 : decode cX5_copy 2 = .ok (.iload_n 2, 1) := by decide +kernel
theorem dX5_copy_3 : decode cX5_copy 3 = .ok (.aload_n 0, 1) := by decide +kernel
theorem dX5_copy_4 : decode cX5_copy 4 = .ok (.arraylength, 1) := by decide +kernel
theorem dX5_copy_5 : decode cX5_copy 5 = .ok (.if_icmp .ge 21, 3) := by decide +kernel
theorem dX5_copy_8 : decode cX5_copy 8 = .ok (.iload_n 2, 1) := by decide +kernel
theorem dX5_copy_9 : decode cX5_copy 9 = .ok (.aload_n 1, 1) := by decide +kernel
theorem dX5_copy_10 : decode cX5_copy 10 = .ok (.arraylength, 1) := by decide +kernel
theorem dX5_copy_11 : decode cX5_copy 11 = .ok (.if_icmp .ge 15, 3) := by decide +kernel
theorem dX5_copy_14 : decode cX5_copy 14 = .ok (.aload_n 1, 1) := by decide +kernel
theorem dX5_copy_15 : decode cX5_copy 15 = .ok (.iload_n 2, 1) := by decide +kernel
theorem dX5_copy_16 : decode cX5_copy 16 = .ok (.aload_n 0, 1) := by decide +kernel
theorem dX5_copy_17 : decode cX5_copy 17 = .ok (.iload_n 2, 1) := by decide +kernel
theorem dX5_copy_18 : decode cX5_copy 18 = .ok (.iaload, 1) := by decide +kernel
theorem dX5_copy_19 : decode cX5_copy 19 = .ok (.iastore, 1) := by decide +kernel
theorem dX5_copy_20 : decode cX5_copy 20 = .ok (.iinc 2 1, 3) := by decide +kernel
theorem dX5_copy_23 : decode cX5_copy 23 = .ok (.goto (-21), 3) := by decide +kernel
theorem dX5_copy_26 : decode cX5_copy 26 = .ok (.return_, 1) := by decide +kernel
theorem dX6_init_0 : decode cX6_init 0 = .ok (.aload_n 0, 1) := by decide +kernel
theorem dX6_init_1 : decode cX6_init 1 = .ok (.invokespecial 1, 3) := by decide +kernel
theorem dX6_init_4 : decode cX6_init 4 = .ok (.aload_n 0, 1) := by decide +kernel
theorem dX6_init_5 : decode cX6_init 5 = .ok (.sipush 258, 3) := by decide +kernel
theorem dX6_init_8 : decode cX6_init 8 = .ok (.newarray .int, 2) := by decide +kernel
theorem dX6_init_10 : decode cX6_init 10 = .ok (.putfield 7, 3) := by decide +kernel
theorem dX6_init_13 : decode cX6_init 13 = .ok (.aload_n 0, 1) := by decide +kernel
theorem dX6_init_14 : decode cX6_init 14 = .ok (.sipush 516, 3) := by decide +kernel
theorem dX6_init_17 : decode cX6_init 17 = .ok (.newarray .int, 2) := by decide +kernel
theorem dX6_init_19 : decode cX6_init 19 = .ok (.putfield 13, 3) := by decide +kernel
theorem dX6_init_22 : decode cX6_init 22 = .ok (.aload_n 0, 1) := by decide +kernel
theorem dX6_init_23 : decode cX6_init 23 = .ok (.sipush 129, 3) := by decide +kernel
theorem dX6_init_26 : decode cX6_init 26 = .ok (.newarray .int, 2) := by decide +kernel
theorem dX6_init_28 : decode cX6_init 28 = .ok (.putfield 16, 3) := by decide +kernel
theorem dX6_init_31 : decode cX6_init 31 = .ok (.aload_n 0, 1) := by decide +kernel
theorem dX6_init_32 : decode cX6_init 32 = .ok (.bipush 60, 2) := by decide +kernel
theorem dX6_init_34 : decode cX6_init 34 = .ok (.newarray .int, 2) := by decide +kernel
theorem dX6_init_36 : decode cX6_init 36 = .ok (.putfield 19, 3) := by decide +kernel
theorem dX6_init_39 : decode cX6_init 39 = .ok (.aload_n 0, 1) := by decide +kernel
theorem dX6_init_40 : decode cX6_init 40 = .ok (.bipush 36, 2) := by decide +kernel
theorem dX6_init_42 : decode cX6_init 42 = .ok (.newarray .boolean, 2) := by decide +kernel
theorem dX6_init_44 : decode cX6_init 44 = .ok (.putfield 22, 3) := by decide +kernel
theorem dX6_init_47 : decode cX6_init 47 = .ok (.aload_n 0, 1) := by decide +kernel
theorem dX6_init_48 : decode cX6_init 48 = .ok (.bipush 36, 2) := by decide +kernel
theorem dX6_init_50 : decode cX6_init 50 = .ok (.newarray .boolean, 2) := by decide +kernel
theorem dX6_init_52 : decode cX6_init 52 = .ok (.putfield 26, 3) := by decide +kernel
theorem dX6_init_55 : decode cX6_init 55 = .ok (.aload_n 0, 1) := by decide +kernel
theorem dX6_init_56 : decode cX6_init 56 = .ok (.bipush 36, 2) := by decide +kernel
theorem dX6_init_58 : decode cX6_init 58 = .ok (.newarray .int, 2) := by decide +kernel
theorem dX6_init_60 : decode cX6_init 60 = .ok (.putfield 29, 3) := by decide +kernel
theorem dX6_init_63 : decode cX6_init 63 = .ok (.aload_n 0, 1) := by decide +kernel
theorem dX6_init_64 : decode cX6_init 64 = .ok (.bipush 36, 2) := by decide +kernel
theorem dX6_init_66 : decode cX6_init 66 = .ok (.newarray .int, 2) := by decide +kernel
theorem dX6_init_68 : decode cX6_init 68 = .ok (.putfield 32, 3) := by decide +kernel
theorem dX6_init_71 : decode cX6_init 71 = .ok (.iconst 1, 1) := by decide +kernel
theorem dX6_init_72 : decode cX6_init 72 = .ok (.istore_n 1, 1) := by decide +kernel
theorem dX6_init_73 : decode cX6_init 73 = .ok (.iload_n 1, 1) := by decide +kernel
theorem dX6_init_74 : decode cX6_init 74 = .ok (.bipush 35, 2) := by decide +kernel
theorem dX6_init_76 : decode cX6_init 76 = .ok (.if_icmp .ge 18, 3) := by decide +kernel
theorem dX6_init_79 : decode cX6_init 79 = .ok (.aload_n 0, 1) := by decide +kernel
theorem dX6_init_80 : decode cX6_init 80 = .ok (.getfield 7, 3) := by decide +kernel
theorem dX6_init_83 : decode cX6_init 83 = .ok (.iconst 0, 1) := by decide +kernel
theorem dX6_init_84 : decode cX6_init 84 = .ok (.iload_n 1, 1) := by decide +kernel
theorem dX6_init_85 : decode cX6_init 85 = .ok (.iadd, 1) := by decide +kernel
theorem dX6_init_86 : decode cX6_init 86 = .ok (.iconst 1, 1) := by decide +kernel
theorem dX6_init_87 : decode cX6_init 87 = .ok (.iastore, 1) := by decide +kernel
theorem dX6_init_88 : decode cX6_init 88 = .ok (.iinc 1 1, 3) := by decide +kernel
theorem dX6_init_91 : decode cX6_init 91 = .ok (.goto (-18), 3) := by decide +kernel
theorem dX6_init_94 : decode cX6_init 94 = .ok (.aload_n 0, 1) := by decide +kernel
theorem dX6_init_95 : decode cX6_init 95 = .ok (.getfield 7, 3) := by decide +kernel
theorem dX6_init_98 : decode cX6_init 98 = .ok (.bipush 122, 2) := by decide +kernel
theorem dX6_init_100 : decode cX6_init 100 = .ok (.iconst 1, 1) := by decide +kernel
theorem dX6_init_101 : decode cX6_init 101 = .ok (.iastore, 1) := by decide +kernel
theorem dX6_init_102 : decode cX6_init 102 = .ok (.aload_n 0, 1) := by decide +kernel
theorem dX6_init_103 : decode cX6_init 103 = .ok (.getfield 7, 3) := by decide +kernel
theorem dX6_init_106 : decode cX6_init 106 = .ok (.bipush 123, 2) := by decide +kernel
theorem dX6_init_108 : decode cX6_init 108 = .ok (.iconst 3, 1) := by decide +kernel
theorem dX6_init_109 : decode cX6_init 109 = .ok (.iastore, 1) := by decide +kernel
theorem dX6_init_110 : decode cX6_init 110 = .ok (.aload_n 0, 1) := by decide +kernel
theorem dX6_init_111 : decode cX6_init 111 = .ok (.getfield 7, 3) := by decide +kernel
theorem dX6_init_114 : decode cX6_init 114 = .ok (.bipush 124, 2) := by decide +kernel
theorem dX6_init_116 : decode cX6_init 116 = .ok (.iconst 1, 1) := by decide +kernel
theorem dX6_init_117 : decode cX6_init 117 = .ok (.iastore, 1) := by decide +kernel
theorem dX6_init_118 : decode cX6_init 118 = .ok (.aload_n 0, 1) := by decide +kernel
theorem dX6_init_119 : decode cX6_init 119 = .ok (.getfield 7, 3) := by decide +kernel
theorem dX6_init_122 : decode cX6_init 122 = .ok (.bipush 125, 2) := by decide +kernel
theorem dX6_init_124 : decode cX6_init 124 = .ok (.bipush 60, 2) := by decide +kernel
theorem dX6_init_126 : decode cX6_init 126 = .ok (.iastore, 1) := by decide +kernel
theorem dX6_init_127 : decode cX6_init 127 = .ok (.return_, 1) := by decide +kernel
theorem dX6_in_0 : decode cX6_in 0 = .ok (.iload_n 0, 1) := by decide +kernel
theorem dX6_in_1 : decode cX6_in 1 = .ok (.iload_n 1, 1) := by decide +kernel
theorem dX6_in_2 : decode cX6_in 2 = .ok (.if_icmp .lt 12, 3) := by decide +kernel
theorem dX6_in_5 : decode cX6_in 5 = .ok (.iload_n 0, 1) := by decide +kernel
theorem dX6_in_6 : decode cX6_in 6 = .ok (.iload_n 2, 1) := by decide +kernel
theorem dX6_in_7 : decode cX6_in 7 = .ok (.if_icmp .gt 7, 3) := by decide +kernel
theorem dX6_in_10 : decode cX6_in 10 = .ok (.iconst 1, 1) := by decide +kernel
theorem dX6_in_11 : decode cX6_in 11 = .ok (.goto 4, 3) := by decide +kernel
theorem dX6_in_14 : decode cX6_in 14 = .ok (.iconst 0, 1) := by decide +kernel
theorem dX6_in_15 : decode cX6_in 15 = .ok (.ireturn, 1) := by decide +kernel
theorem dX6_isCell_0 : decode cX6_isCell 0 = .ok (.iload_n 0, 1) := by decide +kernel
theorem dX6_isCell_1 : decode cX6_isCell 1 = .ok (.iconst 0, 1) := by decide +kernel
theorem dX6_isCell_2 : decode cX6_isCell 2 = .ok (.bipush 35, 2) := by decide +kernel
theorem dX6_isCell_4 : decode cX6_isCell 4 = .ok (.invokestatic 35, 3) := by decide +kernel
theorem dX6_isCell_7 : decode cX6_isCell 7 = .ok (.ireturn, 1) := by decide +kernel
theorem dX6_isBoat_0 : decode cX6_isBoat 0 = .ok (.iload_n 2, 1) := by decide +kernel
theorem dX6_isBoat_1 : decode cX6_isBoat 1 = .ok (.iconst 0, 1) := by decide +kernel
theorem dX6_isBoat_2 : decode cX6_isBoat 2 = .ok (.aload_n 0, 1) := by decide +kernel
theorem dX6_isBoat_3 : decode cX6_isBoat 3 = .ok (.getfield 7, 3) := by decide +kernel
theorem dX6_isBoat_6 : decode cX6_isBoat 6 = .ok (.iload_n 1, 1) := by decide +kernel
theorem dX6_isBoat_7 : decode cX6_isBoat 7 = .ok (.bipush 127, 2) := by decide +kernel
theorem dX6_isBoat_9 : decode cX6_isBoat 9 = .ok (.iadd, 1) := by decide +kernel
theorem dX6_isBoat_10 : decode cX6_isBoat 10 = .ok (.iaload, 1) := by decide +kernel
theorem dX6_isBoat_11 : decode cX6_isBoat 11 = .ok (.iconst 1, 1) := by decide +kernel
theorem dX6_isBoat_12 : decode cX6_isBoat 12 = .ok (.isub, 1) := by decide +kernel
theorem dX6_isBoat_13 : decode cX6_isBoat 13 = .ok (.invokestatic 35, 3) := by decide +kernel
theorem dX6_isBoat_16 : decode cX6_isBoat 16 = .ok (.ireturn, 1) := by decide +kernel
theorem dX6_at_0 : decode cX6_at 0 = .ok (.iload_n 0, 1) := by decide +kernel
theorem dX6_at_1 : decode cX6_at 1 = .ok (.bipush 72, 2) := by decide +kernel
theorem dX6_at_3 : decode cX6_at 3 = .ok (.iadd, 1) := by decide +kernel
theorem dX6_at_4 : decode cX6_at 4 = .ok (.iconst 5, 1) := by decide +kernel
theorem dX6_at_5 : decode cX6_at 5 = .ok (.iload_n 1, 1) := by decide +kernel
theorem dX6_at_6 : decode cX6_at 6 = .ok (.imul, 1) := by decide +kernel
theorem dX6_at_7 : decode cX6_at 7 = .ok (.iadd, 1) := by decide +kernel
theorem dX6_at_8 : decode cX6_at 8 = .ok (.ireturn, 1) := by decide +kernel
theorem dX6_its_0 : decode cX6_its 0 = .ok (.aload_n 0, 1) := by decide +kernel
theorem dX6_its_1 : decode cX6_its 1 = .ok (.getfield 7, 3) := by decide +kernel
theorem dX6_its_4 : decode cX6_its 4 = .ok (.iload_n 1, 1) := by decide +kernel
theorem dX6_its_5 : decode cX6_its 5 = .ok (.iload_n 2, 1) := by decide +kernel
theorem dX6_its_6 : decode cX6_its 6 = .ok (.invokestatic 39, 3) := by decide +kernel
theorem dX6_its_9 : decode cX6_its 9 = .ok (.iload_n 3, 1) := by decide +kernel
theorem dX6_its_10 : decode cX6_its 10 = .ok (.iadd, 1) := by decide +kernel
theorem dX6_its_11 : decode cX6_its 11 = .ok (.iaload, 1) := by decide +kernel
theorem dX6_its_12 : decode cX6_its 12 = .ok (.ireturn, 1) := by decide +kernel
theorem dX6_copies_0 : decode cX6_copies 0 = .ok (.iconst 0, 1) := by decide +kernel
theorem dX6_copies_1 : decode cX6_copies 1 = .ok (.istore_n 1, 1) := by decide +kernel
theorem dX6_copies_2 : decode cX6_copies 2 = .ok (.iload_n 1, 1) := by decide +kernel
theorem dX6_copies_3 : decode cX6_copies 3 = .ok (.sipush 129, 3) := by decide +kernel
theorem dX6_copies_6 : decode cX6_copies 6 = .ok (.if_icmp .ge 25, 3) := by decide +kernel
theorem dX6_copies_9 : decode cX6_copies 9 = .ok (.aload_n 0, 1) := by decide +kernel
theorem dX6_copies_10 : decode cX6_copies 10 = .ok (.getfield 7, 3) := by decide +kernel
theorem dX6_copies_13 : decode cX6_copies 13 = .ok (.sipush 129, 3) := by decide +kernel
theorem dX6_copies_16 : decode cX6_copies 16 = .ok (.iload_n 1, 1) := by decide +kernel
theorem dX6_copies_17 : decode cX6_copies 17 = .ok (.iadd, 1) := by decide +kernel
theorem dX6_copies_18 : decode cX6_copies 18 = .ok (.aload_n 0, 1) := by decide +kernel
theorem dX6_copies_19 : decode cX6_copies 19 = .ok (.getfield 7, 3) := by decide +kernel
theorem dX6_copies_22 : decode cX6_copies 22 = .ok (.iload_n 1, 1) := by decide +kernel
theorem dX6_copies_23 : decode cX6_copies 23 = .ok (.iaload, 1) := by decide +kernel
theorem dX6_copies_24 : decode cX6_copies 24 = .ok (.iastore, 1) := by decide +kernel
theorem dX6_copies_25 : decode cX6_copies 25 = .ok (.iinc 1 1, 3) := by decide +kernel
theorem dX6_copies_28 : decode cX6_copies 28 = .ok (.goto (-26), 3) := by decide +kernel
theorem dX6_copies_31 : decode cX6_copies 31 = .ok (.return_, 1) := by decide +kernel
theorem dX6_remembers_0 : decode cX6_remembers 0 = .ok (.aload_n 0, 1) := by decide +kernel
theorem dX6_remembers_1 : decode cX6_remembers 1 = .ok (.getfield 43, 3) := by decide +kernel
theorem dX6_remembers_4 : decode cX6_remembers 4 = .ok (.iconst 4, 1) := by decide +kernel
theorem dX6_remembers_5 : decode cX6_remembers 5 = .ok (.if_icmp .ne 44, 3) := by decide +kernel
theorem dX6_remembers_8 : decode cX6_remembers 8 = .ok (.iconst 0, 1) := by decide +kernel
theorem dX6_remembers_9 : decode cX6_remembers 9 = .ok (.istore_n 1, 1) := by decide +kernel
theorem dX6_remembers_10 : decode cX6_remembers 10 = .ok (.iload_n 1, 1) := by decide +kernel
theorem dX6_remembers_11 : decode cX6_remembers 11 = .ok (.sipush 387, 3) := by decide +kernel
theorem dX6_remembers_14 : decode cX6_remembers 14 = .ok (.if_icmp .ge 25, 3) := by decide +kernel
theorem dX6_remembers_17 : decode cX6_remembers 17 = .ok (.aload_n 0, 1) := by decide +kernel
theorem dX6_remembers_18 : decode cX6_remembers 18 = .ok (.getfield 13, 3) := by decide +kernel
theorem dX6_remembers_21 : decode cX6_remembers 21 = .ok (.iload_n 1, 1) := by decide +kernel
theorem dX6_remembers_22 : decode cX6_remembers 22 = .ok (.aload_n 0, 1) := by decide +kernel
theorem dX6_remembers_23 : decode cX6_remembers 23 = .ok (.getfield 13, 3) := by decide +kernel
theorem dX6_remembers_26 : decode cX6_remembers 26 = .ok (.sipush 129, 3) := by decide +kernel
theorem dX6_remembers_29 : decode cX6_remembers 29 = .ok (.iload_n 1, 1) := by decide +kernel
theorem dX6_remembers_30 : decode cX6_remembers 30 = .ok (.iadd, 1) := by decide +kernel
theorem dX6_remembers_31 : decode cX6_remembers 31 = .ok (.iaload, 1) := by decide +kernel
theorem dX6_remembers_32 : decode cX6_remembers 32 = .ok (.iastore, 1) := by decide +kernel
theorem dX6_remembers_33 : decode cX6_remembers 33 = .ok (.iinc 1 1, 3) := by decide +kernel
theorem dX6_remembers_36 : decode cX6_remembers 36 = .ok (.goto (-26), 3) := by decide +kernel
theorem dX6_remembers_39 : decode cX6_remembers 39 = .ok (.aload_n 0, 1) := by decide +kernel
theorem dX6_remembers_40 : decode cX6_remembers 40 = .ok (.dup, 1) := by decide +kernel
theorem dX6_remembers_41 : decode cX6_remembers 41 = .ok (.getfield 43, 3) := by decide +kernel
theorem dX6_remembers_44 : decode cX6_remembers 44 = .ok (.iconst 1, 1) := by decide +kernel
theorem dX6_remembers_45 : decode cX6_remembers 45 = .ok (.isub, 1) := by decide +kernel
theorem dX6_remembers_46 : decode cX6_remembers 46 = .ok (.putfield 43, 3) := by decide +kernel
theorem dX6_remembers_49 : decode cX6_remembers 49 = .ok (.iconst 0, 1) := by decide +kernel
theorem dX6_remembers_50 : decode cX6_remembers 50 = .ok (.istore_n 1, 1) := by decide +kernel
theorem dX6_remembers_51 : decode cX6_remembers 51 = .ok (.iload_n 1, 1) := by decide +kernel
theorem dX6_remembers_52 : decode cX6_remembers 52 = .ok (.sipush 129, 3) := by decide +kernel
theorem dX6_remembers_55 : decode cX6_remembers 55 = .ok (.if_icmp .ge 30, 3) := by decide +kernel
theorem dX6_remembers_58 : decode cX6_remembers 58 = .ok (.aload_n 0, 1) := by decide +kernel
theorem dX6_remembers_59 : decode cX6_remembers 59 = .ok (.getfield 13, 3) := by decide +kernel
theorem dX6_remembers_62 : decode cX6_remembers 62 = .ok (.sipush 129, 3) := by decide +kernel
theorem dX6_remembers_65 : decode cX6_remembers 65 = .ok (.aload_n 0, 1) := by decide +kernel
theorem dX6_remembers_66 : decode cX6_remembers 66 = .ok (.getfield 43, 3) := by decide +kernel
theorem dX6_remembers_69 : decode cX6_remembers 69 = .ok (.imul, 1) := by decide +kernel
theorem dX6_remembers_70 : decode cX6_remembers 70 = .ok (.iload_n 1, 1) := by decide +kernel
theorem dX6_remembers_71 : decode cX6_remembers 71 = .ok (.iadd, 1) := by decide +kernel
theorem dX6_remembers_72 : decode cX6_remembers 72 = .ok (.aload_n 0, 1) := by decide +kernel
theorem dX6_remembers_73 : decode cX6_remembers 73 = .ok (.getfield 7, 3) := by decide +kernel
theorem dX6_remembers_76 : decode cX6_remembers 76 = .ok (.iload_n 1, 1) := by decide +kernel
theorem dX6_remembers_77 : decode cX6_remembers 77 = .ok (.iaload, 1) := by decide +kernel
theorem dX6_remembers_78 : decode cX6_remembers 78 = .ok (.iastore, 1) := by decide +kernel
theorem dX6_remembers_79 : decode cX6_remembers 79 = .ok (.iinc 1 1, 3) := by decide +kernel
theorem dX6_remembers_82 : decode cX6_remembers 82 = .ok (.goto (-31), 3) := by decide +kernel
theorem dX6_remembers_85 : decode cX6_remembers 85 = .ok (.aload_n 0, 1) := by decide +kernel
theorem dX6_remembers_86 : decode cX6_remembers 86 = .ok (.dup, 1) := by decide +kernel
theorem dX6_remembers_87 : decode cX6_remembers 87 = .ok (.getfield 43, 3) := by decide +kernel
theorem dX6_remembers_90 : decode cX6_remembers 90 = .ok (.iconst 1, 1) := by decide +kernel
theorem dX6_remembers_91 : decode cX6_remembers 91 = .ok (.iadd, 1) := by decide +kernel
theorem dX6_remembers_92 : decode cX6_remembers 92 = .ok (.putfield 43, 3) := by decide +kernel
theorem dX6_remembers_95 : decode cX6_remembers 95 = .ok (.return_, 1) := by decide +kernel
theorem dX6_acts_0 : decode cX6_acts 0 = .ok (.iload_n 1, 1) := by decide +kernel
theorem dX6_acts_1 : decode cX6_acts 1 = .ok (.ifCond .lt 38, 3) := by decide +kernel
theorem dX6_acts_4 : decode cX6_acts 4 = .ok (.aload_n 0, 1) := by decide +kernel
theorem dX6_acts_5 : decode cX6_acts 5 = .ok (.invokevirtual 47, 3) := by decide +kernel
theorem dX6_acts_8 : decode cX6_acts 8 = .ok (.iconst 0, 1) := by decide +kernel
theorem dX6_acts_9 : decode cX6_acts 9 = .ok (.istore_n 2, 1) := by decide +kernel
theorem dX6_acts_10 : decode cX6_acts 10 = .ok (.iload_n 2, 1) := by decide +kernel
theorem dX6_acts_11 : decode cX6_acts 11 = .ok (.sipush 129, 3) := by decide +kernel
theorem dX6_acts_14 : decode cX6_acts 14 = .ok (.if_icmp .ge 25, 3) := by decide +kernel
theorem dX6_acts_17 : decode cX6_acts 17 = .ok (.aload_n 0, 1) := by decide +kernel
theorem dX6_acts_18 : decode cX6_acts 18 = .ok (.getfield 7, 3) := by decide +kernel
theorem dX6_acts_21 : decode cX6_acts 21 = .ok (.iload_n 2, 1) := by decide +kernel
theorem dX6_acts_22 : decode cX6_acts 22 = .ok (.aload_n 0, 1) := by decide +kernel
theorem dX6_acts_23 : decode cX6_acts 23 = .ok (.getfield 7, 3) := by decide +kernel
theorem dX6_acts_26 : decode cX6_acts 26 = .ok (.sipush 129, 3) := by decide +kernel
theorem dX6_acts_29 : decode cX6_acts 29 = .ok (.iload_n 2, 1) := by decide +kernel
theorem dX6_acts_30 : decode cX6_acts 30 = .ok (.iadd, 1) := by decide +kernel
theorem dX6_acts_31 : decode cX6_acts 31 = .ok (.iaload, 1) := by decide +kernel
theorem dX6_acts_32 : decode cX6_acts 32 = .ok (.iastore, 1) := by decide +kernel
theorem dX6_acts_33 : decode cX6_acts 33 = .ok (.iinc 2 1, 3) := by decide +kernel
theorem dX6_acts_36 : decode cX6_acts 36 = .ok (.goto (-26), 3) := by decide +kernel
theorem dX6_acts_39 : decode cX6_acts 39 = .ok (.iload_n 1, 1) := by decide +kernel
theorem dX6_acts_40 : decode cX6_acts 40 = .ok (.ireturn, 1) := by decide +kernel
theorem dX6_tideOf_0 : decode cX6_tideOf 0 = .ok (.aload_n 0, 1) := by decide +kernel
theorem dX6_tideOf_1 : decode cX6_tideOf 1 = .ok (.getfield 7, 3) := by decide +kernel
theorem dX6_tideOf_4 : decode cX6_tideOf 4 = .ok (.iload_n 1, 1) := by decide +kernel
theorem dX6_tideOf_5 : decode cX6_tideOf 5 = .ok (.bipush 122, 2) := by decide +kernel
theorem dX6_tideOf_7 : decode cX6_tideOf 7 = .ok (.iadd, 1) := by decide +kernel
theorem dX6_tideOf_8 : decode cX6_tideOf 8 = .ok (.iconst 1, 1) := by decide +kernel
theorem dX6_tideOf_9 : decode cX6_tideOf 9 = .ok (.iadd, 1) := by decide +kernel
theorem dX6_tideOf_10 : decode cX6_tideOf 10 = .ok (.iaload, 1) := by decide +kernel
theorem dX6_tideOf_11 : decode cX6_tideOf 11 = .ok (.istore_n 3, 1) := by decide +kernel
theorem dX6_tideOf_12 : decode cX6_tideOf 12 = .ok (.iload_n 2, 1) := by decide +kernel
theorem dX6_tideOf_13 : decode cX6_tideOf 13 = .ok (.aload_n 0, 1) := by decide +kernel
theorem dX6_tideOf_14 : decode cX6_tideOf 14 = .ok (.getfield 7, 3) := by decide +kernel
theorem dX6_tideOf_17 : decode cX6_tideOf 17 = .ok (.iload_n 1, 1) := by decide +kernel
theorem dX6_tideOf_18 : decode cX6_tideOf 18 = .ok (.bipush 122, 2) := by decide +kernel
theorem dX6_tideOf_20 : decode cX6_tideOf 20 = .ok (.iadd, 1) := by decide +kernel
theorem dX6_tideOf_21 : decode cX6_tideOf 21 = .ok (.iconst 2, 1) := by decide +kernel
theorem dX6_tideOf_22 : decode cX6_tideOf 22 = .ok (.iadd, 1) := by decide +kernel
theorem dX6_tideOf_23 : decode cX6_tideOf 23 = .ok (.iaload, 1) := by decide +kernel
theorem dX6_tideOf_24 : decode cX6_tideOf 24 = .ok (.idiv, 1) := by decide +kernel
theorem dX6_tideOf_25 : decode cX6_tideOf 25 = .ok (.iconst 2, 1) := by decide +kernel
theorem dX6_tideOf_26 : decode cX6_tideOf 26 = .ok (.iload_n 3, 1) := by decide +kernel
theorem dX6_tideOf_27 : decode cX6_tideOf 27 = .ok (.imul, 1) := by decide +kernel
theorem dX6_tideOf_28 : decode cX6_tideOf 28 = .ok (.irem, 1) := by decide +kernel
theorem dX6_tideOf_29 : decode cX6_tideOf 29 = .ok (.istore 4, 2) := by decide +kernel
theorem dX6_tideOf_31 : decode cX6_tideOf 31 = .ok (.aload_n 0, 1) := by decide +kernel
theorem dX6_tideOf_32 : decode cX6_tideOf 32 = .ok (.getfield 7, 3) := by decide +kernel
theorem dX6_tideOf_35 : decode cX6_tideOf 35 = .ok (.iload_n 1, 1) := by decide +kernel
theorem dX6_tideOf_36 : decode cX6_tideOf 36 = .ok (.bipush 122, 2) := by decide +kernel
theorem dX6_tideOf_38 : decode cX6_tideOf 38 = .ok (.iadd, 1) := by decide +kernel
theorem dX6_tideOf_39 : decode cX6_tideOf 39 = .ok (.iaload, 1) := by decide +kernel
theorem dX6_tideOf_40 : decode cX6_tideOf 40 = .ok (.iload 4, 2) := by decide +kernel
theorem dX6_tideOf_42 : decode cX6_tideOf 42 = .ok (.iload_n 3, 1) := by decide +kernel
theorem dX6_tideOf_43 : decode cX6_tideOf 43 = .ok (.if_icmp .gt 8, 3) := by decide +kernel
theorem dX6_tideOf_46 : decode cX6_tideOf 46 = .ok (.iload 4, 2) := by decide +kernel
theorem dX6_tideOf_48 : decode cX6_tideOf 48 = .ok (.goto 9, 3) := by decide +kernel
theorem dX6_tideOf_51 : decode cX6_tideOf 51 = .ok (.iconst 2, 1) := by decide +kernel
theorem dX6_tideOf_52 : decode cX6_tideOf 52 = .ok (.iload_n 3, 1) := by decide +kernel
theorem dX6_tideOf_53 : decode cX6_tideOf 53 = .ok (.imul, 1) := by decide +kernel
theorem dX6_tideOf_54 : decode cX6_tideOf 54 = .ok (.iload 4, 2) := by decide +kernel
theorem dX6_tideOf_56 : decode cX6_tideOf 56 = .ok (.isub, 1) := by decide +kernel
theorem dX6_tideOf_57 : decode cX6_tideOf 57 = .ok (.iadd, 1) := by decide +kernel
theorem dX6_tideOf_58 : decode cX6_tideOf 58 = .ok (.ireturn, 1) := by decide +kernel
theorem dX6_water_0 : decode cX6_water 0 = .ok (.aload_n 0, 1) := by decide +kernel
theorem dX6_water_1 : decode cX6_water 1 = .ok (.iload_n 1, 1) := by decide +kernel
theorem dX6_water_2 : decode cX6_water 2 = .ok (.iload_n 3, 1) := by decide +kernel
theorem dX6_water_3 : decode cX6_water 3 = .ok (.invokevirtual 50, 3) := by decide +kernel
theorem dX6_water_6 : decode cX6_water 6 = .ok (.aload_n 0, 1) := by decide +kernel
theorem dX6_water_7 : decode cX6_water 7 = .ok (.getfield 7, 3) := by decide +kernel
theorem dX6_water_10 : decode cX6_water 10 = .ok (.iload_n 1, 1) := by decide +kernel
theorem dX6_water_11 : decode cX6_water 11 = .ok (.iconst 0, 1) := by decide +kernel
theorem dX6_water_12 : decode cX6_water 12 = .ok (.iadd, 1) := by decide +kernel
theorem dX6_water_13 : decode cX6_water 13 = .ok (.iload_n 2, 1) := by decide +kernel
theorem dX6_water_14 : decode cX6_water 14 = .ok (.iadd, 1) := by decide +kernel
theorem dX6_water_15 : decode cX6_water 15 = .ok (.iaload, 1) := by decide +kernel
theorem dX6_water_16 : decode cX6_water 16 = .ok (.isub, 1) := by decide +kernel
theorem dX6_water_17 : decode cX6_water 17 = .ok (.istore 4, 2) := by decide +kernel
theorem dX6_water_19 : decode cX6_water 19 = .ok (.iload 4, 2) := by decide +kernel
theorem dX6_water_21 : decode cX6_water 21 = .ok (.ifCond .ge 7, 3) := by decide +kernel
theorem dX6_water_24 : decode cX6_water 24 = .ok (.iconst 0, 1) := by decide +kernel
theorem dX6_water_25 : decode cX6_water 25 = .ok (.goto 5, 3) := by decide +kernel
theorem dX6_water_28 : decode cX6_water 28 = .ok (.iload 4, 2) := by decide +kernel
theorem dX6_water_30 : decode cX6_water 30 = .ok (.ireturn, 1) := by decide +kernel
theorem dX6_floats_0 : decode cX6_floats 0 = .ok (.aload_n 0, 1) := by decide +kernel
theorem dX6_floats_1 : decode cX6_floats 1 = .ok (.iload_n 1, 1) := by decide +kernel
theorem dX6_floats_2 : decode cX6_floats 2 = .ok (.iload_n 2, 1) := by decide +kernel
theorem dX6_floats_3 : decode cX6_floats 3 = .ok (.iload 4, 2) := by decide +kernel
theorem dX6_floats_5 : decode cX6_floats 5 = .ok (.invokevirtual 53, 3) := by decide +kernel
theorem dX6_floats_8 : decode cX6_floats 8 = .ok (.iload_n 3, 1) := by decide +kernel
theorem dX6_floats_9 : decode cX6_floats 9 = .ok (.if_icmp .lt 7, 3) := by decide +kernel
theorem dX6_floats_12 : decode cX6_floats 12 = .ok (.iconst 1, 1) := by decide +kernel
theorem dX6_floats_13 : decode cX6_floats 13 = .ok (.goto 4, 3) := by decide +kernel
theorem dX6_floats_16 : decode cX6_floats 16 = .ok (.iconst 0, 1) := by decide +kernel
theorem dX6_floats_17 : decode cX6_floats 17 = .ok (.ireturn, 1) := by decide +kernel
theorem dX6_wrecks_0 : decode cX6_wrecks 0 = .ok (.aload_n 0, 1) := by decide +kernel
theorem dX6_wrecks_1 : decode cX6_wrecks 1 = .ok (.getfield 7, 3) := by decide +kernel
theorem dX6_wrecks_4 : decode cX6_wrecks 4 = .ok (.iload_n 1, 1) := by decide +kernel
theorem dX6_wrecks_5 : decode cX6_wrecks 5 = .ok (.bipush 36, 2) := by decide +kernel
theorem dX6_wrecks_7 : decode cX6_wrecks 7 = .ok (.iadd, 1) := by decide +kernel
theorem dX6_wrecks_8 : decode cX6_wrecks 8 = .ok (.iload_n 2, 1) := by decide +kernel
theorem dX6_wrecks_9 : decode cX6_wrecks 9 = .ok (.iadd, 1) := by decide +kernel
theorem dX6_wrecks_10 : decode cX6_wrecks 10 = .ok (.iaload, 1) := by decide +kernel
theorem dX6_wrecks_11 : decode cX6_wrecks 11 = .ok (.iconst 1, 1) := by decide +kernel
theorem dX6_wrecks_12 : decode cX6_wrecks 12 = .ok (.if_icmp .ne 33, 3) := by decide +kernel
theorem dX6_wrecks_15 : decode cX6_wrecks 15 = .ok (.aload_n 0, 1) := by decide +kernel
theorem dX6_wrecks_16 : decode cX6_wrecks 16 = .ok (.iload_n 1, 1) := by decide +kernel
theorem dX6_wrecks_17 : decode cX6_wrecks 17 = .ok (.iload_n 2, 1) := by decide +kernel
theorem dX6_wrecks_18 : decode cX6_wrecks 18 = .ok (.iload_n 3, 1) := by decide +kernel
theorem dX6_wrecks_19 : decode cX6_wrecks 19 = .ok (.iload 4, 2) := by decide +kernel
theorem dX6_wrecks_21 : decode cX6_wrecks 21 = .ok (.invokevirtual 57, 3) := by decide +kernel
theorem dX6_wrecks_24 : decode cX6_wrecks 24 = .ok (.ifCond .eq 21, 3) := by decide +kernel
theorem dX6_wrecks_27 : decode cX6_wrecks 27 = .ok (.aload_n 0, 1) := by decide +kernel
theorem dX6_wrecks_28 : decode cX6_wrecks 28 = .ok (.iload_n 1, 1) := by decide +kernel
theorem dX6_wrecks_29 : decode cX6_wrecks 29 = .ok (.iload_n 2, 1) := by decide +kernel
theorem dX6_wrecks_30 : decode cX6_wrecks 30 = .ok (.iload_n 3, 1) := by decide +kernel
theorem dX6_wrecks_31 : decode cX6_wrecks 31 = .ok (.iload 4, 2) := by decide +kernel
theorem dX6_wrecks_33 : decode cX6_wrecks 33 = .ok (.iconst 1, 1) := by decide +kernel
theorem dX6_wrecks_34 : decode cX6_wrecks 34 = .ok (.iadd, 1) := by decide +kernel
theorem dX6_wrecks_35 : decode cX6_wrecks 35 = .ok (.invokevirtual 57, 3) := by decide +kernel
theorem dX6_wrecks_38 : decode cX6_wrecks 38 = .ok (.ifCond .ne 7, 3) := by decide +kernel
theorem dX6_wrecks_41 : decode cX6_wrecks 41 = .ok (.iconst 1, 1) := by decide +kernel
theorem dX6_wrecks_42 : decode cX6_wrecks 42 = .ok (.goto 4, 3) := by decide +kernel
theorem dX6_wrecks_45 : decode cX6_wrecks 45 = .ok (.iconst 0, 1) := by decide +kernel
theorem dX6_wrecks_46 : decode cX6_wrecks 46 = .ok (.ireturn, 1) := by decide +kernel
theorem dX6_harbour_0 : decode cX6_harbour 0 = .ok (.iload_n 0, 1) := by decide +kernel
theorem dX6_harbour_1 : decode cX6_harbour 1 = .ok (.ifCond .ne 8, 3) := by decide +kernel
theorem dX6_harbour_4 : decode cX6_harbour 4 = .ok (.bipush 35, 2) := by decide +kernel
theorem dX6_harbour_6 : decode cX6_harbour 6 = .ok (.goto 4, 3) := by decide +kernel
theorem dX6_harbour_9 : decode cX6_harbour 9 = .ok (.iconst 0, 1) := by decide +kernel
theorem dX6_harbour_10 : decode cX6_harbour 10 = .ok (.ireturn, 1) := by decide +kernel
theorem dX6_beside_0 : decode cX6_beside 0 = .ok (.iload_n 0, 1) := by decide +kernel
theorem dX6_beside_1 : decode cX6_beside 1 = .ok (.bipush 6, 2) := by decide +kernel
theorem dX6_beside_3 : decode cX6_beside 3 = .ok (.idiv, 1) := by decide +kernel
theorem dX6_beside_4 : decode cX6_beside 4 = .ok (.iload_n 1, 1) := by decide +kernel
theorem dX6_beside_5 : decode cX6_beside 5 = .ok (.iconst 1, 1) := by decide +kernel
theorem dX6_beside_6 : decode cX6_beside 6 = .ok (.if_icmp .ne 7, 3) := by decide +kernel
theorem dX6_beside_9 : decode cX6_beside 9 = .ok (.iconst 1, 1) := by decide +kernel
theorem dX6_beside_10 : decode cX6_beside 10 = .ok (.goto 13, 3) := by decide +kernel
theorem dX6_beside_13 : decode cX6_beside 13 = .ok (.iload_n 1, 1) := by decide +kernel
theorem dX6_beside_14 : decode cX6_beside 14 = .ok (.iconst 3, 1) := by decide +kernel
theorem dX6_beside_15 : decode cX6_beside 15 = .ok (.if_icmp .ne 7, 3) := by decide +kernel
theorem dX6_beside_18 : decode cX6_beside 18 = .ok (.iconst (-1), 1) := by decide +kernel
theorem dX6_beside_19 : decode cX6_beside 19 = .ok (.goto 4, 3) := by decide +kernel
theorem dX6_beside_22 : decode cX6_beside 22 = .ok (.iconst 0, 1) := by decide +kernel
theorem dX6_beside_23 : decode cX6_beside 23 = .ok (.iadd, 1) := by decide +kernel
theorem dX6_beside_24 : decode cX6_beside 24 = .ok (.istore_n 2, 1) := by decide +kernel
theorem dX6_beside_25 : decode cX6_beside 25 = .ok (.iload_n 0, 1) := by decide +kernel
theorem dX6_beside_26 : decode cX6_beside 26 = .ok (.bipush 6, 2) := by decide +kernel
theorem dX6_beside_28 : decode cX6_beside 28 = .ok (.irem, 1) := by decide +kernel
theorem dX6_beside_29 : decode cX6_beside 29 = .ok (.iload_n 1, 1) := by decide +kernel
theorem dX6_beside_30 : decode cX6_beside 30 = .ok (.ifCond .ne 7, 3) := by decide +kernel
theorem dX6_beside_33 : decode cX6_beside 33 = .ok (.iconst 1, 1) := by decide +kernel
theorem dX6_beside_34 : decode cX6_beside 34 = .ok (.goto 13, 3) := by decide +kernel
theorem dX6_beside_37 : decode cX6_beside 37 = .ok (.iload_n 1, 1) := by decide +kernel
theorem dX6_beside_38 : decode cX6_beside 38 = .ok (.iconst 2, 1) := by decide +kernel
theorem dX6_beside_39 : decode cX6_beside 39 = .ok (.if_icmp .ne 7, 3) := by decide +kernel
theorem dX6_beside_42 : decode cX6_beside 42 = .ok (.iconst (-1), 1) := by decide +kernel
theorem dX6_beside_43 : decode cX6_beside 43 = .ok (.goto 4, 3) := by decide +kernel
theorem dX6_beside_46 : decode cX6_beside 46 = .ok (.iconst 0, 1) := by decide +kernel
theorem dX6_beside_47 : decode cX6_beside 47 = .ok (.iadd, 1) := by decide +kernel
theorem dX6_beside_48 : decode cX6_beside 48 = .ok (.istore_n 3, 1) := by decide +kernel
theorem dX6_beside_49 : decode cX6_beside 49 = .ok (.iload_n 2, 1) := by decide +kernel
theorem dX6_beside_50 : decode cX6_beside 50 = .ok (.iconst 0, 1) := by decide +kernel
theorem dX6_beside_51 : decode cX6_beside 51 = .ok (.iconst 5, 1) := by decide +kernel
theorem dX6_beside_52 : decode cX6_beside 52 = .ok (.invokestatic 35, 3) := by decide +kernel
theorem dX6_beside_55 : decode cX6_beside 55 = .ok (.ifCond .eq 21, 3) := by decide +kernel
theorem dX6_beside_58 : decode cX6_beside 58 = .ok (.iload_n 3, 1) := by decide +kernel
theorem dX6_beside_59 : decode cX6_beside 59 = .ok (.iconst 0, 1) := by decide +kernel
theorem dX6_beside_60 : decode cX6_beside 60 = .ok (.iconst 5, 1) := by decide +kernel
theorem dX6_beside_61 : decode cX6_beside 61 = .ok (.invokestatic 35, 3) := by decide +kernel
theorem dX6_beside_64 : decode cX6_beside 64 = .ok (.ifCond .eq 12, 3) := by decide +kernel
theorem dX6_beside_67 : decode cX6_beside 67 = .ok (.bipush 6, 2) := by decide +kernel
theorem dX6_beside_69 : decode cX6_beside 69 = .ok (.iload_n 2, 1) := by decide +kernel
theorem dX6_beside_70 : decode cX6_beside 70 = .ok (.imul, 1) := by decide +kernel
theorem dX6_beside_71 : decode cX6_beside 71 = .ok (.iload_n 3, 1) := by decide +kernel
theorem dX6_beside_72 : decode cX6_beside 72 = .ok (.iadd, 1) := by decide +kernel
theorem dX6_beside_73 : decode cX6_beside 73 = .ok (.goto 5, 3) := by decide +kernel
theorem dX6_beside_76 : decode cX6_beside 76 = .ok (.bipush (-5), 2) := by decide +kernel
theorem dX6_beside_78 : decode cX6_beside 78 = .ok (.ireturn, 1) := by decide +kernel
theorem dX6_wayEnd_0 : decode cX6_wayEnd 0 = .ok (.iload_n 2, 1) := by decide +kernel
theorem dX6_wayEnd_1 : decode cX6_wayEnd 1 = .ok (.bipush 100, 2) := by decide +kernel
theorem dX6_wayEnd_3 : decode cX6_wayEnd 3 = .ok (.idiv, 1) := by decide +kernel
theorem dX6_wayEnd_4 : decode cX6_wayEnd 4 = .ok (.istore 6, 2) := by decide +kernel
theorem dX6_wayEnd_6 : decode cX6_wayEnd 6 = .ok (.iload_n 3, 1) := by decide +kernel
theorem dX6_wayEnd_7 : decode cX6_wayEnd 7 = .ok (.istore 7, 2) := by decide +kernel
theorem dX6_wayEnd_9 : decode cX6_wayEnd 9 = .ok (.iconst 0, 1) := by decide +kernel
theorem dX6_wayEnd_10 : decode cX6_wayEnd 10 = .ok (.istore 8, 2) := by decide +kernel
theorem dX6_wayEnd_12 : decode cX6_wayEnd 12 = .ok (.iload 8, 2) := by decide +kernel
theorem dX6_wayEnd_14 : decode cX6_wayEnd 14 = .ok (.iload 4, 2) := by decide +kernel
theorem dX6_wayEnd_16 : decode cX6_wayEnd 16 = .ok (.bipush 10, 2) := by decide +kernel
theorem dX6_wayEnd_18 : decode cX6_wayEnd 18 = .ok (.irem, 1) := by decide +kernel
theorem dX6_wayEnd_19 : decode cX6_wayEnd 19 = .ok (.if_icmp .ge 86, 3) := by decide +kernel
theorem dX6_wayEnd_22 : decode cX6_wayEnd 22 = .ok (.iload 7, 2) := by decide +kernel
theorem dX6_wayEnd_24 : decode cX6_wayEnd 24 = .ok (.iload 6, 2) := by decide +kernel
theorem dX6_wayEnd_26 : decode cX6_wayEnd 26 = .ok (.invokestatic 61, 3) := by decide +kernel
theorem dX6_wayEnd_29 : decode cX6_wayEnd 29 = .ok (.if_icmp .ne 7, 3) := by decide +kernel
theorem dX6_wayEnd_32 : decode cX6_wayEnd 32 = .ok (.iconst 1, 1) := by decide +kernel
theorem dX6_wayEnd_33 : decode cX6_wayEnd 33 = .ok (.goto 4, 3) := by decide +kernel
theorem dX6_wayEnd_36 : decode cX6_wayEnd 36 = .ok (.iconst 0, 1) := by decide +kernel
theorem dX6_wayEnd_37 : decode cX6_wayEnd 37 = .ok (.istore 9, 2) := by decide +kernel
theorem dX6_wayEnd_39 : decode cX6_wayEnd 39 = .ok (.iload 9, 2) := by decide +kernel
theorem dX6_wayEnd_41 : decode cX6_wayEnd 41 = .ok (.ifCond .eq 8, 3) := by decide +kernel
theorem dX6_wayEnd_44 : decode cX6_wayEnd 44 = .ok (.bipush (-5), 2) := by decide +kernel
theorem dX6_wayEnd_46 : decode cX6_wayEnd 46 = .ok (.goto 13, 3) := by decide +kernel
theorem dX6_wayEnd_49 : decode cX6_wayEnd 49 = .ok (.iload 7, 2) := by decide +kernel
theorem dX6_wayEnd_51 : decode cX6_wayEnd 51 = .ok (.iload 4, 2) := by decide +kernel
theorem dX6_wayEnd_53 : decode cX6_wayEnd 53 = .ok (.bipush 10, 2) := by decide +kernel
theorem dX6_wayEnd_55 : decode cX6_wayEnd 55 = .ok (.idiv, 1) := by decide +kernel
theorem dX6_wayEnd_56 : decode cX6_wayEnd 56 = .ok (.invokestatic 65, 3) := by decide +kernel
theorem dX6_wayEnd_59 : decode cX6_wayEnd 59 = .ok (.istore 7, 2) := by decide +kernel
theorem dX6_wayEnd_61 : decode cX6_wayEnd 61 = .ok (.iload 7, 2) := by decide +kernel
theorem dX6_wayEnd_63 : decode cX6_wayEnd 63 = .ok (.bipush (-5), 2) := by decide +kernel
theorem dX6_wayEnd_65 : decode cX6_wayEnd 65 = .ok (.if_icmp .eq 31, 3) := by decide +kernel
theorem dX6_wayEnd_68 : decode cX6_wayEnd 68 = .ok (.iload 7, 2) := by decide +kernel
theorem dX6_wayEnd_70 : decode cX6_wayEnd 70 = .ok (.iconst 1, 1) := by decide +kernel
theorem dX6_wayEnd_71 : decode cX6_wayEnd 71 = .ok (.iload 6, 2) := by decide +kernel
theorem dX6_wayEnd_73 : decode cX6_wayEnd 73 = .ok (.isub, 1) := by decide +kernel
theorem dX6_wayEnd_74 : decode cX6_wayEnd 74 = .ok (.invokestatic 61, 3) := by decide +kernel
theorem dX6_wayEnd_77 : decode cX6_wayEnd 77 = .ok (.if_icmp .eq 19, 3) := by decide +kernel
theorem dX6_wayEnd_80 : decode cX6_wayEnd 80 = .ok (.aload_n 0, 1) := by decide +kernel
theorem dX6_wayEnd_81 : decode cX6_wayEnd 81 = .ok (.iload_n 1, 1) := by decide +kernel
theorem dX6_wayEnd_82 : decode cX6_wayEnd 82 = .ok (.iload 7, 2) := by decide +kernel
theorem dX6_wayEnd_84 : decode cX6_wayEnd 84 = .ok (.iload_n 2, 1) := by decide +kernel
theorem dX6_wayEnd_85 : decode cX6_wayEnd 85 = .ok (.bipush 100, 2) := by decide +kernel
theorem dX6_wayEnd_87 : decode cX6_wayEnd 87 = .ok (.irem, 1) := by decide +kernel
theorem dX6_wayEnd_88 : decode cX6_wayEnd 88 = .ok (.iload 5, 2) := by decide +kernel
theorem dX6_wayEnd_90 : decode cX6_wayEnd 90 = .ok (.invokevirtual 57, 3) := by decide +kernel
theorem dX6_wayEnd_93 : decode cX6_wayEnd 93 = .ok (.ifCond .ne 6, 3) := by decide +kernel
theorem dX6_wayEnd_96 : decode cX6_wayEnd 96 = .ok (.bipush (-5), 2) := by decide +kernel
theorem dX6_wayEnd_98 : decode cX6_wayEnd 98 = .ok (.ireturn, 1) := by decide +kernel
theorem dX6_wayEnd_99 : decode cX6_wayEnd 99 = .ok (.iinc 8 1, 3) := by decide +kernel
theorem dX6_wayEnd_102 : decode cX6_wayEnd 102 = .ok (.goto (-90), 3) := by decide +kernel
theorem dX6_wayEnd_105 : decode cX6_wayEnd 105 = .ok (.iload 7, 2) := by decide +kernel
theorem dX6_wayEnd_107 : decode cX6_wayEnd 107 = .ok (.ireturn, 1) := by decide +kernel
theorem dX6_boatAt_0 : decode cX6_boatAt 0 = .ok (.iconst 0, 1) := by decide +kernel
theorem dX6_boatAt_1 : decode cX6_boatAt 1 = .ok (.istore_n 3, 1) := by decide +kernel
theorem dX6_boatAt_2 : decode cX6_boatAt 2 = .ok (.iload_n 3, 1) := by decide +kernel
theorem dX6_boatAt_3 : decode cX6_boatAt 3 = .ok (.aload_n 0, 1) := by decide +kernel
theorem dX6_boatAt_4 : decode cX6_boatAt 4 = .ok (.getfield 7, 3) := by decide +kernel
theorem dX6_boatAt_7 : decode cX6_boatAt 7 = .ok (.iload_n 1, 1) := by decide +kernel
theorem dX6_boatAt_8 : decode cX6_boatAt 8 = .ok (.bipush 127, 2) := by decide +kernel
theorem dX6_boatAt_10 : decode cX6_boatAt 10 = .ok (.iadd, 1) := by decide +kernel
theorem dX6_boatAt_11 : decode cX6_boatAt 11 = .ok (.iaload, 1) := by decide +kernel
theorem dX6_boatAt_12 : decode cX6_boatAt 12 = .ok (.if_icmp .ge 32, 3) := by decide +kernel
theorem dX6_boatAt_15 : decode cX6_boatAt 15 = .ok (.aload_n 0, 1) := by decide +kernel
theorem dX6_boatAt_16 : decode cX6_boatAt 16 = .ok (.iload_n 1, 1) := by decide +kernel
theorem dX6_boatAt_17 : decode cX6_boatAt 17 = .ok (.iload_n 3, 1) := by decide +kernel
theorem dX6_boatAt_18 : decode cX6_boatAt 18 = .ok (.iconst 2, 1) := by decide +kernel
theorem dX6_boatAt_19 : decode cX6_boatAt 19 = .ok (.invokevirtual 68, 3) := by decide +kernel
theorem dX6_boatAt_22 : decode cX6_boatAt 22 = .ok (.ifCond .ne 16, 3) := by decide +kernel
theorem dX6_boatAt_25 : decode cX6_boatAt 25 = .ok (.aload_n 0, 1) := by decide +kernel
theorem dX6_boatAt_26 : decode cX6_boatAt 26 = .ok (.iload_n 1, 1) := by decide +kernel
theorem dX6_boatAt_27 : decode cX6_boatAt 27 = .ok (.iload_n 3, 1) := by decide +kernel
theorem dX6_boatAt_28 : decode cX6_boatAt 28 = .ok (.iconst 3, 1) := by decide +kernel
theorem dX6_boatAt_29 : decode cX6_boatAt 29 = .ok (.invokevirtual 68, 3) := by decide +kernel
theorem dX6_boatAt_32 : decode cX6_boatAt 32 = .ok (.iload_n 2, 1) := by decide +kernel
theorem dX6_boatAt_33 : decode cX6_boatAt 33 = .ok (.if_icmp .ne 5, 3) := by decide +kernel
theorem dX6_boatAt_36 : decode cX6_boatAt 36 = .ok (.iload_n 3, 1) := by decide +kernel
theorem dX6_boatAt_37 : decode cX6_boatAt 37 = .ok (.ireturn, 1) := by decide +kernel
theorem dX6_boatAt_38 : decode cX6_boatAt 38 = .ok (.iinc 3 1, 3) := by decide +kernel
theorem dX6_boatAt_41 : decode cX6_boatAt 41 = .ok (.goto (-39), 3) := by decide +kernel
theorem dX6_boatAt_44 : decode cX6_boatAt 44 = .ok (.bipush (-5), 2) := by decide +kernel
theorem dX6_boatAt_46 : decode cX6_boatAt 46 = .ok (.ireturn, 1) := by decide +kernel
theorem dX6_isAfloat_0 : decode cX6_isAfloat 0 = .ok (.aload_n 0, 1) := by decide +kernel
theorem dX6_isAfloat_1 : decode cX6_isAfloat 1 = .ok (.iload_n 1, 1) := by decide +kernel
theorem dX6_isAfloat_2 : decode cX6_isAfloat 2 = .ok (.iload_n 2, 1) := by decide +kernel
theorem dX6_isAfloat_3 : decode cX6_isAfloat 3 = .ok (.iconst 2, 1) := by decide +kernel
theorem dX6_isAfloat_4 : decode cX6_isAfloat 4 = .ok (.invokevirtual 68, 3) := by decide +kernel
theorem dX6_isAfloat_7 : decode cX6_isAfloat 7 = .ok (.ifCond .ne 38, 3) := by decide +kernel
theorem dX6_isAfloat_10 : decode cX6_isAfloat 10 = .ok (.aload_n 0, 1) := by decide +kernel
theorem dX6_isAfloat_11 : decode cX6_isAfloat 11 = .ok (.iload_n 1, 1) := by decide +kernel
theorem dX6_isAfloat_12 : decode cX6_isAfloat 12 = .ok (.aload_n 0, 1) := by decide +kernel
theorem dX6_isAfloat_13 : decode cX6_isAfloat 13 = .ok (.iload_n 1, 1) := by decide +kernel
theorem dX6_isAfloat_14 : decode cX6_isAfloat 14 = .ok (.iload_n 2, 1) := by decide +kernel
theorem dX6_isAfloat_15 : decode cX6_isAfloat 15 = .ok (.iconst 3, 1) := by decide +kernel
theorem dX6_isAfloat_16 : decode cX6_isAfloat 16 = .ok (.invokevirtual 68, 3) := by decide +kernel
theorem dX6_isAfloat_19 : decode cX6_isAfloat 19 = .ok (.aload_n 0, 1) := by decide +kernel
end
section
theorem dX6_isAfloat_20 : decode cX6_isAfloat 20 = .ok (.iload_n 1, 1) := by decide +kernel
theorem dX6_isAfloat_21 : decode cX6_isAfloat 21 = .ok (.iload_n 2, 1) := by decide +kernel
theorem dX6_isAfloat_22 : decode cX6_isAfloat 22 = .ok (.iconst 1, 1) := by decide +kernel
theorem dX6_isAfloat_23 : decode cX6_isAfloat 23 = .ok (.invokevirtual 68, 3) := by decide +kernel
theorem dX6_isAfloat_26 : decode cX6_isAfloat 26 = .ok (.aload_n 0, 1) := by decide +kernel
theorem dX6_isAfloat_27 : decode cX6_isAfloat 27 = .ok (.getfield 7, 3) := by decide +kernel
theorem dX6_isAfloat_30 : decode cX6_isAfloat 30 = .ok (.iload_n 1, 1) := by decide +kernel
theorem dX6_isAfloat_31 : decode cX6_isAfloat 31 = .ok (.bipush 126, 2) := by decide +kernel
theorem dX6_isAfloat_33 : decode cX6_isAfloat 33 = .ok (.iadd, 1) := by decide +kernel
theorem dX6_isAfloat_34 : decode cX6_isAfloat 34 = .ok (.iaload, 1) := by decide +kernel
theorem dX6_isAfloat_35 : decode cX6_isAfloat 35 = .ok (.invokevirtual 57, 3) := by decide +kernel
theorem dX6_isAfloat_38 : decode cX6_isAfloat 38 = .ok (.ifCond .eq 7, 3) := by decide +kernel
theorem dX6_isAfloat_41 : decode cX6_isAfloat 41 = .ok (.iconst 1, 1) := by decide +kernel
theorem dX6_isAfloat_42 : decode cX6_isAfloat 42 = .ok (.goto 4, 3) := by decide +kernel
theorem dX6_isAfloat_45 : decode cX6_isAfloat 45 = .ok (.iconst 0, 1) := by decide +kernel
theorem dX6_isAfloat_46 : decode cX6_isAfloat 46 = .ok (.ireturn, 1) := by decide +kernel
theorem dX6_isBlocked_0 : decode cX6_isBlocked 0 = .ok (.aload_n 0, 1) := by decide +kernel
theorem dX6_isBlocked_1 : decode cX6_isBlocked 1 = .ok (.iload_n 1, 1) := by decide +kernel
theorem dX6_isBlocked_2 : decode cX6_isBlocked 2 = .ok (.iload_n 2, 1) := by decide +kernel
theorem dX6_isBlocked_3 : decode cX6_isBlocked 3 = .ok (.iconst 3, 1) := by decide +kernel
theorem dX6_isBlocked_4 : decode cX6_isBlocked 4 = .ok (.invokevirtual 68, 3) := by decide +kernel
theorem dX6_isBlocked_7 : decode cX6_isBlocked 7 = .ok (.istore 4, 2) := by decide +kernel
theorem dX6_isBlocked_9 : decode cX6_isBlocked 9 = .ok (.iconst 0, 1) := by decide +kernel
theorem dX6_isBlocked_10 : decode cX6_isBlocked 10 = .ok (.istore 5, 2) := by decide +kernel
theorem dX6_isBlocked_12 : decode cX6_isBlocked 12 = .ok (.iconst 0, 1) := by decide +kernel
theorem dX6_isBlocked_13 : decode cX6_isBlocked 13 = .ok (.istore 6, 2) := by decide +kernel
theorem dX6_isBlocked_15 : decode cX6_isBlocked 15 = .ok (.iload 6, 2) := by decide +kernel
theorem dX6_isBlocked_17 : decode cX6_isBlocked 17 = .ok (.iload_n 3, 1) := by decide +kernel
theorem dX6_isBlocked_18 : decode cX6_isBlocked 18 = .ok (.bipush 10, 2) := by decide +kernel
theorem dX6_isBlocked_20 : decode cX6_isBlocked 20 = .ok (.irem, 1) := by decide +kernel
theorem dX6_isBlocked_21 : decode cX6_isBlocked 21 = .ok (.if_icmp .ge 118, 3) := by decide +kernel
theorem dX6_isBlocked_24 : decode cX6_isBlocked 24 = .ok (.iload 4, 2) := by decide +kernel
theorem dX6_isBlocked_26 : decode cX6_isBlocked 26 = .ok (.iload_n 3, 1) := by decide +kernel
theorem dX6_isBlocked_27 : decode cX6_isBlocked 27 = .ok (.bipush 10, 2) := by decide +kernel
theorem dX6_isBlocked_29 : decode cX6_isBlocked 29 = .ok (.idiv, 1) := by decide +kernel
theorem dX6_isBlocked_30 : decode cX6_isBlocked 30 = .ok (.invokestatic 65, 3) := by decide +kernel
theorem dX6_isBlocked_33 : decode cX6_isBlocked 33 = .ok (.istore 4, 2) := by decide +kernel
theorem dX6_isBlocked_35 : decode cX6_isBlocked 35 = .ok (.aload_n 0, 1) := by decide +kernel
theorem dX6_isBlocked_36 : decode cX6_isBlocked 36 = .ok (.iload_n 1, 1) := by decide +kernel
theorem dX6_isBlocked_37 : decode cX6_isBlocked 37 = .ok (.iload 4, 2) := by decide +kernel
theorem dX6_isBlocked_39 : decode cX6_isBlocked 39 = .ok (.invokevirtual 71, 3) := by decide +kernel
theorem dX6_isBlocked_42 : decode cX6_isBlocked 42 = .ok (.istore 7, 2) := by decide +kernel
theorem dX6_isBlocked_44 : decode cX6_isBlocked 44 = .ok (.iload 6, 2) := by decide +kernel
theorem dX6_isBlocked_46 : decode cX6_isBlocked 46 = .ok (.iload_n 3, 1) := by decide +kernel
theorem dX6_isBlocked_47 : decode cX6_isBlocked 47 = .ok (.bipush 10, 2) := by decide +kernel
theorem dX6_isBlocked_49 : decode cX6_isBlocked 49 = .ok (.irem, 1) := by decide +kernel
theorem dX6_isBlocked_50 : decode cX6_isBlocked 50 = .ok (.iconst 1, 1) := by decide +kernel
theorem dX6_isBlocked_51 : decode cX6_isBlocked 51 = .ok (.isub, 1) := by decide +kernel
theorem dX6_isBlocked_52 : decode cX6_isBlocked 52 = .ok (.if_icmp .ne 7, 3) := by decide +kernel
theorem dX6_isBlocked_55 : decode cX6_isBlocked 55 = .ok (.iconst 1, 1) := by decide +kernel
theorem dX6_isBlocked_56 : decode cX6_isBlocked 56 = .ok (.goto 4, 3) := by decide +kernel
theorem dX6_isBlocked_59 : decode cX6_isBlocked 59 = .ok (.iconst 0, 1) := by decide +kernel
theorem dX6_isBlocked_60 : decode cX6_isBlocked 60 = .ok (.istore 8, 2) := by decide +kernel
theorem dX6_isBlocked_62 : decode cX6_isBlocked 62 = .ok (.iload 7, 2) := by decide +kernel
theorem dX6_isBlocked_64 : decode cX6_isBlocked 64 = .ok (.bipush (-5), 2) := by decide +kernel
theorem dX6_isBlocked_66 : decode cX6_isBlocked 66 = .ok (.if_icmp .eq 40, 3) := by decide +kernel
theorem dX6_isBlocked_69 : decode cX6_isBlocked 69 = .ok (.iload 8, 2) := by decide +kernel
theorem dX6_isBlocked_71 : decode cX6_isBlocked 71 = .ok (.ifCond .eq 35, 3) := by decide +kernel
theorem dX6_isBlocked_74 : decode cX6_isBlocked 74 = .ok (.aload_n 0, 1) := by decide +kernel
theorem dX6_isBlocked_75 : decode cX6_isBlocked 75 = .ok (.iload_n 1, 1) := by decide +kernel
theorem dX6_isBlocked_76 : decode cX6_isBlocked 76 = .ok (.iload 7, 2) := by decide +kernel
theorem dX6_isBlocked_78 : decode cX6_isBlocked 78 = .ok (.iconst 0, 1) := by decide +kernel
theorem dX6_isBlocked_79 : decode cX6_isBlocked 79 = .ok (.invokevirtual 68, 3) := by decide +kernel
theorem dX6_isBlocked_82 : decode cX6_isBlocked 82 = .ok (.aload_n 0, 1) := by decide +kernel
theorem dX6_isBlocked_83 : decode cX6_isBlocked 83 = .ok (.iload_n 1, 1) := by decide +kernel
theorem dX6_isBlocked_84 : decode cX6_isBlocked 84 = .ok (.iload_n 2, 1) := by decide +kernel
theorem dX6_isBlocked_85 : decode cX6_isBlocked 85 = .ok (.iconst 0, 1) := by decide +kernel
theorem dX6_isBlocked_86 : decode cX6_isBlocked 86 = .ok (.invokevirtual 68, 3) := by decide +kernel
theorem dX6_isBlocked_89 : decode cX6_isBlocked 89 = .ok (.if_icmp .eq 17, 3) := by decide +kernel
theorem dX6_isBlocked_92 : decode cX6_isBlocked 92 = .ok (.aload_n 0, 1) := by decide +kernel
theorem dX6_isBlocked_93 : decode cX6_isBlocked 93 = .ok (.iload_n 1, 1) := by decide +kernel
theorem dX6_isBlocked_94 : decode cX6_isBlocked 94 = .ok (.iload 7, 2) := by decide +kernel
theorem dX6_isBlocked_96 : decode cX6_isBlocked 96 = .ok (.invokevirtual 74, 3) := by decide +kernel
theorem dX6_isBlocked_99 : decode cX6_isBlocked 99 = .ok (.ifCond .ne 7, 3) := by decide +kernel
theorem dX6_isBlocked_102 : decode cX6_isBlocked 102 = .ok (.iconst 1, 1) := by decide +kernel
theorem dX6_isBlocked_103 : decode cX6_isBlocked 103 = .ok (.goto 4, 3) := by decide +kernel
theorem dX6_isBlocked_106 : decode cX6_isBlocked 106 = .ok (.iconst 0, 1) := by decide +kernel
theorem dX6_isBlocked_107 : decode cX6_isBlocked 107 = .ok (.istore 9, 2) := by decide +kernel
theorem dX6_isBlocked_109 : decode cX6_isBlocked 109 = .ok (.iload 5, 2) := by decide +kernel
theorem dX6_isBlocked_111 : decode cX6_isBlocked 111 = .ok (.ifCond .ne 15, 3) := by decide +kernel
theorem dX6_isBlocked_114 : decode cX6_isBlocked 114 = .ok (.iload 7, 2) := by decide +kernel
theorem dX6_isBlocked_116 : decode cX6_isBlocked 116 = .ok (.bipush (-5), 2) := by decide +kernel
theorem dX6_isBlocked_118 : decode cX6_isBlocked 118 = .ok (.if_icmp .eq 12, 3) := by decide +kernel
theorem dX6_isBlocked_121 : decode cX6_isBlocked 121 = .ok (.iload 9, 2) := by decide +kernel
theorem dX6_isBlocked_123 : decode cX6_isBlocked 123 = .ok (.ifCond .ne 7, 3) := by decide +kernel
theorem dX6_isBlocked_126 : decode cX6_isBlocked 126 = .ok (.iconst 1, 1) := by decide +kernel
theorem dX6_isBlocked_127 : decode cX6_isBlocked 127 = .ok (.goto 4, 3) := by decide +kernel
theorem dX6_isBlocked_130 : decode cX6_isBlocked 130 = .ok (.iconst 0, 1) := by decide +kernel
theorem dX6_isBlocked_131 : decode cX6_isBlocked 131 = .ok (.istore 5, 2) := by decide +kernel
theorem dX6_isBlocked_133 : decode cX6_isBlocked 133 = .ok (.iinc 6 1, 3) := by decide +kernel
theorem dX6_isBlocked_136 : decode cX6_isBlocked 136 = .ok (.goto (-121), 3) := by decide +kernel
theorem dX6_isBlocked_139 : decode cX6_isBlocked 139 = .ok (.iload 5, 2) := by decide +kernel
theorem dX6_isBlocked_141 : decode cX6_isBlocked 141 = .ok (.ireturn, 1) := by decide +kernel
theorem dX6_kind_0 : decode cX6_kind 0 = .ok (.bipush 100, 2) := by decide +kernel
theorem dX6_kind_2 : decode cX6_kind 2 = .ok (.aload_n 0, 1) := by decide +kernel
theorem dX6_kind_3 : decode cX6_kind 3 = .ok (.iload_n 1, 1) := by decide +kernel
theorem dX6_kind_4 : decode cX6_kind 4 = .ok (.iload_n 2, 1) := by decide +kernel
theorem dX6_kind_5 : decode cX6_kind 5 = .ok (.iconst 0, 1) := by decide +kernel
theorem dX6_kind_6 : decode cX6_kind 6 = .ok (.invokevirtual 68, 3) := by decide +kernel
theorem dX6_kind_9 : decode cX6_kind 9 = .ok (.imul, 1) := by decide +kernel
theorem dX6_kind_10 : decode cX6_kind 10 = .ok (.aload_n 0, 1) := by decide +kernel
theorem dX6_kind_11 : decode cX6_kind 11 = .ok (.iload_n 1, 1) := by decide +kernel
theorem dX6_kind_12 : decode cX6_kind 12 = .ok (.iload_n 2, 1) := by decide +kernel
theorem dX6_kind_13 : decode cX6_kind 13 = .ok (.iconst 1, 1) := by decide +kernel
theorem dX6_kind_14 : decode cX6_kind 14 = .ok (.invokevirtual 68, 3) := by decide +kernel
theorem dX6_kind_17 : decode cX6_kind 17 = .ok (.iadd, 1) := by decide +kernel
theorem dX6_kind_18 : decode cX6_kind 18 = .ok (.ireturn, 1) := by decide +kernel
theorem dX6_onBoard_0 : decode cX6_onBoard 0 = .ok (.iconst 0, 1) := by decide +kernel
theorem dX6_onBoard_1 : decode cX6_onBoard 1 = .ok (.istore_n 3, 1) := by decide +kernel
theorem dX6_onBoard_2 : decode cX6_onBoard 2 = .ok (.iconst 0, 1) := by decide +kernel
theorem dX6_onBoard_3 : decode cX6_onBoard 3 = .ok (.istore 4, 2) := by decide +kernel
theorem dX6_onBoard_5 : decode cX6_onBoard 5 = .ok (.iload 4, 2) := by decide +kernel
theorem dX6_onBoard_7 : decode cX6_onBoard 7 = .ok (.aload_n 0, 1) := by decide +kernel
theorem dX6_onBoard_8 : decode cX6_onBoard 8 = .ok (.getfield 7, 3) := by decide +kernel
theorem dX6_onBoard_11 : decode cX6_onBoard 11 = .ok (.iload_n 1, 1) := by decide +kernel
theorem dX6_onBoard_12 : decode cX6_onBoard 12 = .ok (.bipush 127, 2) := by decide +kernel
theorem dX6_onBoard_14 : decode cX6_onBoard 14 = .ok (.iadd, 1) := by decide +kernel
theorem dX6_onBoard_15 : decode cX6_onBoard 15 = .ok (.iaload, 1) := by decide +kernel
theorem dX6_onBoard_16 : decode cX6_onBoard 16 = .ok (.if_icmp .ge 29, 3) := by decide +kernel
theorem dX6_onBoard_19 : decode cX6_onBoard 19 = .ok (.iload_n 3, 1) := by decide +kernel
theorem dX6_onBoard_20 : decode cX6_onBoard 20 = .ok (.aload_n 0, 1) := by decide +kernel
theorem dX6_onBoard_21 : decode cX6_onBoard 21 = .ok (.iload_n 1, 1) := by decide +kernel
theorem dX6_onBoard_22 : decode cX6_onBoard 22 = .ok (.iload 4, 2) := by decide +kernel
theorem dX6_onBoard_24 : decode cX6_onBoard 24 = .ok (.iconst 2, 1) := by decide +kernel
theorem dX6_onBoard_25 : decode cX6_onBoard 25 = .ok (.invokevirtual 68, 3) := by decide +kernel
theorem dX6_onBoard_28 : decode cX6_onBoard 28 = .ok (.iload_n 2, 1) := by decide +kernel
theorem dX6_onBoard_29 : decode cX6_onBoard 29 = .ok (.if_icmp .ne 7, 3) := by decide +kernel
theorem dX6_onBoard_32 : decode cX6_onBoard 32 = .ok (.iconst 1, 1) := by decide +kernel
theorem dX6_onBoard_33 : decode cX6_onBoard 33 = .ok (.goto 4, 3) := by decide +kernel
theorem dX6_onBoard_36 : decode cX6_onBoard 36 = .ok (.iconst 0, 1) := by decide +kernel
theorem dX6_onBoard_37 : decode cX6_onBoard 37 = .ok (.iadd, 1) := by decide +kernel
theorem dX6_onBoard_38 : decode cX6_onBoard 38 = .ok (.istore_n 3, 1) := by decide +kernel
theorem dX6_onBoard_39 : decode cX6_onBoard 39 = .ok (.iinc 4 1, 3) := by decide +kernel
theorem dX6_onBoard_42 : decode cX6_onBoard 42 = .ok (.goto (-37), 3) := by decide +kernel
theorem dX6_onBoard_45 : decode cX6_onBoard 45 = .ok (.iload_n 3, 1) := by decide +kernel
theorem dX6_onBoard_46 : decode cX6_onBoard 46 = .ok (.ireturn, 1) := by decide +kernel
theorem dX6_isOver_0 : decode cX6_isOver 0 = .ok (.aload_n 0, 1) := by decide +kernel
theorem dX6_isOver_1 : decode cX6_isOver 1 = .ok (.getfield 7, 3) := by decide +kernel
theorem dX6_isOver_4 : decode cX6_isOver 4 = .ok (.iload_n 1, 1) := by decide +kernel
theorem dX6_isOver_5 : decode cX6_isOver 5 = .ok (.bipush 126, 2) := by decide +kernel
theorem dX6_isOver_7 : decode cX6_isOver 7 = .ok (.iadd, 1) := by decide +kernel
theorem dX6_isOver_8 : decode cX6_isOver 8 = .ok (.iaload, 1) := by decide +kernel
theorem dX6_isOver_9 : decode cX6_isOver 9 = .ok (.aload_n 0, 1) := by decide +kernel
theorem dX6_isOver_10 : decode cX6_isOver 10 = .ok (.getfield 7, 3) := by decide +kernel
theorem dX6_isOver_13 : decode cX6_isOver 13 = .ok (.iload_n 1, 1) := by decide +kernel
theorem dX6_isOver_14 : decode cX6_isOver 14 = .ok (.bipush 122, 2) := by decide +kernel
theorem dX6_isOver_16 : decode cX6_isOver 16 = .ok (.iadd, 1) := by decide +kernel
theorem dX6_isOver_17 : decode cX6_isOver 17 = .ok (.iconst 3, 1) := by decide +kernel
theorem dX6_isOver_18 : decode cX6_isOver 18 = .ok (.iadd, 1) := by decide +kernel
theorem dX6_isOver_19 : decode cX6_isOver 19 = .ok (.iaload, 1) := by decide +kernel
theorem dX6_isOver_20 : decode cX6_isOver 20 = .ok (.if_icmp .gt 12, 3) := by decide +kernel
theorem dX6_isOver_23 : decode cX6_isOver 23 = .ok (.aload_n 0, 1) := by decide +kernel
theorem dX6_isOver_24 : decode cX6_isOver 24 = .ok (.iload_n 1, 1) := by decide +kernel
theorem dX6_isOver_25 : decode cX6_isOver 25 = .ok (.iconst 0, 1) := by decide +kernel
theorem dX6_isOver_26 : decode cX6_isOver 26 = .ok (.invokevirtual 78, 3) := by decide +kernel
theorem dX6_isOver_29 : decode cX6_isOver 29 = .ok (.ifCond .ne 7, 3) := by decide +kernel
theorem dX6_isOver_32 : decode cX6_isOver 32 = .ok (.iconst 1, 1) := by decide +kernel
theorem dX6_isOver_33 : decode cX6_isOver 33 = .ok (.goto 4, 3) := by decide +kernel
theorem dX6_isOver_36 : decode cX6_isOver 36 = .ok (.iconst 0, 1) := by decide +kernel
theorem dX6_isOver_37 : decode cX6_isOver 37 = .ok (.ireturn, 1) := by decide +kernel
theorem dX6_reason_0 : decode cX6_reason 0 = .ok (.aload_n 0, 1) := by decide +kernel
theorem dX6_reason_1 : decode cX6_reason 1 = .ok (.iload_n 1, 1) := by decide +kernel
theorem dX6_reason_2 : decode cX6_reason 2 = .ok (.invokevirtual 81, 3) := by decide +kernel
theorem dX6_reason_5 : decode cX6_reason 5 = .ok (.ifCond .eq 5, 3) := by decide +kernel
theorem dX6_reason_8 : decode cX6_reason 8 = .ok (.iconst 1, 1) := by decide +kernel
theorem dX6_reason_9 : decode cX6_reason 9 = .ok (.ireturn, 1) := by decide +kernel
theorem dX6_reason_10 : decode cX6_reason 10 = .ok (.aload_n 0, 1) := by decide +kernel
theorem dX6_reason_11 : decode cX6_reason 11 = .ok (.iload_n 1, 1) := by decide +kernel
theorem dX6_reason_12 : decode cX6_reason 12 = .ok (.iload_n 2, 1) := by decide +kernel
theorem dX6_reason_13 : decode cX6_reason 13 = .ok (.iconst 2, 1) := by decide +kernel
theorem dX6_reason_14 : decode cX6_reason 14 = .ok (.invokevirtual 68, 3) := by decide +kernel
theorem dX6_reason_17 : decode cX6_reason 17 = .ok (.ifCond .eq 5, 3) := by decide +kernel
theorem dX6_reason_20 : decode cX6_reason 20 = .ok (.iconst 2, 1) := by decide +kernel
theorem dX6_reason_21 : decode cX6_reason 21 = .ok (.ireturn, 1) := by decide +kernel
theorem dX6_reason_22 : decode cX6_reason 22 = .ok (.aload_n 0, 1) := by decide +kernel
theorem dX6_reason_23 : decode cX6_reason 23 = .ok (.iload_n 1, 1) := by decide +kernel
theorem dX6_reason_24 : decode cX6_reason 24 = .ok (.iload_n 2, 1) := by decide +kernel
theorem dX6_reason_25 : decode cX6_reason 25 = .ok (.invokevirtual 74, 3) := by decide +kernel
theorem dX6_reason_28 : decode cX6_reason 28 = .ok (.ifCond .ne 5, 3) := by decide +kernel
theorem dX6_reason_31 : decode cX6_reason 31 = .ok (.iconst 4, 1) := by decide +kernel
theorem dX6_reason_32 : decode cX6_reason 32 = .ok (.ireturn, 1) := by decide +kernel
theorem dX6_reason_33 : decode cX6_reason 33 = .ok (.aload_n 0, 1) := by decide +kernel
theorem dX6_reason_34 : decode cX6_reason 34 = .ok (.iload_n 1, 1) := by decide +kernel
theorem dX6_reason_35 : decode cX6_reason 35 = .ok (.aload_n 0, 1) := by decide +kernel
theorem dX6_reason_36 : decode cX6_reason 36 = .ok (.iload_n 1, 1) := by decide +kernel
theorem dX6_reason_37 : decode cX6_reason 37 = .ok (.iload_n 2, 1) := by decide +kernel
theorem dX6_reason_38 : decode cX6_reason 38 = .ok (.invokevirtual 85, 3) := by decide +kernel
theorem dX6_reason_41 : decode cX6_reason 41 = .ok (.aload_n 0, 1) := by decide +kernel
theorem dX6_reason_42 : decode cX6_reason 42 = .ok (.iload_n 1, 1) := by decide +kernel
theorem dX6_reason_43 : decode cX6_reason 43 = .ok (.iload_n 2, 1) := by decide +kernel
theorem dX6_reason_44 : decode cX6_reason 44 = .ok (.iconst 3, 1) := by decide +kernel
theorem dX6_reason_45 : decode cX6_reason 45 = .ok (.invokevirtual 68, 3) := by decide +kernel
theorem dX6_reason_48 : decode cX6_reason 48 = .ok (.iload_n 3, 1) := by decide +kernel
theorem dX6_reason_49 : decode cX6_reason 49 = .ok (.aload_n 0, 1) := by decide +kernel
theorem dX6_reason_50 : decode cX6_reason 50 = .ok (.getfield 7, 3) := by decide +kernel
theorem dX6_reason_53 : decode cX6_reason 53 = .ok (.iload_n 1, 1) := by decide +kernel
theorem dX6_reason_54 : decode cX6_reason 54 = .ok (.bipush 126, 2) := by decide +kernel
theorem dX6_reason_56 : decode cX6_reason 56 = .ok (.iadd, 1) := by decide +kernel
theorem dX6_reason_57 : decode cX6_reason 57 = .ok (.iaload, 1) := by decide +kernel
theorem dX6_reason_58 : decode cX6_reason 58 = .ok (.invokevirtual 88, 3) := by decide +kernel
theorem dX6_reason_61 : decode cX6_reason 61 = .ok (.istore 4, 2) := by decide +kernel
theorem dX6_reason_63 : decode cX6_reason 63 = .ok (.iload 4, 2) := by decide +kernel
theorem dX6_reason_65 : decode cX6_reason 65 = .ok (.bipush (-5), 2) := by decide +kernel
theorem dX6_reason_67 : decode cX6_reason 67 = .ok (.if_icmp .ne 7, 3) := by decide +kernel
theorem dX6_reason_70 : decode cX6_reason 70 = .ok (.iconst 5, 1) := by decide +kernel
theorem dX6_reason_71 : decode cX6_reason 71 = .ok (.goto 19, 3) := by decide +kernel
theorem dX6_reason_74 : decode cX6_reason 74 = .ok (.aload_n 0, 1) := by decide +kernel
theorem dX6_reason_75 : decode cX6_reason 75 = .ok (.iload_n 1, 1) := by decide +kernel
theorem dX6_reason_76 : decode cX6_reason 76 = .ok (.iload_n 2, 1) := by decide +kernel
theorem dX6_reason_77 : decode cX6_reason 77 = .ok (.iload_n 3, 1) := by decide +kernel
theorem dX6_reason_78 : decode cX6_reason 78 = .ok (.invokevirtual 92, 3) := by decide +kernel
theorem dX6_reason_81 : decode cX6_reason 81 = .ok (.ifCond .eq 8, 3) := by decide +kernel
theorem dX6_reason_84 : decode cX6_reason 84 = .ok (.bipush 6, 2) := by decide +kernel
theorem dX6_reason_86 : decode cX6_reason 86 = .ok (.goto 4, 3) := by decide +kernel
theorem dX6_reason_89 : decode cX6_reason 89 = .ok (.iconst 0, 1) := by decide +kernel
theorem dX6_reason_90 : decode cX6_reason 90 = .ok (.ireturn, 1) := by decide +kernel
theorem dX6_whyNot_0 : decode cX6_whyNot 0 = .ok (.aload_n 0, 1) := by decide +kernel
theorem dX6_whyNot_1 : decode cX6_whyNot 1 = .ok (.iload_n 1, 1) := by decide +kernel
theorem dX6_whyNot_2 : decode cX6_whyNot 2 = .ok (.iload_n 2, 1) := by decide +kernel
theorem dX6_whyNot_3 : decode cX6_whyNot 3 = .ok (.iload_n 3, 1) := by decide +kernel
theorem dX6_whyNot_4 : decode cX6_whyNot 4 = .ok (.invokevirtual 95, 3) := by decide +kernel
theorem dX6_whyNot_7 : decode cX6_whyNot 7 = .ok (.istore 4, 2) := by decide +kernel
theorem dX6_whyNot_9 : decode cX6_whyNot 9 = .ok (.aload_n 0, 1) := by decide +kernel
theorem dX6_whyNot_10 : decode cX6_whyNot 10 = .ok (.iload_n 1, 1) := by decide +kernel
theorem dX6_whyNot_11 : decode cX6_whyNot 11 = .ok (.iload_n 2, 1) := by decide +kernel
theorem dX6_whyNot_12 : decode cX6_whyNot 12 = .ok (.iconst 0, 1) := by decide +kernel
theorem dX6_whyNot_13 : decode cX6_whyNot 13 = .ok (.invokevirtual 68, 3) := by decide +kernel
theorem dX6_whyNot_16 : decode cX6_whyNot 16 = .ok (.aload_n 0, 1) := by decide +kernel
theorem dX6_whyNot_17 : decode cX6_whyNot 17 = .ok (.getfield 7, 3) := by decide +kernel
theorem dX6_whyNot_20 : decode cX6_whyNot 20 = .ok (.iload_n 1, 1) := by decide +kernel
theorem dX6_whyNot_21 : decode cX6_whyNot 21 = .ok (.bipush 126, 2) := by decide +kernel
theorem dX6_whyNot_23 : decode cX6_whyNot 23 = .ok (.iadd, 1) := by decide +kernel
theorem dX6_whyNot_24 : decode cX6_whyNot 24 = .ok (.iaload, 1) := by decide +kernel
theorem dX6_whyNot_25 : decode cX6_whyNot 25 = .ok (.iconst 2, 1) := by decide +kernel
theorem dX6_whyNot_26 : decode cX6_whyNot 26 = .ok (.irem, 1) := by decide +kernel
theorem dX6_whyNot_27 : decode cX6_whyNot 27 = .ok (.if_icmp .eq 7, 3) := by decide +kernel
theorem dX6_whyNot_30 : decode cX6_whyNot 30 = .ok (.iconst 1, 1) := by decide +kernel
theorem dX6_whyNot_31 : decode cX6_whyNot 31 = .ok (.goto 4, 3) := by decide +kernel
theorem dX6_whyNot_34 : decode cX6_whyNot 34 = .ok (.iconst 0, 1) := by decide +kernel
theorem dX6_whyNot_35 : decode cX6_whyNot 35 = .ok (.istore 5, 2) := by decide +kernel
theorem dX6_whyNot_37 : decode cX6_whyNot 37 = .ok (.iload 4, 2) := by decide +kernel
theorem dX6_whyNot_39 : decode cX6_whyNot 39 = .ok (.iconst 1, 1) := by decide +kernel
theorem dX6_whyNot_40 : decode cX6_whyNot 40 = .ok (.if_icmp .eq 18, 3) := by decide +kernel
theorem dX6_whyNot_43 : decode cX6_whyNot 43 = .ok (.iload 4, 2) := by decide +kernel
theorem dX6_whyNot_45 : decode cX6_whyNot 45 = .ok (.iconst 2, 1) := by decide +kernel
theorem dX6_whyNot_46 : decode cX6_whyNot 46 = .ok (.if_icmp .eq 12, 3) := by decide +kernel
theorem dX6_whyNot_49 : decode cX6_whyNot 49 = .ok (.iload 5, 2) := by decide +kernel
theorem dX6_whyNot_51 : decode cX6_whyNot 51 = .ok (.ifCond .eq 7, 3) := by decide +kernel
theorem dX6_whyNot_54 : decode cX6_whyNot 54 = .ok (.iconst 3, 1) := by decide +kernel
theorem dX6_whyNot_55 : decode cX6_whyNot 55 = .ok (.goto 5, 3) := by decide +kernel
theorem dX6_whyNot_58 : decode cX6_whyNot 58 = .ok (.iload 4, 2) := by decide +kernel
theorem dX6_whyNot_60 : decode cX6_whyNot 60 = .ok (.ireturn, 1) := by decide +kernel
theorem dX6_wayOf_0 : decode cX6_wayOf 0 = .ok (.iload_n 0, 1) := by decide +kernel
theorem dX6_wayOf_1 : decode cX6_wayOf 1 = .ok (.iconst 0, 1) := by decide +kernel
theorem dX6_wayOf_2 : decode cX6_wayOf 2 = .ok (.iconst 3, 1) := by decide +kernel
theorem dX6_wayOf_3 : decode cX6_wayOf 3 = .ok (.invokestatic 35, 3) := by decide +kernel
theorem dX6_wayOf_6 : decode cX6_wayOf 6 = .ok (.ifCond .eq 21, 3) := by decide +kernel
theorem dX6_wayOf_9 : decode cX6_wayOf 9 = .ok (.iload_n 1, 1) := by decide +kernel
theorem dX6_wayOf_10 : decode cX6_wayOf 10 = .ok (.iconst 1, 1) := by decide +kernel
theorem dX6_wayOf_11 : decode cX6_wayOf 11 = .ok (.iconst 3, 1) := by decide +kernel
theorem dX6_wayOf_12 : decode cX6_wayOf 12 = .ok (.invokestatic 35, 3) := by decide +kernel
theorem dX6_wayOf_15 : decode cX6_wayOf 15 = .ok (.ifCond .eq 12, 3) := by decide +kernel
theorem dX6_wayOf_18 : decode cX6_wayOf 18 = .ok (.bipush 10, 2) := by decide +kernel
theorem dX6_wayOf_20 : decode cX6_wayOf 20 = .ok (.iload_n 0, 1) := by decide +kernel
theorem dX6_wayOf_21 : decode cX6_wayOf 21 = .ok (.imul, 1) := by decide +kernel
theorem dX6_wayOf_22 : decode cX6_wayOf 22 = .ok (.iload_n 1, 1) := by decide +kernel
theorem dX6_wayOf_23 : decode cX6_wayOf 23 = .ok (.iadd, 1) := by decide +kernel
theorem dX6_wayOf_24 : decode cX6_wayOf 24 = .ok (.goto 5, 3) := by decide +kernel
theorem dX6_wayOf_27 : decode cX6_wayOf 27 = .ok (.bipush (-5), 2) := by decide +kernel
theorem dX6_wayOf_29 : decode cX6_wayOf 29 = .ok (.ireturn, 1) := by decide +kernel
theorem dX6_sands_0 : decode cX6_sands 0 = .ok (.iload_n 2, 1) := by decide +kernel
theorem dX6_sands_1 : decode cX6_sands 1 = .ok (.invokestatic 98, 3) := by decide +kernel
theorem dX6_sands_4 : decode cX6_sands 4 = .ok (.ifCond .ne 5, 3) := by decide +kernel
theorem dX6_sands_7 : decode cX6_sands 7 = .ok (.iconst (-1), 1) := by decide +kernel
theorem dX6_sands_8 : decode cX6_sands 8 = .ok (.ireturn, 1) := by decide +kernel
theorem dX6_sands_9 : decode cX6_sands 9 = .ok (.iload_n 3, 1) := by decide +kernel
theorem dX6_sands_10 : decode cX6_sands 10 = .ok (.iconst 0, 1) := by decide +kernel
theorem dX6_sands_11 : decode cX6_sands 11 = .ok (.iconst 4, 1) := by decide +kernel
theorem dX6_sands_12 : decode cX6_sands 12 = .ok (.invokestatic 35, 3) := by decide +kernel
theorem dX6_sands_15 : decode cX6_sands 15 = .ok (.ifCond .ne 6, 3) := by decide +kernel
theorem dX6_sands_18 : decode cX6_sands 18 = .ok (.bipush (-2), 2) := by decide +kernel
theorem dX6_sands_20 : decode cX6_sands 20 = .ok (.ireturn, 1) := by decide +kernel
theorem dX6_sands_21 : decode cX6_sands 21 = .ok (.iload_n 2, 1) := by decide +kernel
theorem dX6_sands_22 : decode cX6_sands 22 = .ok (.ifCond .eq 21, 3) := by decide +kernel
theorem dX6_sands_25 : decode cX6_sands 25 = .ok (.iload_n 2, 1) := by decide +kernel
theorem dX6_sands_26 : decode cX6_sands 26 = .ok (.bipush 35, 2) := by decide +kernel
theorem dX6_sands_28 : decode cX6_sands 28 = .ok (.if_icmp .eq 15, 3) := by decide +kernel
theorem dX6_sands_31 : decode cX6_sands 31 = .ok (.aload_n 0, 1) := by decide +kernel
theorem dX6_sands_32 : decode cX6_sands 32 = .ok (.getfield 7, 3) := by decide +kernel
theorem dX6_sands_35 : decode cX6_sands 35 = .ok (.iload_n 1, 1) := by decide +kernel
theorem dX6_sands_36 : decode cX6_sands 36 = .ok (.bipush 126, 2) := by decide +kernel
theorem dX6_sands_38 : decode cX6_sands 38 = .ok (.iadd, 1) := by decide +kernel
theorem dX6_sands_39 : decode cX6_sands 39 = .ok (.iaload, 1) := by decide +kernel
theorem dX6_sands_40 : decode cX6_sands 40 = .ok (.ifCond .eq 6, 3) := by decide +kernel
theorem dX6_sands_43 : decode cX6_sands 43 = .ok (.bipush (-4), 2) := by decide +kernel
theorem dX6_sands_45 : decode cX6_sands 45 = .ok (.ireturn, 1) := by decide +kernel
theorem dX6_sands_46 : decode cX6_sands 46 = .ok (.aload_n 0, 1) := by decide +kernel
theorem dX6_sands_47 : decode cX6_sands 47 = .ok (.getfield 7, 3) := by decide +kernel
theorem dX6_sands_50 : decode cX6_sands 50 = .ok (.iload_n 1, 1) := by decide +kernel
theorem dX6_sands_51 : decode cX6_sands 51 = .ok (.iconst 0, 1) := by decide +kernel
theorem dX6_sands_52 : decode cX6_sands 52 = .ok (.iadd, 1) := by decide +kernel
theorem dX6_sands_53 : decode cX6_sands 53 = .ok (.iload_n 2, 1) := by decide +kernel
theorem dX6_sands_54 : decode cX6_sands 54 = .ok (.iadd, 1) := by decide +kernel
theorem dX6_sands_55 : decode cX6_sands 55 = .ok (.iaload, 1) := by decide +kernel
theorem dX6_sands_56 : decode cX6_sands 56 = .ok (.istore 5, 2) := by decide +kernel
theorem dX6_sands_58 : decode cX6_sands 58 = .ok (.iload 5, 2) := by decide +kernel
theorem dX6_sands_60 : decode cX6_sands 60 = .ok (.iload_n 3, 1) := by decide +kernel
theorem dX6_sands_61 : decode cX6_sands 61 = .ok (.if_icmp .ne 22, 3) := by decide +kernel
theorem dX6_sands_64 : decode cX6_sands 64 = .ok (.aload_n 0, 1) := by decide +kernel
theorem dX6_sands_65 : decode cX6_sands 65 = .ok (.getfield 7, 3) := by decide +kernel
theorem dX6_sands_68 : decode cX6_sands 68 = .ok (.iload_n 1, 1) := by decide +kernel
theorem dX6_sands_69 : decode cX6_sands 69 = .ok (.bipush 36, 2) := by decide +kernel
theorem dX6_sands_71 : decode cX6_sands 71 = .ok (.iadd, 1) := by decide +kernel
theorem dX6_sands_72 : decode cX6_sands 72 = .ok (.iload_n 2, 1) := by decide +kernel
theorem dX6_sands_73 : decode cX6_sands 73 = .ok (.iadd, 1) := by decide +kernel
theorem dX6_sands_74 : decode cX6_sands 74 = .ok (.iaload, 1) := by decide +kernel
theorem dX6_sands_75 : decode cX6_sands 75 = .ok (.iload 4, 2) := by decide +kernel
theorem dX6_sands_77 : decode cX6_sands 77 = .ok (.if_icmp .ne 6, 3) := by decide +kernel
theorem dX6_sands_80 : decode cX6_sands 80 = .ok (.bipush (-5), 2) := by decide +kernel
theorem dX6_sands_82 : decode cX6_sands 82 = .ok (.ireturn, 1) := by decide +kernel
theorem dX6_sands_83 : decode cX6_sands 83 = .ok (.aload_n 0, 1) := by decide +kernel
theorem dX6_sands_84 : decode cX6_sands 84 = .ok (.getfield 7, 3) := by decide +kernel
theorem dX6_sands_87 : decode cX6_sands 87 = .ok (.iload_n 1, 1) := by decide +kernel
theorem dX6_sands_88 : decode cX6_sands 88 = .ok (.iconst 0, 1) := by decide +kernel
theorem dX6_sands_89 : decode cX6_sands 89 = .ok (.iadd, 1) := by decide +kernel
theorem dX6_sands_90 : decode cX6_sands 90 = .ok (.iload_n 2, 1) := by decide +kernel
theorem dX6_sands_91 : decode cX6_sands 91 = .ok (.iadd, 1) := by decide +kernel
theorem dX6_sands_92 : decode cX6_sands 92 = .ok (.iload_n 3, 1) := by decide +kernel
theorem dX6_sands_93 : decode cX6_sands 93 = .ok (.iastore, 1) := by decide +kernel
theorem dX6_sands_94 : decode cX6_sands 94 = .ok (.aload_n 0, 1) := by decide +kernel
theorem dX6_sands_95 : decode cX6_sands 95 = .ok (.getfield 7, 3) := by decide +kernel
theorem dX6_sands_98 : decode cX6_sands 98 = .ok (.iload_n 1, 1) := by decide +kernel
theorem dX6_sands_99 : decode cX6_sands 99 = .ok (.bipush 36, 2) := by decide +kernel
theorem dX6_sands_101 : decode cX6_sands 101 = .ok (.iadd, 1) := by decide +kernel
theorem dX6_sands_102 : decode cX6_sands 102 = .ok (.iload_n 2, 1) := by decide +kernel
theorem dX6_sands_103 : decode cX6_sands 103 = .ok (.iadd, 1) := by decide +kernel
theorem dX6_sands_104 : decode cX6_sands 104 = .ok (.iload 4, 2) := by decide +kernel
theorem dX6_sands_106 : decode cX6_sands 106 = .ok (.iastore, 1) := by decide +kernel
theorem dX6_sands_107 : decode cX6_sands 107 = .ok (.iload 5, 2) := by decide +kernel
theorem dX6_sands_109 : decode cX6_sands 109 = .ok (.ireturn, 1) := by decide +kernel
theorem dX6_comes_0 : decode cX6_comes 0 = .ok (.iload_n 2, 1) := by decide +kernel
theorem dX6_comes_1 : decode cX6_comes 1 = .ok (.iconst 0, 1) := by decide +kernel
theorem dX6_comes_2 : decode cX6_comes 2 = .ok (.iconst 1, 1) := by decide +kernel
theorem dX6_comes_3 : decode cX6_comes 3 = .ok (.invokestatic 35, 3) := by decide +kernel
theorem dX6_comes_6 : decode cX6_comes 6 = .ok (.ifCond .eq 11, 3) := by decide +kernel
theorem dX6_comes_9 : decode cX6_comes 9 = .ok (.iload 4, 2) := by decide +kernel
theorem dX6_comes_11 : decode cX6_comes 11 = .ok (.invokestatic 98, 3) := by decide +kernel
theorem dX6_comes_14 : decode cX6_comes 14 = .ok (.ifCond .ne 5, 3) := by decide +kernel
theorem dX6_comes_17 : decode cX6_comes 17 = .ok (.iconst (-1), 1) := by decide +kernel
theorem dX6_comes_18 : decode cX6_comes 18 = .ok (.ireturn, 1) := by decide +kernel
theorem dX6_comes_19 : decode cX6_comes 19 = .ok (.iload_n 3, 1) := by decide +kernel
theorem dX6_comes_20 : decode cX6_comes 20 = .ok (.iconst 1, 1) := by decide +kernel
theorem dX6_comes_21 : decode cX6_comes 21 = .ok (.iconst 3, 1) := by decide +kernel
theorem dX6_comes_22 : decode cX6_comes 22 = .ok (.invokestatic 35, 3) := by decide +kernel
theorem dX6_comes_25 : decode cX6_comes 25 = .ok (.ifCond .ne 6, 3) := by decide +kernel
theorem dX6_comes_28 : decode cX6_comes 28 = .ok (.bipush (-2), 2) := by decide +kernel
theorem dX6_comes_30 : decode cX6_comes 30 = .ok (.ireturn, 1) := by decide +kernel
theorem dX6_comes_31 : decode cX6_comes 31 = .ok (.aload_n 0, 1) := by decide +kernel
theorem dX6_comes_32 : decode cX6_comes 32 = .ok (.getfield 7, 3) := by decide +kernel
theorem dX6_comes_35 : decode cX6_comes 35 = .ok (.iload_n 1, 1) := by decide +kernel
theorem dX6_comes_36 : decode cX6_comes 36 = .ok (.bipush 126, 2) := by decide +kernel
theorem dX6_comes_38 : decode cX6_comes 38 = .ok (.iadd, 1) := by decide +kernel
theorem dX6_comes_39 : decode cX6_comes 39 = .ok (.iaload, 1) := by decide +kernel
theorem dX6_comes_40 : decode cX6_comes 40 = .ok (.ifCond .ne 27, 3) := by decide +kernel
theorem dX6_comes_43 : decode cX6_comes 43 = .ok (.iload 4, 2) := by decide +kernel
theorem dX6_comes_45 : decode cX6_comes 45 = .ok (.ifCond .eq 22, 3) := by decide +kernel
theorem dX6_comes_48 : decode cX6_comes 48 = .ok (.iload 4, 2) := by decide +kernel
theorem dX6_comes_50 : decode cX6_comes 50 = .ok (.bipush 35, 2) := by decide +kernel
theorem dX6_comes_52 : decode cX6_comes 52 = .ok (.if_icmp .eq 15, 3) := by decide +kernel
theorem dX6_comes_55 : decode cX6_comes 55 = .ok (.aload_n 0, 1) := by decide +kernel
theorem dX6_comes_56 : decode cX6_comes 56 = .ok (.iload_n 1, 1) := by decide +kernel
theorem dX6_comes_57 : decode cX6_comes 57 = .ok (.iload 4, 2) := by decide +kernel
theorem dX6_comes_59 : decode cX6_comes 59 = .ok (.invokevirtual 71, 3) := by decide +kernel
theorem dX6_comes_62 : decode cX6_comes 62 = .ok (.bipush (-5), 2) := by decide +kernel
theorem dX6_comes_64 : decode cX6_comes 64 = .ok (.if_icmp .eq 6, 3) := by decide +kernel
theorem dX6_comes_67 : decode cX6_comes 67 = .ok (.bipush (-4), 2) := by decide +kernel
theorem dX6_comes_69 : decode cX6_comes 69 = .ok (.ireturn, 1) := by decide +kernel
theorem dX6_comes_70 : decode cX6_comes 70 = .ok (.aload_n 0, 1) := by decide +kernel
theorem dX6_comes_71 : decode cX6_comes 71 = .ok (.getfield 7, 3) := by decide +kernel
theorem dX6_comes_74 : decode cX6_comes 74 = .ok (.iload_n 1, 1) := by decide +kernel
theorem dX6_comes_75 : decode cX6_comes 75 = .ok (.bipush 127, 2) := by decide +kernel
theorem dX6_comes_77 : decode cX6_comes 77 = .ok (.iadd, 1) := by decide +kernel
theorem dX6_comes_78 : decode cX6_comes 78 = .ok (.iaload, 1) := by decide +kernel
theorem dX6_comes_79 : decode cX6_comes 79 = .ok (.bipush 10, 2) := by decide +kernel
theorem dX6_comes_81 : decode cX6_comes 81 = .ok (.if_icmp .ne 6, 3) := by decide +kernel
theorem dX6_comes_84 : decode cX6_comes 84 = .ok (.bipush (-3), 2) := by decide +kernel
theorem dX6_comes_86 : decode cX6_comes 86 = .ok (.ireturn, 1) := by decide +kernel
theorem dX6_comes_87 : decode cX6_comes 87 = .ok (.iload_n 1, 1) := by decide +kernel
theorem dX6_comes_88 : decode cX6_comes 88 = .ok (.aload_n 0, 1) := by decide +kernel
theorem dX6_comes_89 : decode cX6_comes 89 = .ok (.getfield 7, 3) := by decide +kernel
theorem dX6_comes_92 : decode cX6_comes 92 = .ok (.iload_n 1, 1) := by decide +kernel
theorem dX6_comes_93 : decode cX6_comes 93 = .ok (.bipush 127, 2) := by decide +kernel
theorem dX6_comes_95 : decode cX6_comes 95 = .ok (.iadd, 1) := by decide +kernel
theorem dX6_comes_96 : decode cX6_comes 96 = .ok (.iaload, 1) := by decide +kernel
theorem dX6_comes_97 : decode cX6_comes 97 = .ok (.invokestatic 39, 3) := by decide +kernel
theorem dX6_comes_100 : decode cX6_comes 100 = .ok (.istore 5, 2) := by decide +kernel
theorem dX6_comes_102 : decode cX6_comes 102 = .ok (.aload_n 0, 1) := by decide +kernel
theorem dX6_comes_103 : decode cX6_comes 103 = .ok (.getfield 7, 3) := by decide +kernel
theorem dX6_comes_106 : decode cX6_comes 106 = .ok (.iload 5, 2) := by decide +kernel
theorem dX6_comes_108 : decode cX6_comes 108 = .ok (.iconst 0, 1) := by decide +kernel
theorem dX6_comes_109 : decode cX6_comes 109 = .ok (.iadd, 1) := by decide +kernel
theorem dX6_comes_110 : decode cX6_comes 110 = .ok (.iload_n 2, 1) := by decide +kernel
theorem dX6_comes_111 : decode cX6_comes 111 = .ok (.iastore, 1) := by decide +kernel
theorem dX6_comes_112 : decode cX6_comes 112 = .ok (.aload_n 0, 1) := by decide +kernel
theorem dX6_comes_113 : decode cX6_comes 113 = .ok (.getfield 7, 3) := by decide +kernel
theorem dX6_comes_116 : decode cX6_comes 116 = .ok (.iload 5, 2) := by decide +kernel
theorem dX6_comes_118 : decode cX6_comes 118 = .ok (.iconst 1, 1) := by decide +kernel
theorem dX6_comes_119 : decode cX6_comes 119 = .ok (.iadd, 1) := by decide +kernel
theorem dX6_comes_120 : decode cX6_comes 120 = .ok (.iload_n 3, 1) := by decide +kernel
theorem dX6_comes_121 : decode cX6_comes 121 = .ok (.iastore, 1) := by decide +kernel
theorem dX6_comes_122 : decode cX6_comes 122 = .ok (.aload_n 0, 1) := by decide +kernel
theorem dX6_comes_123 : decode cX6_comes 123 = .ok (.getfield 7, 3) := by decide +kernel
theorem dX6_comes_126 : decode cX6_comes 126 = .ok (.iload 5, 2) := by decide +kernel
theorem dX6_comes_128 : decode cX6_comes 128 = .ok (.iconst 2, 1) := by decide +kernel
theorem dX6_comes_129 : decode cX6_comes 129 = .ok (.iadd, 1) := by decide +kernel
theorem dX6_comes_130 : decode cX6_comes 130 = .ok (.iconst 0, 1) := by decide +kernel
theorem dX6_comes_131 : decode cX6_comes 131 = .ok (.iastore, 1) := by decide +kernel
theorem dX6_comes_132 : decode cX6_comes 132 = .ok (.aload_n 0, 1) := by decide +kernel
theorem dX6_comes_133 : decode cX6_comes 133 = .ok (.getfield 7, 3) := by decide +kernel
theorem dX6_comes_136 : decode cX6_comes 136 = .ok (.iload 5, 2) := by decide +kernel
theorem dX6_comes_138 : decode cX6_comes 138 = .ok (.iconst 3, 1) := by decide +kernel
theorem dX6_comes_139 : decode cX6_comes 139 = .ok (.iadd, 1) := by decide +kernel
theorem dX6_comes_140 : decode cX6_comes 140 = .ok (.iload 4, 2) := by decide +kernel
theorem dX6_comes_142 : decode cX6_comes 142 = .ok (.iastore, 1) := by decide +kernel
theorem dX6_comes_143 : decode cX6_comes 143 = .ok (.aload_n 0, 1) := by decide +kernel
theorem dX6_comes_144 : decode cX6_comes 144 = .ok (.getfield 7, 3) := by decide +kernel
theorem dX6_comes_147 : decode cX6_comes 147 = .ok (.iload 5, 2) := by decide +kernel
theorem dX6_comes_149 : decode cX6_comes 149 = .ok (.iconst 4, 1) := by decide +kernel
theorem dX6_comes_150 : decode cX6_comes 150 = .ok (.iadd, 1) := by decide +kernel
theorem dX6_comes_151 : decode cX6_comes 151 = .ok (.iconst 0, 1) := by decide +kernel
theorem dX6_comes_152 : decode cX6_comes 152 = .ok (.iastore, 1) := by decide +kernel
theorem dX6_comes_153 : decode cX6_comes 153 = .ok (.aload_n 0, 1) := by decide +kernel
theorem dX6_comes_154 : decode cX6_comes 154 = .ok (.getfield 7, 3) := by decide +kernel
theorem dX6_comes_157 : decode cX6_comes 157 = .ok (.iload_n 1, 1) := by decide +kernel
theorem dX6_comes_158 : decode cX6_comes 158 = .ok (.bipush 127, 2) := by decide +kernel
theorem dX6_comes_160 : decode cX6_comes 160 = .ok (.iadd, 1) := by decide +kernel
theorem dX6_comes_161 : decode cX6_comes 161 = .ok (.dup2, 1) := by decide +kernel
theorem dX6_comes_162 : decode cX6_comes 162 = .ok (.iaload, 1) := by decide +kernel
theorem dX6_comes_163 : decode cX6_comes 163 = .ok (.iconst 1, 1) := by decide +kernel
theorem dX6_comes_164 : decode cX6_comes 164 = .ok (.iadd, 1) := by decide +kernel
theorem dX6_comes_165 : decode cX6_comes 165 = .ok (.iastore, 1) := by decide +kernel
theorem dX6_comes_166 : decode cX6_comes 166 = .ok (.aload_n 0, 1) := by decide +kernel
theorem dX6_comes_167 : decode cX6_comes 167 = .ok (.getfield 7, 3) := by decide +kernel
theorem dX6_comes_170 : decode cX6_comes 170 = .ok (.iload_n 1, 1) := by decide +kernel
theorem dX6_comes_171 : decode cX6_comes 171 = .ok (.bipush 127, 2) := by decide +kernel
theorem dX6_comes_173 : decode cX6_comes 173 = .ok (.iadd, 1) := by decide +kernel
theorem dX6_comes_174 : decode cX6_comes 174 = .ok (.iaload, 1) := by decide +kernel
theorem dX6_comes_175 : decode cX6_comes 175 = .ok (.iconst 1, 1) := by decide +kernel
theorem dX6_comes_176 : decode cX6_comes 176 = .ok (.isub, 1) := by decide +kernel
theorem dX6_comes_177 : decode cX6_comes 177 = .ok (.ireturn, 1) := by decide +kernel
theorem dX6_passes_0 : decode cX6_passes 0 = .ok (.iconst 0, 1) := by decide +kernel
theorem dX6_passes_1 : decode cX6_passes 1 = .ok (.istore_n 2, 1) := by decide +kernel
theorem dX6_passes_2 : decode cX6_passes 2 = .ok (.iload_n 2, 1) := by decide +kernel
theorem dX6_passes_3 : decode cX6_passes 3 = .ok (.aload_n 0, 1) := by decide +kernel
theorem dX6_passes_4 : decode cX6_passes 4 = .ok (.getfield 7, 3) := by decide +kernel
theorem dX6_passes_7 : decode cX6_passes 7 = .ok (.iload_n 1, 1) := by decide +kernel
theorem dX6_passes_8 : decode cX6_passes 8 = .ok (.bipush 127, 2) := by decide +kernel
theorem dX6_passes_10 : decode cX6_passes 10 = .ok (.iadd, 1) := by decide +kernel
theorem dX6_passes_11 : decode cX6_passes 11 = .ok (.iaload, 1) := by decide +kernel
theorem dX6_passes_12 : decode cX6_passes 12 = .ok (.if_icmp .ge 83, 3) := by decide +kernel
theorem dX6_passes_15 : decode cX6_passes 15 = .ok (.aload_n 0, 1) := by decide +kernel
theorem dX6_passes_16 : decode cX6_passes 16 = .ok (.iload_n 1, 1) := by decide +kernel
theorem dX6_passes_17 : decode cX6_passes 17 = .ok (.iload_n 2, 1) := by decide +kernel
theorem dX6_passes_18 : decode cX6_passes 18 = .ok (.iconst 2, 1) := by decide +kernel
theorem dX6_passes_19 : decode cX6_passes 19 = .ok (.invokevirtual 68, 3) := by decide +kernel
theorem dX6_passes_22 : decode cX6_passes 22 = .ok (.ifCond .ne 38, 3) := by decide +kernel
theorem dX6_passes_25 : decode cX6_passes 25 = .ok (.aload_n 0, 1) := by decide +kernel
theorem dX6_passes_26 : decode cX6_passes 26 = .ok (.iload_n 1, 1) := by decide +kernel
theorem dX6_passes_27 : decode cX6_passes 27 = .ok (.aload_n 0, 1) := by decide +kernel
theorem dX6_passes_28 : decode cX6_passes 28 = .ok (.iload_n 1, 1) := by decide +kernel
theorem dX6_passes_29 : decode cX6_passes 29 = .ok (.iload_n 2, 1) := by decide +kernel
theorem dX6_passes_30 : decode cX6_passes 30 = .ok (.iconst 3, 1) := by decide +kernel
theorem dX6_passes_31 : decode cX6_passes 31 = .ok (.invokevirtual 68, 3) := by decide +kernel
theorem dX6_passes_34 : decode cX6_passes 34 = .ok (.aload_n 0, 1) := by decide +kernel
theorem dX6_passes_35 : decode cX6_passes 35 = .ok (.iload_n 1, 1) := by decide +kernel
theorem dX6_passes_36 : decode cX6_passes 36 = .ok (.iload_n 2, 1) := by decide +kernel
theorem dX6_passes_37 : decode cX6_passes 37 = .ok (.iconst 1, 1) := by decide +kernel
theorem dX6_passes_38 : decode cX6_passes 38 = .ok (.invokevirtual 68, 3) := by decide +kernel
theorem dX6_passes_41 : decode cX6_passes 41 = .ok (.aload_n 0, 1) := by decide +kernel
theorem dX6_passes_42 : decode cX6_passes 42 = .ok (.getfield 7, 3) := by decide +kernel
theorem dX6_passes_45 : decode cX6_passes 45 = .ok (.iload_n 1, 1) := by decide +kernel
theorem dX6_passes_46 : decode cX6_passes 46 = .ok (.bipush 126, 2) := by decide +kernel
theorem dX6_passes_48 : decode cX6_passes 48 = .ok (.iadd, 1) := by decide +kernel
theorem dX6_passes_49 : decode cX6_passes 49 = .ok (.iaload, 1) := by decide +kernel
theorem dX6_passes_50 : decode cX6_passes 50 = .ok (.invokevirtual 101, 3) := by decide +kernel
theorem dX6_passes_53 : decode cX6_passes 53 = .ok (.ifCond .eq 7, 3) := by decide +kernel
theorem dX6_passes_56 : decode cX6_passes 56 = .ok (.iconst 1, 1) := by decide +kernel
theorem dX6_passes_57 : decode cX6_passes 57 = .ok (.goto 4, 3) := by decide +kernel
theorem dX6_passes_60 : decode cX6_passes 60 = .ok (.iconst 0, 1) := by decide +kernel
theorem dX6_passes_61 : decode cX6_passes 61 = .ok (.istore_n 3, 1) := by decide +kernel
theorem dX6_passes_62 : decode cX6_passes 62 = .ok (.aload_n 0, 1) := by decide +kernel
theorem dX6_passes_63 : decode cX6_passes 63 = .ok (.getfield 7, 3) := by decide +kernel
theorem dX6_passes_66 : decode cX6_passes 66 = .ok (.iload_n 1, 1) := by decide +kernel
theorem dX6_passes_67 : decode cX6_passes 67 = .ok (.iload_n 2, 1) := by decide +kernel
theorem dX6_passes_68 : decode cX6_passes 68 = .ok (.invokestatic 39, 3) := by decide +kernel
theorem dX6_passes_71 : decode cX6_passes 71 = .ok (.iconst 2, 1) := by decide +kernel
theorem dX6_passes_72 : decode cX6_passes 72 = .ok (.iadd, 1) := by decide +kernel
theorem dX6_passes_73 : decode cX6_passes 73 = .ok (.iload_n 3, 1) := by decide +kernel
theorem dX6_passes_74 : decode cX6_passes 74 = .ok (.ifCond .eq 7, 3) := by decide +kernel
theorem dX6_passes_77 : decode cX6_passes 77 = .ok (.iconst 2, 1) := by decide +kernel
theorem dX6_passes_78 : decode cX6_passes 78 = .ok (.goto 10, 3) := by decide +kernel
theorem dX6_passes_81 : decode cX6_passes 81 = .ok (.aload_n 0, 1) := by decide +kernel
theorem dX6_passes_82 : decode cX6_passes 82 = .ok (.iload_n 1, 1) := by decide +kernel
theorem dX6_passes_83 : decode cX6_passes 83 = .ok (.iload_n 2, 1) := by decide +kernel
theorem dX6_passes_84 : decode cX6_passes 84 = .ok (.iconst 2, 1) := by decide +kernel
theorem dX6_passes_85 : decode cX6_passes 85 = .ok (.invokevirtual 68, 3) := by decide +kernel
theorem dX6_passes_88 : decode cX6_passes 88 = .ok (.iastore, 1) := by decide +kernel
theorem dX6_passes_89 : decode cX6_passes 89 = .ok (.iinc 2 1, 3) := by decide +kernel
theorem dX6_passes_92 : decode cX6_passes 92 = .ok (.goto (-90), 3) := by decide +kernel
theorem dX6_passes_95 : decode cX6_passes 95 = .ok (.aload_n 0, 1) := by decide +kernel
theorem dX6_passes_96 : decode cX6_passes 96 = .ok (.getfield 7, 3) := by decide +kernel
theorem dX6_passes_99 : decode cX6_passes 99 = .ok (.iload_n 1, 1) := by decide +kernel
theorem dX6_passes_100 : decode cX6_passes 100 = .ok (.bipush 126, 2) := by decide +kernel
theorem dX6_passes_102 : decode cX6_passes 102 = .ok (.iadd, 1) := by decide +kernel
theorem dX6_passes_103 : decode cX6_passes 103 = .ok (.dup2, 1) := by decide +kernel
theorem dX6_passes_104 : decode cX6_passes 104 = .ok (.iaload, 1) := by decide +kernel
theorem dX6_passes_105 : decode cX6_passes 105 = .ok (.iconst 1, 1) := by decide +kernel
theorem dX6_passes_106 : decode cX6_passes 106 = .ok (.iadd, 1) := by decide +kernel
theorem dX6_passes_107 : decode cX6_passes 107 = .ok (.iastore, 1) := by decide +kernel
theorem dX6_passes_108 : decode cX6_passes 108 = .ok (.return_, 1) := by decide +kernel
theorem dX6_moves_0 : decode cX6_moves 0 = .ok (.aload_n 0, 1) := by decide +kernel
theorem dX6_moves_1 : decode cX6_moves 1 = .ok (.iload_n 1, 1) := by decide +kernel
theorem dX6_moves_2 : decode cX6_moves 2 = .ok (.iload_n 2, 1) := by decide +kernel
theorem dX6_moves_3 : decode cX6_moves 3 = .ok (.invokevirtual 104, 3) := by decide +kernel
theorem dX6_moves_6 : decode cX6_moves 6 = .ok (.ifCond .ne 5, 3) := by decide +kernel
theorem dX6_moves_9 : decode cX6_moves 9 = .ok (.iconst (-1), 1) := by decide +kernel
theorem dX6_moves_10 : decode cX6_moves 10 = .ok (.ireturn, 1) := by decide +kernel
theorem dX6_moves_11 : decode cX6_moves 11 = .ok (.iload_n 3, 1) := by decide +kernel
theorem dX6_moves_12 : decode cX6_moves 12 = .ok (.bipush (-5), 2) := by decide +kernel
theorem dX6_moves_14 : decode cX6_moves 14 = .ok (.if_icmp .ne 6, 3) := by decide +kernel
theorem dX6_moves_17 : decode cX6_moves 17 = .ok (.bipush (-2), 2) := by decide +kernel
theorem dX6_moves_19 : decode cX6_moves 19 = .ok (.ireturn, 1) := by decide +kernel
theorem dX6_moves_20 : decode cX6_moves 20 = .ok (.aload_n 0, 1) := by decide +kernel
theorem dX6_moves_21 : decode cX6_moves 21 = .ok (.iload_n 1, 1) := by decide +kernel
theorem dX6_moves_22 : decode cX6_moves 22 = .ok (.iload_n 2, 1) := by decide +kernel
theorem dX6_moves_23 : decode cX6_moves 23 = .ok (.iload_n 3, 1) := by decide +kernel
theorem dX6_moves_24 : decode cX6_moves 24 = .ok (.invokevirtual 107, 3) := by decide +kernel
theorem dX6_moves_27 : decode cX6_moves 27 = .ok (.istore 4, 2) := by decide +kernel
theorem dX6_moves_29 : decode cX6_moves 29 = .ok (.iload 4, 2) := by decide +kernel
theorem dX6_moves_31 : decode cX6_moves 31 = .ok (.ifCond .le 9, 3) := by decide +kernel
theorem dX6_moves_34 : decode cX6_moves 34 = .ok (.bipush (-10), 2) := by decide +kernel
theorem dX6_moves_36 : decode cX6_moves 36 = .ok (.iload 4, 2) := by decide +kernel
theorem dX6_moves_38 : decode cX6_moves 38 = .ok (.isub, 1) := by decide +kernel
theorem dX6_moves_39 : decode cX6_moves 39 = .ok (.ireturn, 1) := by decide +kernel
theorem dX6_moves_40 : decode cX6_moves 40 = .ok (.aload_n 0, 1) := by decide +kernel
theorem dX6_moves_41 : decode cX6_moves 41 = .ok (.iload_n 1, 1) := by decide +kernel
theorem dX6_moves_42 : decode cX6_moves 42 = .ok (.aload_n 0, 1) := by decide +kernel
theorem dX6_moves_43 : decode cX6_moves 43 = .ok (.iload_n 1, 1) := by decide +kernel
theorem dX6_moves_44 : decode cX6_moves 44 = .ok (.iload_n 2, 1) := by decide +kernel
theorem dX6_moves_45 : decode cX6_moves 45 = .ok (.invokevirtual 85, 3) := by decide +kernel
theorem dX6_moves_48 : decode cX6_moves 48 = .ok (.aload_n 0, 1) := by decide +kernel
theorem dX6_moves_49 : decode cX6_moves 49 = .ok (.iload_n 1, 1) := by decide +kernel
theorem dX6_moves_50 : decode cX6_moves 50 = .ok (.iload_n 2, 1) := by decide +kernel
theorem dX6_moves_51 : decode cX6_moves 51 = .ok (.iconst 3, 1) := by decide +kernel
theorem dX6_moves_52 : decode cX6_moves 52 = .ok (.invokevirtual 68, 3) := by decide +kernel
theorem dX6_moves_55 : decode cX6_moves 55 = .ok (.iload_n 3, 1) := by decide +kernel
theorem dX6_moves_56 : decode cX6_moves 56 = .ok (.aload_n 0, 1) := by decide +kernel
theorem dX6_moves_57 : decode cX6_moves 57 = .ok (.getfield 7, 3) := by decide +kernel
theorem dX6_moves_60 : decode cX6_moves 60 = .ok (.iload_n 1, 1) := by decide +kernel
theorem dX6_moves_61 : decode cX6_moves 61 = .ok (.bipush 126, 2) := by decide +kernel
theorem dX6_moves_63 : decode cX6_moves 63 = .ok (.iadd, 1) := by decide +kernel
theorem dX6_moves_64 : decode cX6_moves 64 = .ok (.iaload, 1) := by decide +kernel
theorem dX6_moves_65 : decode cX6_moves 65 = .ok (.invokevirtual 88, 3) := by decide +kernel
theorem dX6_moves_68 : decode cX6_moves 68 = .ok (.istore 5, 2) := by decide +kernel
theorem dX6_moves_70 : decode cX6_moves 70 = .ok (.aload_n 0, 1) := by decide +kernel
theorem dX6_moves_71 : decode cX6_moves 71 = .ok (.iload_n 1, 1) := by decide +kernel
theorem dX6_moves_72 : decode cX6_moves 72 = .ok (.iload 5, 2) := by decide +kernel
theorem dX6_moves_74 : decode cX6_moves 74 = .ok (.invokevirtual 71, 3) := by decide +kernel
theorem dX6_moves_77 : decode cX6_moves 77 = .ok (.istore 6, 2) := by decide +kernel
theorem dX6_moves_79 : decode cX6_moves 79 = .ok (.iconst 0, 1) := by decide +kernel
theorem dX6_moves_80 : decode cX6_moves 80 = .ok (.istore 7, 2) := by decide +kernel
theorem dX6_moves_82 : decode cX6_moves 82 = .ok (.iload 6, 2) := by decide +kernel
theorem dX6_moves_84 : decode cX6_moves 84 = .ok (.bipush (-5), 2) := by decide +kernel
theorem dX6_moves_86 : decode cX6_moves 86 = .ok (.if_icmp .eq 41, 3) := by decide +kernel
theorem dX6_moves_89 : decode cX6_moves 89 = .ok (.aload_n 0, 1) := by decide +kernel
theorem dX6_moves_90 : decode cX6_moves 90 = .ok (.iload_n 1, 1) := by decide +kernel
theorem dX6_moves_91 : decode cX6_moves 91 = .ok (.iload 6, 2) := by decide +kernel
theorem dX6_moves_93 : decode cX6_moves 93 = .ok (.iconst 1, 1) := by decide +kernel
theorem dX6_moves_94 : decode cX6_moves 94 = .ok (.invokevirtual 68, 3) := by decide +kernel
theorem dX6_moves_97 : decode cX6_moves 97 = .ok (.istore 7, 2) := by decide +kernel
theorem dX6_moves_99 : decode cX6_moves 99 = .ok (.aload_n 0, 1) := by decide +kernel
theorem dX6_moves_100 : decode cX6_moves 100 = .ok (.getfield 7, 3) := by decide +kernel
theorem dX6_moves_103 : decode cX6_moves 103 = .ok (.iload_n 1, 1) := by decide +kernel
theorem dX6_moves_104 : decode cX6_moves 104 = .ok (.iload 6, 2) := by decide +kernel
theorem dX6_moves_106 : decode cX6_moves 106 = .ok (.invokestatic 39, 3) := by decide +kernel
theorem dX6_moves_109 : decode cX6_moves 109 = .ok (.iconst 2, 1) := by decide +kernel
theorem dX6_moves_110 : decode cX6_moves 110 = .ok (.iadd, 1) := by decide +kernel
theorem dX6_moves_111 : decode cX6_moves 111 = .ok (.iconst 2, 1) := by decide +kernel
theorem dX6_moves_112 : decode cX6_moves 112 = .ok (.iastore, 1) := by decide +kernel
theorem dX6_moves_113 : decode cX6_moves 113 = .ok (.aload_n 0, 1) := by decide +kernel
theorem dX6_moves_114 : decode cX6_moves 114 = .ok (.getfield 7, 3) := by decide +kernel
theorem dX6_moves_117 : decode cX6_moves 117 = .ok (.iload_n 1, 1) := by decide +kernel
theorem dX6_moves_118 : decode cX6_moves 118 = .ok (.sipush 128, 3) := by decide +kernel
theorem dX6_moves_121 : decode cX6_moves 121 = .ok (.iadd, 1) := by decide +kernel
theorem dX6_moves_122 : decode cX6_moves 122 = .ok (.dup2, 1) := by decide +kernel
theorem dX6_moves_123 : decode cX6_moves 123 = .ok (.iaload, 1) := by decide +kernel
theorem dX6_moves_124 : decode cX6_moves 124 = .ok (.iconst 1, 1) := by decide +kernel
theorem dX6_moves_125 : decode cX6_moves 125 = .ok (.iadd, 1) := by decide +kernel
theorem dX6_moves_126 : decode cX6_moves 126 = .ok (.iastore, 1) := by decide +kernel
theorem dX6_moves_127 : decode cX6_moves 127 = .ok (.aload_n 0, 1) := by decide +kernel
theorem dX6_moves_128 : decode cX6_moves 128 = .ok (.getfield 7, 3) := by decide +kernel
theorem dX6_moves_131 : decode cX6_moves 131 = .ok (.iload_n 1, 1) := by decide +kernel
theorem dX6_moves_132 : decode cX6_moves 132 = .ok (.iload_n 2, 1) := by decide +kernel
theorem dX6_moves_133 : decode cX6_moves 133 = .ok (.invokestatic 39, 3) := by decide +kernel
theorem dX6_moves_136 : decode cX6_moves 136 = .ok (.iconst 3, 1) := by decide +kernel
theorem dX6_moves_137 : decode cX6_moves 137 = .ok (.iadd, 1) := by decide +kernel
theorem dX6_moves_138 : decode cX6_moves 138 = .ok (.iload 5, 2) := by decide +kernel
theorem dX6_moves_140 : decode cX6_moves 140 = .ok (.iastore, 1) := by decide +kernel
theorem dX6_moves_141 : decode cX6_moves 141 = .ok (.aload_n 0, 1) := by decide +kernel
theorem dX6_moves_142 : decode cX6_moves 142 = .ok (.getfield 7, 3) := by decide +kernel
theorem dX6_moves_145 : decode cX6_moves 145 = .ok (.iload_n 1, 1) := by decide +kernel
theorem dX6_moves_146 : decode cX6_moves 146 = .ok (.iload_n 2, 1) := by decide +kernel
theorem dX6_moves_147 : decode cX6_moves 147 = .ok (.invokestatic 39, 3) := by decide +kernel
theorem dX6_moves_150 : decode cX6_moves 150 = .ok (.iconst 4, 1) := by decide +kernel
theorem dX6_moves_151 : decode cX6_moves 151 = .ok (.iadd, 1) := by decide +kernel
theorem dX6_moves_152 : decode cX6_moves 152 = .ok (.dup2, 1) := by decide +kernel
theorem dX6_moves_153 : decode cX6_moves 153 = .ok (.iaload, 1) := by decide +kernel
theorem dX6_moves_154 : decode cX6_moves 154 = .ok (.iload_n 3, 1) := by decide +kernel
theorem dX6_moves_155 : decode cX6_moves 155 = .ok (.bipush 10, 2) := by decide +kernel
theorem dX6_moves_157 : decode cX6_moves 157 = .ok (.irem, 1) := by decide +kernel
theorem dX6_moves_158 : decode cX6_moves 158 = .ok (.iadd, 1) := by decide +kernel
theorem dX6_moves_159 : decode cX6_moves 159 = .ok (.iastore, 1) := by decide +kernel
theorem dX6_moves_160 : decode cX6_moves 160 = .ok (.aload_n 0, 1) := by decide +kernel
theorem dX6_moves_161 : decode cX6_moves 161 = .ok (.getfield 7, 3) := by decide +kernel
theorem dX6_moves_164 : decode cX6_moves 164 = .ok (.iload_n 1, 1) := by decide +kernel
theorem dX6_moves_165 : decode cX6_moves 165 = .ok (.iload_n 2, 1) := by decide +kernel
theorem dX6_moves_166 : decode cX6_moves 166 = .ok (.invokestatic 39, 3) := by decide +kernel
theorem dX6_moves_169 : decode cX6_moves 169 = .ok (.iconst 2, 1) := by decide +kernel
theorem dX6_moves_170 : decode cX6_moves 170 = .ok (.iadd, 1) := by decide +kernel
theorem dX6_moves_171 : decode cX6_moves 171 = .ok (.iload 5, 2) := by decide +kernel
theorem dX6_moves_173 : decode cX6_moves 173 = .ok (.aload_n 0, 1) := by decide +kernel
theorem dX6_moves_174 : decode cX6_moves 174 = .ok (.iload_n 1, 1) := by decide +kernel
theorem dX6_moves_175 : decode cX6_moves 175 = .ok (.iload_n 2, 1) := by decide +kernel
theorem dX6_moves_176 : decode cX6_moves 176 = .ok (.iconst 0, 1) := by decide +kernel
theorem dX6_moves_177 : decode cX6_moves 177 = .ok (.invokevirtual 68, 3) := by decide +kernel
theorem dX6_moves_180 : decode cX6_moves 180 = .ok (.invokestatic 61, 3) := by decide +kernel
theorem dX6_moves_183 : decode cX6_moves 183 = .ok (.if_icmp .ne 7, 3) := by decide +kernel
theorem dX6_moves_186 : decode cX6_moves 186 = .ok (.iconst 1, 1) := by decide +kernel
theorem dX6_moves_187 : decode cX6_moves 187 = .ok (.goto 4, 3) := by decide +kernel
theorem dX6_moves_190 : decode cX6_moves 190 = .ok (.iconst 0, 1) := by decide +kernel
theorem dX6_moves_191 : decode cX6_moves 191 = .ok (.iastore, 1) := by decide +kernel
theorem dX6_moves_192 : decode cX6_moves 192 = .ok (.aload_n 0, 1) := by decide +kernel
theorem dX6_moves_193 : decode cX6_moves 193 = .ok (.iload_n 1, 1) := by decide +kernel
theorem dX6_moves_194 : decode cX6_moves 194 = .ok (.invokevirtual 110, 3) := by decide +kernel
theorem dX6_moves_197 : decode cX6_moves 197 = .ok (.iload 7, 2) := by decide +kernel
theorem dX6_moves_199 : decode cX6_moves 199 = .ok (.ireturn, 1) := by decide +kernel
theorem dX6_waits_0 : decode cX6_waits 0 = .ok (.aload_n 0, 1) := by decide +kernel
theorem dX6_waits_1 : decode cX6_waits 1 = .ok (.iload_n 1, 1) := by decide +kernel
theorem dX6_waits_2 : decode cX6_waits 2 = .ok (.invokevirtual 81, 3) := by decide +kernel
theorem dX6_waits_5 : decode cX6_waits 5 = .ok (.ifCond .eq 6, 3) := by decide +kernel
theorem dX6_waits_8 : decode cX6_waits 8 = .ok (.bipush (-4), 2) := by decide +kernel
theorem dX6_waits_10 : decode cX6_waits 10 = .ok (.ireturn, 1) := by decide +kernel
theorem dX6_waits_11 : decode cX6_waits 11 = .ok (.aload_n 0, 1) := by decide +kernel
theorem dX6_waits_12 : decode cX6_waits 12 = .ok (.iload_n 1, 1) := by decide +kernel
theorem dX6_waits_13 : decode cX6_waits 13 = .ok (.invokevirtual 110, 3) := by decide +kernel
theorem dX6_waits_16 : decode cX6_waits 16 = .ok (.aload_n 0, 1) := by decide +kernel
theorem dX6_waits_17 : decode cX6_waits 17 = .ok (.iload_n 1, 1) := by decide +kernel
theorem dX6_waits_18 : decode cX6_waits 18 = .ok (.aload_n 0, 1) := by decide +kernel
theorem dX6_waits_19 : decode cX6_waits 19 = .ok (.getfield 7, 3) := by decide +kernel
theorem dX6_waits_22 : decode cX6_waits 22 = .ok (.iload_n 1, 1) := by decide +kernel
theorem dX6_waits_23 : decode cX6_waits 23 = .ok (.bipush 126, 2) := by decide +kernel
theorem dX6_waits_25 : decode cX6_waits 25 = .ok (.iadd, 1) := by decide +kernel
theorem dX6_waits_26 : decode cX6_waits 26 = .ok (.iaload, 1) := by decide +kernel
theorem dX6_waits_27 : decode cX6_waits 27 = .ok (.invokevirtual 50, 3) := by decide +kernel
theorem dX6_waits_30 : decode cX6_waits 30 = .ok (.ireturn, 1) := by decide +kernel
theorem dX6_sand_0 : decode cX6_sand 0 = .ok (.aload_n 0, 1) := by decide +kernel
theorem dX6_sand_1 : decode cX6_sand 1 = .ok (.invokevirtual 114, 3) := by decide +kernel
theorem dX6_sand_4 : decode cX6_sand 4 = .ok (.aload_n 0, 1) := by decide +kernel
theorem dX6_sand_5 : decode cX6_sand 5 = .ok (.aload_n 0, 1) := by decide +kernel
theorem dX6_sand_6 : decode cX6_sand 6 = .ok (.sipush 129, 3) := by decide +kernel
theorem dX6_sand_9 : decode cX6_sand 9 = .ok (.iload_n 1, 1) := by decide +kernel
theorem dX6_sand_10 : decode cX6_sand 10 = .ok (.iload_n 2, 1) := by decide +kernel
theorem dX6_sand_11 : decode cX6_sand 11 = .ok (.iload_n 3, 1) := by decide +kernel
theorem dX6_sand_12 : decode cX6_sand 12 = .ok (.ifCond .eq 7, 3) := by decide +kernel
theorem dX6_sand_15 : decode cX6_sand 15 = .ok (.iconst 1, 1) := by decide +kernel
theorem dX6_sand_16 : decode cX6_sand 16 = .ok (.goto 4, 3) := by decide +kernel
theorem dX6_sand_19 : decode cX6_sand 19 = .ok (.iconst 0, 1) := by decide +kernel
theorem dX6_sand_20 : decode cX6_sand 20 = .ok (.invokevirtual 117, 3) := by decide +kernel
theorem dX6_sand_23 : decode cX6_sand 23 = .ok (.invokevirtual 121, 3) := by decide +kernel
theorem dX6_sand_26 : decode cX6_sand 26 = .ok (.ireturn, 1) := by decide +kernel
theorem dX6_boat_0 : decode cX6_boat 0 = .ok (.aload_n 0, 1) := by decide +kernel
theorem dX6_boat_1 : decode cX6_boat 1 = .ok (.invokevirtual 114, 3) := by decide +kernel
theorem dX6_boat_4 : decode cX6_boat 4 = .ok (.aload_n 0, 1) := by decide +kernel
theorem dX6_boat_5 : decode cX6_boat 5 = .ok (.aload_n 0, 1) := by decide +kernel
theorem dX6_boat_6 : decode cX6_boat 6 = .ok (.sipush 129, 3) := by decide +kernel
theorem dX6_boat_9 : decode cX6_boat 9 = .ok (.iload_n 1, 1) := by decide +kernel
theorem dX6_boat_10 : decode cX6_boat 10 = .ok (.iload_n 2, 1) := by decide +kernel
theorem dX6_boat_11 : decode cX6_boat 11 = .ok (.iload_n 3, 1) := by decide +kernel
theorem dX6_boat_12 : decode cX6_boat 12 = .ok (.invokevirtual 124, 3) := by decide +kernel
theorem dX6_boat_15 : decode cX6_boat 15 = .ok (.invokevirtual 121, 3) := by decide +kernel
theorem dX6_boat_18 : decode cX6_boat 18 = .ok (.ireturn, 1) := by decide +kernel
theorem dX6_set_0 : decode cX6_set 0 = .ok (.iload_n 1, 1) := by decide +kernel
theorem dX6_set_1 : decode cX6_set 1 = .ok (.ifCond .ne 12, 3) := by decide +kernel
theorem dX6_set_4 : decode cX6_set 4 = .ok (.iload_n 2, 1) := by decide +kernel
theorem dX6_set_5 : decode cX6_set 5 = .ok (.iconst 0, 1) := by decide +kernel
theorem dX6_set_6 : decode cX6_set 6 = .ok (.iconst 3, 1) := by decide +kernel
theorem dX6_set_7 : decode cX6_set 7 = .ok (.invokestatic 35, 3) := by decide +kernel
theorem dX6_set_10 : decode cX6_set 10 = .ok (.goto 52, 3) := by decide +kernel
theorem dX6_set_13 : decode cX6_set 13 = .ok (.iload_n 1, 1) := by decide +kernel
theorem dX6_set_14 : decode cX6_set 14 = .ok (.iconst 1, 1) := by decide +kernel
theorem dX6_set_15 : decode cX6_set 15 = .ok (.if_icmp .ne 12, 3) := by decide +kernel
theorem dX6_set_18 : decode cX6_set 18 = .ok (.iload_n 2, 1) := by decide +kernel
theorem dX6_set_19 : decode cX6_set 19 = .ok (.iconst 1, 1) := by decide +kernel
theorem dX6_set_20 : decode cX6_set 20 = .ok (.iconst 4, 1) := by decide +kernel
theorem dX6_set_21 : decode cX6_set 21 = .ok (.invokestatic 35, 3) := by decide +kernel
theorem dX6_set_24 : decode cX6_set 24 = .ok (.goto 38, 3) := by decide +kernel
theorem dX6_set_27 : decode cX6_set 27 = .ok (.iload_n 1, 1) := by decide +kernel
theorem dX6_set_28 : decode cX6_set 28 = .ok (.iconst 2, 1) := by decide +kernel
theorem dX6_set_29 : decode cX6_set 29 = .ok (.if_icmp .ne 12, 3) := by decide +kernel
theorem dX6_set_32 : decode cX6_set 32 = .ok (.iload_n 2, 1) := by decide +kernel
theorem dX6_set_33 : decode cX6_set 33 = .ok (.iconst 1, 1) := by decide +kernel
theorem dX6_set_34 : decode cX6_set 34 = .ok (.iconst 3, 1) := by decide +kernel
theorem dX6_set_35 : decode cX6_set 35 = .ok (.invokestatic 35, 3) := by decide +kernel
theorem dX6_set_38 : decode cX6_set 38 = .ok (.goto 24, 3) := by decide +kernel
theorem dX6_set_41 : decode cX6_set 41 = .ok (.iload_n 1, 1) := by decide +kernel
theorem dX6_set_42 : decode cX6_set 42 = .ok (.iconst 3, 1) := by decide +kernel
theorem dX6_set_43 : decode cX6_set 43 = .ok (.if_icmp .ne 18, 3) := by decide +kernel
theorem dX6_set_46 : decode cX6_set 46 = .ok (.iload_n 2, 1) := by decide +kernel
theorem dX6_set_47 : decode cX6_set 47 = .ok (.bipush 10, 2) := by decide +kernel
theorem dX6_set_49 : decode cX6_set 49 = .ok (.bipush 99, 2) := by decide +kernel
theorem dX6_set_51 : decode cX6_set 51 = .ok (.invokestatic 35, 3) := by decide +kernel
theorem dX6_set_54 : decode cX6_set 54 = .ok (.ifCond .eq 7, 3) := by decide +kernel
theorem dX6_set_57 : decode cX6_set 57 = .ok (.iconst 1, 1) := by decide +kernel
theorem dX6_set_58 : decode cX6_set 58 = .ok (.goto 4, 3) := by decide +kernel
theorem dX6_set_61 : decode cX6_set 61 = .ok (.iconst 0, 1) := by decide +kernel
theorem dX6_set_62 : decode cX6_set 62 = .ok (.istore_n 3, 1) := by decide +kernel
theorem dX6_set_63 : decode cX6_set 63 = .ok (.iload_n 3, 1) := by decide +kernel
theorem dX6_set_64 : decode cX6_set 64 = .ok (.ifCond .ne 6, 3) := by decide +kernel
theorem dX6_set_67 : decode cX6_set 67 = .ok (.bipush (-2), 2) := by decide +kernel
theorem dX6_set_69 : decode cX6_set 69 = .ok (.ireturn, 1) := by decide +kernel
theorem dX6_set_70 : decode cX6_set 70 = .ok (.aload_n 0, 1) := by decide +kernel
theorem dX6_set_71 : decode cX6_set 71 = .ok (.getfield 7, 3) := by decide +kernel
theorem dX6_set_74 : decode cX6_set 74 = .ok (.bipush 126, 2) := by decide +kernel
theorem dX6_set_76 : decode cX6_set 76 = .ok (.iaload, 1) := by decide +kernel
theorem dX6_set_77 : decode cX6_set 77 = .ok (.ifCond .eq 6, 3) := by decide +kernel
theorem dX6_set_80 : decode cX6_set 80 = .ok (.bipush (-4), 2) := by decide +kernel
theorem dX6_set_82 : decode cX6_set 82 = .ok (.ireturn, 1) := by decide +kernel
theorem dX6_set_83 : decode cX6_set 83 = .ok (.aload_n 0, 1) := by decide +kernel
theorem dX6_set_84 : decode cX6_set 84 = .ok (.getfield 7, 3) := by decide +kernel
theorem dX6_set_87 : decode cX6_set 87 = .ok (.bipush 122, 2) := by decide +kernel
theorem dX6_set_89 : decode cX6_set 89 = .ok (.iload_n 1, 1) := by decide +kernel
theorem dX6_set_90 : decode cX6_set 90 = .ok (.iadd, 1) := by decide +kernel
theorem dX6_set_91 : decode cX6_set 91 = .ok (.iaload, 1) := by decide +kernel
theorem dX6_set_92 : decode cX6_set 92 = .ok (.istore 4, 2) := by decide +kernel
theorem dX6_set_94 : decode cX6_set 94 = .ok (.iload 4, 2) := by decide +kernel
theorem dX6_set_96 : decode cX6_set 96 = .ok (.iload_n 2, 1) := by decide +kernel
theorem dX6_set_97 : decode cX6_set 97 = .ok (.if_icmp .ne 6, 3) := by decide +kernel
theorem dX6_set_100 : decode cX6_set 100 = .ok (.bipush (-5), 2) := by decide +kernel
theorem dX6_set_102 : decode cX6_set 102 = .ok (.ireturn, 1) := by decide +kernel
theorem dX6_set_103 : decode cX6_set 103 = .ok (.aload_n 0, 1) := by decide +kernel
theorem dX6_set_104 : decode cX6_set 104 = .ok (.invokevirtual 47, 3) := by decide +kernel
theorem dX6_set_107 : decode cX6_set 107 = .ok (.aload_n 0, 1) := by decide +kernel
theorem dX6_set_108 : decode cX6_set 108 = .ok (.getfield 7, 3) := by decide +kernel
theorem dX6_set_111 : decode cX6_set 111 = .ok (.bipush 122, 2) := by decide +kernel
theorem dX6_set_113 : decode cX6_set 113 = .ok (.iload_n 1, 1) := by decide +kernel
theorem dX6_set_114 : decode cX6_set 114 = .ok (.iadd, 1) := by decide +kernel
theorem dX6_set_115 : decode cX6_set 115 = .ok (.iload_n 2, 1) := by decide +kernel
theorem dX6_set_116 : decode cX6_set 116 = .ok (.iastore, 1) := by decide +kernel
theorem dX6_set_117 : decode cX6_set 117 = .ok (.iload 4, 2) := by decide +kernel
theorem dX6_set_119 : decode cX6_set 119 = .ok (.ireturn, 1) := by decide +kernel
theorem dX6_move_0 : decode cX6_move 0 = .ok (.aload_n 0, 1) := by decide +kernel
theorem dX6_move_1 : decode cX6_move 1 = .ok (.invokevirtual 114, 3) := by decide +kernel
theorem dX6_move_4 : decode cX6_move 4 = .ok (.aload_n 0, 1) := by decide +kernel
theorem dX6_move_5 : decode cX6_move 5 = .ok (.aload_n 0, 1) := by decide +kernel
theorem dX6_move_6 : decode cX6_move 6 = .ok (.sipush 129, 3) := by decide +kernel
theorem dX6_move_9 : decode cX6_move 9 = .ok (.iload_n 1, 1) := by decide +kernel
theorem dX6_move_10 : decode cX6_move 10 = .ok (.iload_n 2, 1) := by decide +kernel
theorem dX6_move_11 : decode cX6_move 11 = .ok (.iload_n 3, 1) := by decide +kernel
theorem dX6_move_12 : decode cX6_move 12 = .ok (.invokestatic 127, 3) := by decide +kernel
theorem dX6_move_15 : decode cX6_move 15 = .ok (.invokevirtual 130, 3) := by decide +kernel
theorem dX6_move_18 : decode cX6_move 18 = .ok (.invokevirtual 121, 3) := by decide +kernel
theorem dX6_move_21 : decode cX6_move 21 = .ok (.ireturn, 1) := by decide +kernel
theorem dX6_pause_0 : decode cX6_pause 0 = .ok (.aload_n 0, 1) := by decide +kernel
theorem dX6_pause_1 : decode cX6_pause 1 = .ok (.invokevirtual 114, 3) := by decide +kernel
theorem dX6_pause_4 : decode cX6_pause 4 = .ok (.aload_n 0, 1) := by decide +kernel
theorem dX6_pause_5 : decode cX6_pause 5 = .ok (.aload_n 0, 1) := by decide +kernel
theorem dX6_pause_6 : decode cX6_pause 6 = .ok (.sipush 129, 3) := by decide +kernel
theorem dX6_pause_9 : decode cX6_pause 9 = .ok (.invokevirtual 133, 3) := by decide +kernel
theorem dX6_pause_12 : decode cX6_pause 12 = .ok (.invokevirtual 121, 3) := by decide +kernel
theorem dX6_pause_15 : decode cX6_pause 15 = .ok (.ireturn, 1) := by decide +kernel
theorem dX6_type_0 : decode cX6_type 0 = .ok (.aload_n 0, 1) := by decide +kernel
theorem dX6_type_1 : decode cX6_type 1 = .ok (.getfield 136, 3) := by decide +kernel
theorem dX6_type_4 : decode cX6_type 4 = .ok (.bipush 60, 2) := by decide +kernel
theorem dX6_type_6 : decode cX6_type 6 = .ok (.if_icmp .ne 6, 3) := by decide +kernel
theorem dX6_type_9 : decode cX6_type 9 = .ok (.bipush (-3), 2) := by decide +kernel
theorem dX6_type_11 : decode cX6_type 11 = .ok (.ireturn, 1) := by decide +kernel
theorem dX6_type_12 : decode cX6_type 12 = .ok (.aload_n 0, 1) := by decide +kernel
theorem dX6_type_13 : decode cX6_type 13 = .ok (.getfield 19, 3) := by decide +kernel
theorem dX6_type_16 : decode cX6_type 16 = .ok (.aload_n 0, 1) := by decide +kernel
theorem dX6_type_17 : decode cX6_type 17 = .ok (.getfield 136, 3) := by decide +kernel
theorem dX6_type_20 : decode cX6_type 20 = .ok (.iload_n 1, 1) := by decide +kernel
theorem dX6_type_21 : decode cX6_type 21 = .ok (.iastore, 1) := by decide +kernel
theorem dX6_type_22 : decode cX6_type 22 = .ok (.aload_n 0, 1) := by decide +kernel
theorem dX6_type_23 : decode cX6_type 23 = .ok (.dup, 1) := by decide +kernel
theorem dX6_type_24 : decode cX6_type 24 = .ok (.getfield 136, 3) := by decide +kernel
theorem dX6_type_27 : decode cX6_type 27 = .ok (.iconst 1, 1) := by decide +kernel
theorem dX6_type_28 : decode cX6_type 28 = .ok (.iadd, 1) := by decide +kernel
theorem dX6_type_29 : decode cX6_type 29 = .ok (.putfield 136, 3) := by decide +kernel
theorem dX6_type_32 : decode cX6_type 32 = .ok (.aload_n 0, 1) := by decide +kernel
theorem dX6_type_33 : decode cX6_type 33 = .ok (.getfield 136, 3) := by decide +kernel
theorem dX6_type_36 : decode cX6_type 36 = .ok (.ireturn, 1) := by decide +kernel
theorem dX6_clearText_0 : decode cX6_clearText 0 = .ok (.aload_n 0, 1) := by decide +kernel
theorem dX6_clearText_1 : decode cX6_clearText 1 = .ok (.getfield 136, 3) := by decide +kernel
theorem dX6_clearText_4 : decode cX6_clearText 4 = .ok (.istore_n 1, 1) := by decide +kernel
theorem dX6_clearText_5 : decode cX6_clearText 5 = .ok (.aload_n 0, 1) := by decide +kernel
theorem dX6_clearText_6 : decode cX6_clearText 6 = .ok (.iconst 0, 1) := by decide +kernel
theorem dX6_clearText_7 : decode cX6_clearText 7 = .ok (.putfield 136, 3) := by decide +kernel
theorem dX6_clearText_10 : decode cX6_clearText 10 = .ok (.iload_n 1, 1) := by decide +kernel
theorem dX6_clearText_11 : decode cX6_clearText 11 = .ok (.ireturn, 1) := by decide +kernel
theorem dX6_sign_0 : decode cX6_sign 0 = .ok (.iload_n 1, 1) := by decide +kernel
theorem dX6_sign_1 : decode cX6_sign 1 = .ok (.aload_n 0, 1) := by decide +kernel
theorem dX6_sign_2 : decode cX6_sign 2 = .ok (.getfield 136, 3) := by decide +kernel
theorem dX6_sign_5 : decode cX6_sign 5 = .ok (.if_icmp .ge 12, 3) := by decide +kernel
theorem dX6_sign_8 : decode cX6_sign 8 = .ok (.aload_n 0, 1) := by decide +kernel
theorem dX6_sign_9 : decode cX6_sign 9 = .ok (.getfield 19, 3) := by decide +kernel
theorem dX6_sign_12 : decode cX6_sign 12 = .ok (.iload_n 1, 1) := by decide +kernel
theorem dX6_sign_13 : decode cX6_sign 13 = .ok (.iaload, 1) := by decide +kernel
theorem dX6_sign_14 : decode cX6_sign 14 = .ok (.goto 4, 3) := by decide +kernel
theorem dX6_sign_17 : decode cX6_sign 17 = .ok (.iconst (-1), 1) := by decide +kernel
theorem dX6_sign_18 : decode cX6_sign 18 = .ok (.ireturn, 1) := by decide +kernel
theorem dX6_isSign_0 : decode cX6_isSign 0 = .ok (.aload_n 0, 1) := by decide +kernel
theorem dX6_isSign_1 : decode cX6_isSign 1 = .ok (.iload_n 1, 1) := by decide +kernel
theorem dX6_isSign_2 : decode cX6_isSign 2 = .ok (.invokevirtual 139, 3) := by decide +kernel
theorem dX6_isSign_5 : decode cX6_isSign 5 = .ok (.iload_n 2, 1) := by decide +kernel
theorem dX6_isSign_6 : decode cX6_isSign 6 = .ok (.iload_n 3, 1) := by decide +kernel
theorem dX6_isSign_7 : decode cX6_isSign 7 = .ok (.invokestatic 35, 3) := by decide +kernel
theorem dX6_isSign_10 : decode cX6_isSign 10 = .ok (.ireturn, 1) := by decide +kernel
theorem dX6_cellEnd_0 : decode cX6_cellEnd 0 = .ok (.aload_n 0, 1) := by decide +kernel
theorem dX6_cellEnd_1 : decode cX6_cellEnd 1 = .ok (.iload_n 1, 1) := by decide +kernel
theorem dX6_cellEnd_2 : decode cX6_cellEnd 2 = .ok (.bipush 97, 2) := by decide +kernel
theorem dX6_cellEnd_4 : decode cX6_cellEnd 4 = .ok (.bipush 102, 2) := by decide +kernel
theorem dX6_cellEnd_6 : decode cX6_cellEnd 6 = .ok (.invokevirtual 142, 3) := by decide +kernel
theorem dX6_cellEnd_9 : decode cX6_cellEnd 9 = .ok (.ifCond .ne 7, 3) := by decide +kernel
theorem dX6_cellEnd_12 : decode cX6_cellEnd 12 = .ok (.iconst (-1), 1) := by decide +kernel
theorem dX6_cellEnd_13 : decode cX6_cellEnd 13 = .ok (.iload_n 1, 1) := by decide +kernel
theorem dX6_cellEnd_14 : decode cX6_cellEnd 14 = .ok (.isub, 1) := by decide +kernel
theorem dX6_cellEnd_15 : decode cX6_cellEnd 15 = .ok (.ireturn, 1) := by decide +kernel
theorem dX6_cellEnd_16 : decode cX6_cellEnd 16 = .ok (.aload_n 0, 1) := by decide +kernel
theorem dX6_cellEnd_17 : decode cX6_cellEnd 17 = .ok (.iload_n 1, 1) := by decide +kernel
theorem dX6_cellEnd_18 : decode cX6_cellEnd 18 = .ok (.iconst 1, 1) := by decide +kernel
theorem dX6_cellEnd_19 : decode cX6_cellEnd 19 = .ok (.iadd, 1) := by decide +kernel
theorem dX6_cellEnd_20 : decode cX6_cellEnd 20 = .ok (.bipush 49, 2) := by decide +kernel
theorem dX6_cellEnd_22 : decode cX6_cellEnd 22 = .ok (.bipush 54, 2) := by decide +kernel
theorem dX6_cellEnd_24 : decode cX6_cellEnd 24 = .ok (.invokevirtual 142, 3) := by decide +kernel
theorem dX6_cellEnd_27 : decode cX6_cellEnd 27 = .ok (.ifCond .eq 9, 3) := by decide +kernel
theorem dX6_cellEnd_30 : decode cX6_cellEnd 30 = .ok (.iload_n 1, 1) := by decide +kernel
theorem dX6_cellEnd_31 : decode cX6_cellEnd 31 = .ok (.iconst 2, 1) := by decide +kernel
theorem dX6_cellEnd_32 : decode cX6_cellEnd 32 = .ok (.iadd, 1) := by decide +kernel
theorem dX6_cellEnd_33 : decode cX6_cellEnd 33 = .ok (.goto 7, 3) := by decide +kernel
theorem dX6_cellEnd_36 : decode cX6_cellEnd 36 = .ok (.bipush (-2), 2) := by decide +kernel
theorem dX6_cellEnd_38 : decode cX6_cellEnd 38 = .ok (.iload_n 1, 1) := by decide +kernel
theorem dX6_cellEnd_39 : decode cX6_cellEnd 39 = .ok (.isub, 1) := by decide +kernel
theorem dX6_cellEnd_40 : decode cX6_cellEnd 40 = .ok (.ireturn, 1) := by decide +kernel
theorem dX6_cellIn_0 : decode cX6_cellIn 0 = .ok (.bipush 6, 2) := by decide +kernel
theorem dX6_cellIn_2 : decode cX6_cellIn 2 = .ok (.aload_n 0, 1) := by decide +kernel
theorem dX6_cellIn_3 : decode cX6_cellIn 3 = .ok (.iload_n 1, 1) := by decide +kernel
theorem dX6_cellIn_4 : decode cX6_cellIn 4 = .ok (.iconst 1, 1) := by decide +kernel
theorem dX6_cellIn_5 : decode cX6_cellIn 5 = .ok (.iadd, 1) := by decide +kernel
theorem dX6_cellIn_6 : decode cX6_cellIn 6 = .ok (.invokevirtual 139, 3) := by decide +kernel
theorem dX6_cellIn_9 : decode cX6_cellIn 9 = .ok (.bipush 49, 2) := by decide +kernel
theorem dX6_cellIn_11 : decode cX6_cellIn 11 = .ok (.isub, 1) := by decide +kernel
theorem dX6_cellIn_12 : decode cX6_cellIn 12 = .ok (.imul, 1) := by decide +kernel
theorem dX6_cellIn_13 : decode cX6_cellIn 13 = .ok (.aload_n 0, 1) := by decide +kernel
theorem dX6_cellIn_14 : decode cX6_cellIn 14 = .ok (.iload_n 1, 1) := by decide +kernel
theorem dX6_cellIn_15 : decode cX6_cellIn 15 = .ok (.invokevirtual 139, 3) := by decide +kernel
theorem dX6_cellIn_18 : decode cX6_cellIn 18 = .ok (.iadd, 1) := by decide +kernel
theorem dX6_cellIn_19 : decode cX6_cellIn 19 = .ok (.bipush 97, 2) := by decide +kernel
theorem dX6_cellIn_21 : decode cX6_cellIn 21 = .ok (.isub, 1) := by decide +kernel
theorem dX6_cellIn_22 : decode cX6_cellIn 22 = .ok (.ireturn, 1) := by decide +kernel
theorem dX6_directionOf_0 : decode cX6_directionOf 0 = .ok (.iload_n 1, 1) := by decide +kernel
theorem dX6_directionOf_1 : decode cX6_directionOf 1 = .ok (.bipush 114, 2) := by decide +kernel
theorem dX6_directionOf_3 : decode cX6_directionOf 3 = .ok (.if_icmp .ne 7, 3) := by decide +kernel
theorem dX6_directionOf_6 : decode cX6_directionOf 6 = .ok (.iconst 0, 1) := by decide +kernel
theorem dX6_directionOf_7 : decode cX6_directionOf 7 = .ok (.goto 35, 3) := by decide +kernel
theorem dX6_directionOf_10 : decode cX6_directionOf 10 = .ok (.iload_n 1, 1) := by decide +kernel
theorem dX6_directionOf_11 : decode cX6_directionOf 11 = .ok (.bipush 100, 2) := by decide +kernel
theorem dX6_directionOf_13 : decode cX6_directionOf 13 = .ok (.if_icmp .ne 7, 3) := by decide +kernel
theorem dX6_directionOf_16 : decode cX6_directionOf 16 = .ok (.iconst 1, 1) := by decide +kernel
theorem dX6_directionOf_17 : decode cX6_directionOf 17 = .ok (.goto 25, 3) := by decide +kernel
theorem dX6_directionOf_20 : decode cX6_directionOf 20 = .ok (.iload_n 1, 1) := by decide +kernel
theorem dX6_directionOf_21 : decode cX6_directionOf 21 = .ok (.bipush 108, 2) := by decide +kernel
theorem dX6_directionOf_23 : decode cX6_directionOf 23 = .ok (.if_icmp .ne 7, 3) := by decide +kernel
theorem dX6_directionOf_26 : decode cX6_directionOf 26 = .ok (.iconst 2, 1) := by decide +kernel
theorem dX6_directionOf_27 : decode cX6_directionOf 27 = .ok (.goto 15, 3) := by decide +kernel
theorem dX6_directionOf_30 : decode cX6_directionOf 30 = .ok (.iload_n 1, 1) := by decide +kernel
theorem dX6_directionOf_31 : decode cX6_directionOf 31 = .ok (.bipush 117, 2) := by decide +kernel
theorem dX6_directionOf_33 : decode cX6_directionOf 33 = .ok (.if_icmp .ne 7, 3) := by decide +kernel
theorem dX6_directionOf_36 : decode cX6_directionOf 36 = .ok (.iconst 3, 1) := by decide +kernel
theorem dX6_directionOf_37 : decode cX6_directionOf 37 = .ok (.goto 5, 3) := by decide +kernel
theorem dX6_directionOf_40 : decode cX6_directionOf 40 = .ok (.bipush (-5), 2) := by decide +kernel
theorem dX6_directionOf_42 : decode cX6_directionOf 42 = .ok (.ireturn, 1) := by decide +kernel
theorem dX6_sandEnd_0 : decode cX6_sandEnd 0 = .ok (.aload_n 0, 1) := by decide +kernel
theorem dX6_sandEnd_1 : decode cX6_sandEnd 1 = .ok (.iload_n 1, 1) := by decide +kernel
theorem dX6_sandEnd_2 : decode cX6_sandEnd 2 = .ok (.invokevirtual 145, 3) := by decide +kernel
theorem dX6_sandEnd_5 : decode cX6_sandEnd 5 = .ok (.istore_n 2, 1) := by decide +kernel
theorem dX6_sandEnd_6 : decode cX6_sandEnd 6 = .ok (.iload_n 2, 1) := by decide +kernel
theorem dX6_sandEnd_7 : decode cX6_sandEnd 7 = .ok (.ifCond .lt 13, 3) := by decide +kernel
theorem dX6_sandEnd_10 : decode cX6_sandEnd 10 = .ok (.aload_n 0, 1) := by decide +kernel
theorem dX6_sandEnd_11 : decode cX6_sandEnd 11 = .ok (.iload_n 2, 1) := by decide +kernel
theorem dX6_sandEnd_12 : decode cX6_sandEnd 12 = .ok (.invokevirtual 139, 3) := by decide +kernel
theorem dX6_sandEnd_15 : decode cX6_sandEnd 15 = .ok (.bipush 61, 2) := by decide +kernel
theorem dX6_sandEnd_17 : decode cX6_sandEnd 17 = .ok (.if_icmp .eq 15, 3) := by decide +kernel
theorem dX6_sandEnd_20 : decode cX6_sandEnd 20 = .ok (.iload_n 2, 1) := by decide +kernel
theorem dX6_sandEnd_21 : decode cX6_sandEnd 21 = .ok (.ifCond .ge 7, 3) := by decide +kernel
theorem dX6_sandEnd_24 : decode cX6_sandEnd 24 = .ok (.iload_n 2, 1) := by decide +kernel
theorem dX6_sandEnd_25 : decode cX6_sandEnd 25 = .ok (.goto 6, 3) := by decide +kernel
theorem dX6_sandEnd_28 : decode cX6_sandEnd 28 = .ok (.iconst (-1), 1) := by decide +kernel
theorem dX6_sandEnd_29 : decode cX6_sandEnd 29 = .ok (.iload_n 2, 1) := by decide +kernel
theorem dX6_sandEnd_30 : decode cX6_sandEnd 30 = .ok (.isub, 1) := by decide +kernel
theorem dX6_sandEnd_31 : decode cX6_sandEnd 31 = .ok (.ireturn, 1) := by decide +kernel
theorem dX6_sandEnd_32 : decode cX6_sandEnd 32 = .ok (.aload_n 0, 1) := by decide +kernel
theorem dX6_sandEnd_33 : decode cX6_sandEnd 33 = .ok (.iload_n 2, 1) := by decide +kernel
theorem dX6_sandEnd_34 : decode cX6_sandEnd 34 = .ok (.iconst 1, 1) := by decide +kernel
theorem dX6_sandEnd_35 : decode cX6_sandEnd 35 = .ok (.iadd, 1) := by decide +kernel
theorem dX6_sandEnd_36 : decode cX6_sandEnd 36 = .ok (.bipush 48, 2) := by decide +kernel
theorem dX6_sandEnd_38 : decode cX6_sandEnd 38 = .ok (.bipush 52, 2) := by decide +kernel
theorem dX6_sandEnd_40 : decode cX6_sandEnd 40 = .ok (.invokevirtual 142, 3) := by decide +kernel
theorem dX6_sandEnd_43 : decode cX6_sandEnd 43 = .ok (.ifCond .ne 8, 3) := by decide +kernel
theorem dX6_sandEnd_46 : decode cX6_sandEnd 46 = .ok (.bipush (-2), 2) := by decide +kernel
theorem dX6_sandEnd_48 : decode cX6_sandEnd 48 = .ok (.iload_n 2, 1) := by decide +kernel
theorem dX6_sandEnd_49 : decode cX6_sandEnd 49 = .ok (.isub, 1) := by decide +kernel
theorem dX6_sandEnd_50 : decode cX6_sandEnd 50 = .ok (.ireturn, 1) := by decide +kernel
theorem dX6_sandEnd_51 : decode cX6_sandEnd 51 = .ok (.aload_n 0, 1) := by decide +kernel
theorem dX6_sandEnd_52 : decode cX6_sandEnd 52 = .ok (.iload_n 2, 1) := by decide +kernel
theorem dX6_sandEnd_53 : decode cX6_sandEnd 53 = .ok (.iconst 2, 1) := by decide +kernel
theorem dX6_sandEnd_54 : decode cX6_sandEnd 54 = .ok (.iadd, 1) := by decide +kernel
theorem dX6_sandEnd_55 : decode cX6_sandEnd 55 = .ok (.invokevirtual 139, 3) := by decide +kernel
theorem dX6_sandEnd_58 : decode cX6_sandEnd 58 = .ok (.bipush 42, 2) := by decide +kernel
theorem dX6_sandEnd_60 : decode cX6_sandEnd 60 = .ok (.if_icmp .ne 9, 3) := by decide +kernel
theorem dX6_sandEnd_63 : decode cX6_sandEnd 63 = .ok (.iload_n 2, 1) := by decide +kernel
theorem dX6_sandEnd_64 : decode cX6_sandEnd 64 = .ok (.iconst 3, 1) := by decide +kernel
theorem dX6_sandEnd_65 : decode cX6_sandEnd 65 = .ok (.iadd, 1) := by decide +kernel
theorem dX6_sandEnd_66 : decode cX6_sandEnd 66 = .ok (.goto 6, 3) := by decide +kernel
theorem dX6_sandEnd_69 : decode cX6_sandEnd 69 = .ok (.iload_n 2, 1) := by decide +kernel
theorem dX6_sandEnd_70 : decode cX6_sandEnd 70 = .ok (.iconst 2, 1) := by decide +kernel
theorem dX6_sandEnd_71 : decode cX6_sandEnd 71 = .ok (.iadd, 1) := by decide +kernel
theorem dX6_sandEnd_72 : decode cX6_sandEnd 72 = .ok (.ireturn, 1) := by decide +kernel
theorem dX6_orderEnd_0 : decode cX6_orderEnd 0 = .ok (.aload_n 0, 1) := by decide +kernel
theorem dX6_orderEnd_1 : decode cX6_orderEnd 1 = .ok (.iload_n 1, 1) := by decide +kernel
theorem dX6_orderEnd_2 : decode cX6_orderEnd 2 = .ok (.invokevirtual 139, 3) := by decide +kernel
theorem dX6_orderEnd_5 : decode cX6_orderEnd 5 = .ok (.bipush 119, 2) := by decide +kernel
theorem dX6_orderEnd_7 : decode cX6_orderEnd 7 = .ok (.if_icmp .ne 7, 3) := by decide +kernel
theorem dX6_orderEnd_10 : decode cX6_orderEnd 10 = .ok (.iload_n 1, 1) := by decide +kernel
theorem dX6_orderEnd_11 : decode cX6_orderEnd 11 = .ok (.iconst 1, 1) := by decide +kernel
theorem dX6_orderEnd_12 : decode cX6_orderEnd 12 = .ok (.iadd, 1) := by decide +kernel
theorem dX6_orderEnd_13 : decode cX6_orderEnd 13 = .ok (.ireturn, 1) := by decide +kernel
theorem dX6_orderEnd_14 : decode cX6_orderEnd 14 = .ok (.aload_n 0, 1) := by decide +kernel
theorem dX6_orderEnd_15 : decode cX6_orderEnd 15 = .ok (.iload_n 1, 1) := by decide +kernel
theorem dX6_orderEnd_16 : decode cX6_orderEnd 16 = .ok (.invokevirtual 139, 3) := by decide +kernel
theorem dX6_orderEnd_19 : decode cX6_orderEnd 19 = .ok (.bipush 43, 2) := by decide +kernel
theorem dX6_orderEnd_21 : decode cX6_orderEnd 21 = .ok (.if_icmp .ne 55, 3) := by decide +kernel
theorem dX6_orderEnd_24 : decode cX6_orderEnd 24 = .ok (.aload_n 0, 1) := by decide +kernel
theorem dX6_orderEnd_25 : decode cX6_orderEnd 25 = .ok (.iload_n 1, 1) := by decide +kernel
theorem dX6_orderEnd_26 : decode cX6_orderEnd 26 = .ok (.iconst 1, 1) := by decide +kernel
theorem dX6_orderEnd_27 : decode cX6_orderEnd 27 = .ok (.iadd, 1) := by decide +kernel
theorem dX6_orderEnd_28 : decode cX6_orderEnd 28 = .ok (.bipush 48, 2) := by decide +kernel
theorem dX6_orderEnd_30 : decode cX6_orderEnd 30 = .ok (.bipush 49, 2) := by decide +kernel
theorem dX6_orderEnd_32 : decode cX6_orderEnd 32 = .ok (.invokevirtual 142, 3) := by decide +kernel
theorem dX6_orderEnd_35 : decode cX6_orderEnd 35 = .ok (.istore_n 2, 1) := by decide +kernel
theorem dX6_orderEnd_36 : decode cX6_orderEnd 36 = .ok (.iload_n 2, 1) := by decide +kernel
theorem dX6_orderEnd_37 : decode cX6_orderEnd 37 = .ok (.ifCond .ne 10, 3) := by decide +kernel
theorem dX6_orderEnd_40 : decode cX6_orderEnd 40 = .ok (.bipush (-2), 2) := by decide +kernel
theorem dX6_orderEnd_42 : decode cX6_orderEnd 42 = .ok (.iload_n 1, 1) := by decide +kernel
theorem dX6_orderEnd_43 : decode cX6_orderEnd 43 = .ok (.isub, 1) := by decide +kernel
theorem dX6_orderEnd_44 : decode cX6_orderEnd 44 = .ok (.goto 31, 3) := by decide +kernel
theorem dX6_orderEnd_47 : decode cX6_orderEnd 47 = .ok (.aload_n 0, 1) := by decide +kernel
theorem dX6_orderEnd_48 : decode cX6_orderEnd 48 = .ok (.iload_n 1, 1) := by decide +kernel
theorem dX6_orderEnd_49 : decode cX6_orderEnd 49 = .ok (.iconst 2, 1) := by decide +kernel
theorem dX6_orderEnd_50 : decode cX6_orderEnd 50 = .ok (.iadd, 1) := by decide +kernel
theorem dX6_orderEnd_51 : decode cX6_orderEnd 51 = .ok (.bipush 49, 2) := by decide +kernel
theorem dX6_orderEnd_53 : decode cX6_orderEnd 53 = .ok (.bipush 51, 2) := by decide +kernel
theorem dX6_orderEnd_55 : decode cX6_orderEnd 55 = .ok (.invokevirtual 142, 3) := by decide +kernel
theorem dX6_orderEnd_58 : decode cX6_orderEnd 58 = .ok (.ifCond .ne 10, 3) := by decide +kernel
theorem dX6_orderEnd_61 : decode cX6_orderEnd 61 = .ok (.bipush (-3), 2) := by decide +kernel
theorem dX6_orderEnd_63 : decode cX6_orderEnd 63 = .ok (.iload_n 1, 1) := by decide +kernel
theorem dX6_orderEnd_64 : decode cX6_orderEnd 64 = .ok (.isub, 1) := by decide +kernel
theorem dX6_orderEnd_65 : decode cX6_orderEnd 65 = .ok (.goto 10, 3) := by decide +kernel
theorem dX6_orderEnd_68 : decode cX6_orderEnd 68 = .ok (.aload_n 0, 1) := by decide +kernel
theorem dX6_orderEnd_69 : decode cX6_orderEnd 69 = .ok (.iload_n 1, 1) := by decide +kernel
theorem dX6_orderEnd_70 : decode cX6_orderEnd 70 = .ok (.iconst 3, 1) := by decide +kernel
theorem dX6_orderEnd_71 : decode cX6_orderEnd 71 = .ok (.iadd, 1) := by decide +kernel
theorem dX6_orderEnd_72 : decode cX6_orderEnd 72 = .ok (.invokevirtual 145, 3) := by decide +kernel
theorem dX6_orderEnd_75 : decode cX6_orderEnd 75 = .ok (.ireturn, 1) := by decide +kernel
theorem dX6_orderEnd_76 : decode cX6_orderEnd 76 = .ok (.aload_n 0, 1) := by decide +kernel
theorem dX6_orderEnd_77 : decode cX6_orderEnd 77 = .ok (.iload_n 1, 1) := by decide +kernel
theorem dX6_orderEnd_78 : decode cX6_orderEnd 78 = .ok (.bipush 48, 2) := by decide +kernel
theorem dX6_orderEnd_80 : decode cX6_orderEnd 80 = .ok (.bipush 57, 2) := by decide +kernel
theorem dX6_orderEnd_82 : decode cX6_orderEnd 82 = .ok (.invokevirtual 142, 3) := by decide +kernel
theorem dX6_orderEnd_85 : decode cX6_orderEnd 85 = .ok (.ifCond .eq 51, 3) := by decide +kernel
theorem dX6_orderEnd_88 : decode cX6_orderEnd 88 = .ok (.aload_n 0, 1) := by decide +kernel
theorem dX6_orderEnd_89 : decode cX6_orderEnd 89 = .ok (.aload_n 0, 1) := by decide +kernel
theorem dX6_orderEnd_90 : decode cX6_orderEnd 90 = .ok (.iload_n 1, 1) := by decide +kernel
theorem dX6_orderEnd_91 : decode cX6_orderEnd 91 = .ok (.iconst 1, 1) := by decide +kernel
theorem dX6_orderEnd_92 : decode cX6_orderEnd 92 = .ok (.iadd, 1) := by decide +kernel
theorem dX6_orderEnd_93 : decode cX6_orderEnd 93 = .ok (.invokevirtual 139, 3) := by decide +kernel
theorem dX6_orderEnd_96 : decode cX6_orderEnd 96 = .ok (.invokevirtual 148, 3) := by decide +kernel
theorem dX6_orderEnd_99 : decode cX6_orderEnd 99 = .ok (.bipush (-5), 2) := by decide +kernel
theorem dX6_orderEnd_101 : decode cX6_orderEnd 101 = .ok (.if_icmp .ne 10, 3) := by decide +kernel
theorem dX6_orderEnd_104 : decode cX6_orderEnd 104 = .ok (.bipush (-2), 2) := by decide +kernel
theorem dX6_orderEnd_106 : decode cX6_orderEnd 106 = .ok (.iload_n 1, 1) := by decide +kernel
theorem dX6_orderEnd_107 : decode cX6_orderEnd 107 = .ok (.isub, 1) := by decide +kernel
theorem dX6_orderEnd_108 : decode cX6_orderEnd 108 = .ok (.goto 27, 3) := by decide +kernel
theorem dX6_orderEnd_111 : decode cX6_orderEnd 111 = .ok (.aload_n 0, 1) := by decide +kernel
theorem dX6_orderEnd_112 : decode cX6_orderEnd 112 = .ok (.iload_n 1, 1) := by decide +kernel
theorem dX6_orderEnd_113 : decode cX6_orderEnd 113 = .ok (.iconst 2, 1) := by decide +kernel
theorem dX6_orderEnd_114 : decode cX6_orderEnd 114 = .ok (.iadd, 1) := by decide +kernel
theorem dX6_orderEnd_115 : decode cX6_orderEnd 115 = .ok (.bipush 49, 2) := by decide +kernel
theorem dX6_orderEnd_117 : decode cX6_orderEnd 117 = .ok (.bipush 51, 2) := by decide +kernel
theorem dX6_orderEnd_119 : decode cX6_orderEnd 119 = .ok (.invokevirtual 142, 3) := by decide +kernel
theorem dX6_orderEnd_122 : decode cX6_orderEnd 122 = .ok (.ifCond .eq 9, 3) := by decide +kernel
theorem dX6_orderEnd_125 : decode cX6_orderEnd 125 = .ok (.iload_n 1, 1) := by decide +kernel
theorem dX6_orderEnd_126 : decode cX6_orderEnd 126 = .ok (.iconst 3, 1) := by decide +kernel
theorem dX6_orderEnd_127 : decode cX6_orderEnd 127 = .ok (.iadd, 1) := by decide +kernel
theorem dX6_orderEnd_128 : decode cX6_orderEnd 128 = .ok (.goto 7, 3) := by decide +kernel
theorem dX6_orderEnd_131 : decode cX6_orderEnd 131 = .ok (.bipush (-3), 2) := by decide +kernel
theorem dX6_orderEnd_133 : decode cX6_orderEnd 133 = .ok (.iload_n 1, 1) := by decide +kernel
theorem dX6_orderEnd_134 : decode cX6_orderEnd 134 = .ok (.isub, 1) := by decide +kernel
theorem dX6_orderEnd_135 : decode cX6_orderEnd 135 = .ok (.ireturn, 1) := by decide +kernel
theorem dX6_orderEnd_136 : decode cX6_orderEnd 136 = .ok (.aload_n 0, 1) := by decide +kernel
theorem dX6_orderEnd_137 : decode cX6_orderEnd 137 = .ok (.iload_n 1, 1) := by decide +kernel
theorem dX6_orderEnd_138 : decode cX6_orderEnd 138 = .ok (.invokevirtual 151, 3) := by decide +kernel
theorem dX6_orderEnd_141 : decode cX6_orderEnd 141 = .ok (.ireturn, 1) := by decide +kernel
theorem dX6_fault_0 : decode cX6_fault 0 = .ok (.iconst 0, 1) := by decide +kernel
theorem dX6_fault_1 : decode cX6_fault 1 = .ok (.istore_n 1, 1) := by decide +kernel
theorem dX6_fault_2 : decode cX6_fault 2 = .ok (.iconst 0, 1) := by decide +kernel
theorem dX6_fault_3 : decode cX6_fault 3 = .ok (.istore_n 2, 1) := by decide +kernel
theorem dX6_fault_4 : decode cX6_fault 4 = .ok (.iload_n 2, 1) := by decide +kernel
theorem dX6_fault_5 : decode cX6_fault 5 = .ok (.bipush 60, 2) := by decide +kernel
theorem dX6_fault_7 : decode cX6_fault 7 = .ok (.if_icmp .ge 50, 3) := by decide +kernel
theorem dX6_fault_10 : decode cX6_fault 10 = .ok (.aload_n 0, 1) := by decide +kernel
theorem dX6_fault_11 : decode cX6_fault 11 = .ok (.iload_n 1, 1) := by decide +kernel
theorem dX6_fault_12 : decode cX6_fault 12 = .ok (.invokevirtual 154, 3) := by decide +kernel
theorem dX6_fault_15 : decode cX6_fault 15 = .ok (.istore_n 3, 1) := by decide +kernel
theorem dX6_fault_16 : decode cX6_fault 16 = .ok (.iload_n 3, 1) := by decide +kernel
theorem dX6_fault_17 : decode cX6_fault 17 = .ok (.ifCond .ge 7, 3) := by decide +kernel
theorem dX6_fault_20 : decode cX6_fault 20 = .ok (.iconst (-1), 1) := by decide +kernel
theorem dX6_fault_21 : decode cX6_fault 21 = .ok (.iload_n 3, 1) := by decide +kernel
theorem dX6_fault_22 : decode cX6_fault 22 = .ok (.isub, 1) := by decide +kernel
theorem dX6_fault_23 : decode cX6_fault 23 = .ok (.ireturn, 1) := by decide +kernel
theorem dX6_fault_24 : decode cX6_fault 24 = .ok (.iload_n 3, 1) := by decide +kernel
theorem dX6_fault_25 : decode cX6_fault 25 = .ok (.aload_n 0, 1) := by decide +kernel
theorem dX6_fault_26 : decode cX6_fault 26 = .ok (.getfield 136, 3) := by decide +kernel
theorem dX6_fault_29 : decode cX6_fault 29 = .ok (.if_icmp .ne 6, 3) := by decide +kernel
theorem dX6_fault_32 : decode cX6_fault 32 = .ok (.bipush (-5), 2) := by decide +kernel
theorem dX6_fault_34 : decode cX6_fault 34 = .ok (.ireturn, 1) := by decide +kernel
theorem dX6_fault_35 : decode cX6_fault 35 = .ok (.aload_n 0, 1) := by decide +kernel
theorem dX6_fault_36 : decode cX6_fault 36 = .ok (.iload_n 3, 1) := by decide +kernel
theorem dX6_fault_37 : decode cX6_fault 37 = .ok (.invokevirtual 139, 3) := by decide +kernel
theorem dX6_fault_40 : decode cX6_fault 40 = .ok (.bipush 59, 2) := by decide +kernel
theorem dX6_fault_42 : decode cX6_fault 42 = .ok (.if_icmp .eq 5, 3) := by decide +kernel
theorem dX6_fault_45 : decode cX6_fault 45 = .ok (.iload_n 3, 1) := by decide +kernel
theorem dX6_fault_46 : decode cX6_fault 46 = .ok (.ireturn, 1) := by decide +kernel
theorem dX6_fault_47 : decode cX6_fault 47 = .ok (.iload_n 3, 1) := by decide +kernel
theorem dX6_fault_48 : decode cX6_fault 48 = .ok (.iconst 1, 1) := by decide +kernel
theorem dX6_fault_49 : decode cX6_fault 49 = .ok (.iadd, 1) := by decide +kernel
theorem dX6_fault_50 : decode cX6_fault 50 = .ok (.istore_n 1, 1) := by decide +kernel
theorem dX6_fault_51 : decode cX6_fault 51 = .ok (.iinc 2 1, 3) := by decide +kernel
theorem dX6_fault_54 : decode cX6_fault 54 = .ok (.goto (-50), 3) := by decide +kernel
theorem dX6_fault_57 : decode cX6_fault 57 = .ok (.bipush (-5), 2) := by decide +kernel
theorem dX6_fault_59 : decode cX6_fault 59 = .ok (.ireturn, 1) := by decide +kernel
theorem dX6_does_0 : decode cX6_does 0 = .ok (.aload_n 0, 1) := by decide +kernel
theorem dX6_does_1 : decode cX6_does 1 = .ok (.iload_n 1, 1) := by decide +kernel
theorem dX6_does_2 : decode cX6_does 2 = .ok (.invokevirtual 139, 3) := by decide +kernel
theorem dX6_does_5 : decode cX6_does 5 = .ok (.bipush 119, 2) := by decide +kernel
theorem dX6_does_7 : decode cX6_does 7 = .ok (.if_icmp .ne 11, 3) := by decide +kernel
theorem dX6_does_10 : decode cX6_does 10 = .ok (.aload_n 0, 1) := by decide +kernel
theorem dX6_does_11 : decode cX6_does 11 = .ok (.sipush 129, 3) := by decide +kernel
theorem dX6_does_14 : decode cX6_does 14 = .ok (.invokevirtual 133, 3) := by decide +kernel
theorem dX6_does_17 : decode cX6_does 17 = .ok (.ireturn, 1) := by decide +kernel
theorem dX6_does_18 : decode cX6_does 18 = .ok (.aload_n 0, 1) := by decide +kernel
theorem dX6_does_19 : decode cX6_does 19 = .ok (.iload_n 1, 1) := by decide +kernel
theorem dX6_does_20 : decode cX6_does 20 = .ok (.invokevirtual 139, 3) := by decide +kernel
theorem dX6_does_23 : decode cX6_does 23 = .ok (.bipush 43, 2) := by decide +kernel
theorem dX6_does_25 : decode cX6_does 25 = .ok (.if_icmp .ne 38, 3) := by decide +kernel
theorem dX6_does_28 : decode cX6_does 28 = .ok (.aload_n 0, 1) := by decide +kernel
theorem dX6_does_29 : decode cX6_does 29 = .ok (.sipush 129, 3) := by decide +kernel
theorem dX6_does_32 : decode cX6_does 32 = .ok (.aload_n 0, 1) := by decide +kernel
theorem dX6_does_33 : decode cX6_does 33 = .ok (.iload_n 1, 1) := by decide +kernel
theorem dX6_does_34 : decode cX6_does 34 = .ok (.iconst 1, 1) := by decide +kernel
theorem dX6_does_35 : decode cX6_does 35 = .ok (.iadd, 1) := by decide +kernel
theorem dX6_does_36 : decode cX6_does 36 = .ok (.invokevirtual 139, 3) := by decide +kernel
theorem dX6_does_39 : decode cX6_does 39 = .ok (.bipush 48, 2) := by decide +kernel
theorem dX6_does_41 : decode cX6_does 41 = .ok (.isub, 1) := by decide +kernel
theorem dX6_does_42 : decode cX6_does 42 = .ok (.aload_n 0, 1) := by decide +kernel
theorem dX6_does_43 : decode cX6_does 43 = .ok (.iload_n 1, 1) := by decide +kernel
theorem dX6_does_44 : decode cX6_does 44 = .ok (.iconst 2, 1) := by decide +kernel
theorem dX6_does_45 : decode cX6_does 45 = .ok (.iadd, 1) := by decide +kernel
theorem dX6_does_46 : decode cX6_does 46 = .ok (.invokevirtual 139, 3) := by decide +kernel
theorem dX6_does_49 : decode cX6_does 49 = .ok (.bipush 48, 2) := by decide +kernel
theorem dX6_does_51 : decode cX6_does 51 = .ok (.isub, 1) := by decide +kernel
theorem dX6_does_52 : decode cX6_does 52 = .ok (.aload_n 0, 1) := by decide +kernel
theorem dX6_does_53 : decode cX6_does 53 = .ok (.iload_n 1, 1) := by decide +kernel
theorem dX6_does_54 : decode cX6_does 54 = .ok (.iconst 3, 1) := by decide +kernel
theorem dX6_does_55 : decode cX6_does 55 = .ok (.iadd, 1) := by decide +kernel
theorem dX6_does_56 : decode cX6_does 56 = .ok (.invokevirtual 157, 3) := by decide +kernel
theorem dX6_does_59 : decode cX6_does 59 = .ok (.invokevirtual 124, 3) := by decide +kernel
theorem dX6_does_62 : decode cX6_does 62 = .ok (.ireturn, 1) := by decide +kernel
theorem dX6_does_63 : decode cX6_does 63 = .ok (.aload_n 0, 1) := by decide +kernel
theorem dX6_does_64 : decode cX6_does 64 = .ok (.iload_n 1, 1) := by decide +kernel
theorem dX6_does_65 : decode cX6_does 65 = .ok (.bipush 48, 2) := by decide +kernel
end
section
theorem dX6_does_67 : decode cX6_does 67 = .ok (.bipush 57, 2) := by decide +kernel
theorem dX6_does_69 : decode cX6_does 69 = .ok (.invokevirtual 142, 3) := by decide +kernel
theorem dX6_does_72 : decode cX6_does 72 = .ok (.ifCond .eq 43, 3) := by decide +kernel
theorem dX6_does_75 : decode cX6_does 75 = .ok (.aload_n 0, 1) := by decide +kernel
theorem dX6_does_76 : decode cX6_does 76 = .ok (.sipush 129, 3) := by decide +kernel
theorem dX6_does_79 : decode cX6_does 79 = .ok (.aload_n 0, 1) := by decide +kernel
theorem dX6_does_80 : decode cX6_does 80 = .ok (.iload_n 1, 1) := by decide +kernel
theorem dX6_does_81 : decode cX6_does 81 = .ok (.invokevirtual 139, 3) := by decide +kernel
theorem dX6_does_84 : decode cX6_does 84 = .ok (.bipush 48, 2) := by decide +kernel
theorem dX6_does_86 : decode cX6_does 86 = .ok (.isub, 1) := by decide +kernel
theorem dX6_does_87 : decode cX6_does 87 = .ok (.aload_n 0, 1) := by decide +kernel
theorem dX6_does_88 : decode cX6_does 88 = .ok (.aload_n 0, 1) := by decide +kernel
theorem dX6_does_89 : decode cX6_does 89 = .ok (.iload_n 1, 1) := by decide +kernel
theorem dX6_does_90 : decode cX6_does 90 = .ok (.iconst 1, 1) := by decide +kernel
theorem dX6_does_91 : decode cX6_does 91 = .ok (.iadd, 1) := by decide +kernel
theorem dX6_does_92 : decode cX6_does 92 = .ok (.invokevirtual 139, 3) := by decide +kernel
theorem dX6_does_95 : decode cX6_does 95 = .ok (.invokevirtual 148, 3) := by decide +kernel
theorem dX6_does_98 : decode cX6_does 98 = .ok (.aload_n 0, 1) := by decide +kernel
theorem dX6_does_99 : decode cX6_does 99 = .ok (.iload_n 1, 1) := by decide +kernel
theorem dX6_does_100 : decode cX6_does 100 = .ok (.iconst 2, 1) := by decide +kernel
theorem dX6_does_101 : decode cX6_does 101 = .ok (.iadd, 1) := by decide +kernel
theorem dX6_does_102 : decode cX6_does 102 = .ok (.invokevirtual 139, 3) := by decide +kernel
theorem dX6_does_105 : decode cX6_does 105 = .ok (.bipush 48, 2) := by decide +kernel
theorem dX6_does_107 : decode cX6_does 107 = .ok (.isub, 1) := by decide +kernel
theorem dX6_does_108 : decode cX6_does 108 = .ok (.invokestatic 127, 3) := by decide +kernel
theorem dX6_does_111 : decode cX6_does 111 = .ok (.invokevirtual 130, 3) := by decide +kernel
theorem dX6_does_114 : decode cX6_does 114 = .ok (.ireturn, 1) := by decide +kernel
theorem dX6_does_115 : decode cX6_does 115 = .ok (.aload_n 0, 1) := by decide +kernel
theorem dX6_does_116 : decode cX6_does 116 = .ok (.sipush 129, 3) := by decide +kernel
theorem dX6_does_119 : decode cX6_does 119 = .ok (.aload_n 0, 1) := by decide +kernel
theorem dX6_does_120 : decode cX6_does 120 = .ok (.iload_n 1, 1) := by decide +kernel
theorem dX6_does_121 : decode cX6_does 121 = .ok (.invokevirtual 157, 3) := by decide +kernel
theorem dX6_does_124 : decode cX6_does 124 = .ok (.aload_n 0, 1) := by decide +kernel
theorem dX6_does_125 : decode cX6_does 125 = .ok (.iload_n 1, 1) := by decide +kernel
theorem dX6_does_126 : decode cX6_does 126 = .ok (.iconst 3, 1) := by decide +kernel
theorem dX6_does_127 : decode cX6_does 127 = .ok (.iadd, 1) := by decide +kernel
theorem dX6_does_128 : decode cX6_does 128 = .ok (.invokevirtual 139, 3) := by decide +kernel
theorem dX6_does_131 : decode cX6_does 131 = .ok (.bipush 48, 2) := by decide +kernel
theorem dX6_does_133 : decode cX6_does 133 = .ok (.isub, 1) := by decide +kernel
theorem dX6_does_134 : decode cX6_does 134 = .ok (.aload_n 0, 1) := by decide +kernel
theorem dX6_does_135 : decode cX6_does 135 = .ok (.iload_n 1, 1) := by decide +kernel
theorem dX6_does_136 : decode cX6_does 136 = .ok (.iconst 4, 1) := by decide +kernel
theorem dX6_does_137 : decode cX6_does 137 = .ok (.iadd, 1) := by decide +kernel
theorem dX6_does_138 : decode cX6_does 138 = .ok (.invokevirtual 139, 3) := by decide +kernel
theorem dX6_does_141 : decode cX6_does 141 = .ok (.bipush 42, 2) := by decide +kernel
theorem dX6_does_143 : decode cX6_does 143 = .ok (.if_icmp .ne 7, 3) := by decide +kernel
theorem dX6_does_146 : decode cX6_does 146 = .ok (.iconst 1, 1) := by decide +kernel
theorem dX6_does_147 : decode cX6_does 147 = .ok (.goto 4, 3) := by decide +kernel
theorem dX6_does_150 : decode cX6_does 150 = .ok (.iconst 0, 1) := by decide +kernel
theorem dX6_does_151 : decode cX6_does 151 = .ok (.invokevirtual 117, 3) := by decide +kernel
theorem dX6_does_154 : decode cX6_does 154 = .ok (.ireturn, 1) := by decide +kernel
theorem dX6_doAll_0 : decode cX6_doAll 0 = .ok (.aload_n 0, 1) := by decide +kernel
theorem dX6_doAll_1 : decode cX6_doAll 1 = .ok (.invokevirtual 160, 3) := by decide +kernel
theorem dX6_doAll_4 : decode cX6_doAll 4 = .ok (.istore_n 1, 1) := by decide +kernel
theorem dX6_doAll_5 : decode cX6_doAll 5 = .ok (.iload_n 1, 1) := by decide +kernel
theorem dX6_doAll_6 : decode cX6_doAll 6 = .ok (.bipush (-5), 2) := by decide +kernel
theorem dX6_doAll_8 : decode cX6_doAll 8 = .ok (.if_icmp .eq 8, 3) := by decide +kernel
theorem dX6_doAll_11 : decode cX6_doAll 11 = .ok (.bipush (-100), 2) := by decide +kernel
theorem dX6_doAll_13 : decode cX6_doAll 13 = .ok (.iload_n 1, 1) := by decide +kernel
theorem dX6_doAll_14 : decode cX6_doAll 14 = .ok (.isub, 1) := by decide +kernel
theorem dX6_doAll_15 : decode cX6_doAll 15 = .ok (.ireturn, 1) := by decide +kernel
theorem dX6_doAll_16 : decode cX6_doAll 16 = .ok (.aload_n 0, 1) := by decide +kernel
theorem dX6_doAll_17 : decode cX6_doAll 17 = .ok (.invokevirtual 114, 3) := by decide +kernel
theorem dX6_doAll_20 : decode cX6_doAll 20 = .ok (.iconst 0, 1) := by decide +kernel
theorem dX6_doAll_21 : decode cX6_doAll 21 = .ok (.istore_n 2, 1) := by decide +kernel
theorem dX6_doAll_22 : decode cX6_doAll 22 = .ok (.iconst 0, 1) := by decide +kernel
theorem dX6_doAll_23 : decode cX6_doAll 23 = .ok (.istore_n 3, 1) := by decide +kernel
theorem dX6_doAll_24 : decode cX6_doAll 24 = .ok (.iload_n 3, 1) := by decide +kernel
theorem dX6_doAll_25 : decode cX6_doAll 25 = .ok (.aload_n 0, 1) := by decide +kernel
theorem dX6_doAll_26 : decode cX6_doAll 26 = .ok (.getfield 136, 3) := by decide +kernel
theorem dX6_doAll_29 : decode cX6_doAll 29 = .ok (.if_icmp .ge 39, 3) := by decide +kernel
theorem dX6_doAll_32 : decode cX6_doAll 32 = .ok (.aload_n 0, 1) := by decide +kernel
theorem dX6_doAll_33 : decode cX6_doAll 33 = .ok (.iload_n 3, 1) := by decide +kernel
theorem dX6_doAll_34 : decode cX6_doAll 34 = .ok (.invokevirtual 164, 3) := by decide +kernel
theorem dX6_doAll_37 : decode cX6_doAll 37 = .ok (.istore 4, 2) := by decide +kernel
theorem dX6_doAll_39 : decode cX6_doAll 39 = .ok (.iload 4, 2) := by decide +kernel
theorem dX6_doAll_41 : decode cX6_doAll 41 = .ok (.ifCond .ge 13, 3) := by decide +kernel
theorem dX6_doAll_44 : decode cX6_doAll 44 = .ok (.iload 4, 2) := by decide +kernel
theorem dX6_doAll_46 : decode cX6_doAll 46 = .ok (.bipush (-5), 2) := by decide +kernel
theorem dX6_doAll_48 : decode cX6_doAll 48 = .ok (.if_icmp .eq 6, 3) := by decide +kernel
theorem dX6_doAll_51 : decode cX6_doAll 51 = .ok (.iload 4, 2) := by decide +kernel
theorem dX6_doAll_53 : decode cX6_doAll 53 = .ok (.ireturn, 1) := by decide +kernel
theorem dX6_doAll_54 : decode cX6_doAll 54 = .ok (.iinc 2 1, 3) := by decide +kernel
theorem dX6_doAll_57 : decode cX6_doAll 57 = .ok (.aload_n 0, 1) := by decide +kernel
theorem dX6_doAll_58 : decode cX6_doAll 58 = .ok (.iload_n 3, 1) := by decide +kernel
theorem dX6_doAll_59 : decode cX6_doAll 59 = .ok (.invokevirtual 154, 3) := by decide +kernel
theorem dX6_doAll_62 : decode cX6_doAll 62 = .ok (.iconst 1, 1) := by decide +kernel
theorem dX6_doAll_63 : decode cX6_doAll 63 = .ok (.iadd, 1) := by decide +kernel
theorem dX6_doAll_64 : decode cX6_doAll 64 = .ok (.istore_n 3, 1) := by decide +kernel
theorem dX6_doAll_65 : decode cX6_doAll 65 = .ok (.goto (-41), 3) := by decide +kernel
theorem dX6_doAll_68 : decode cX6_doAll 68 = .ok (.aload_n 0, 1) := by decide +kernel
theorem dX6_doAll_69 : decode cX6_doAll 69 = .ok (.iload_n 2, 1) := by decide +kernel
theorem dX6_doAll_70 : decode cX6_doAll 70 = .ok (.invokevirtual 121, 3) := by decide +kernel
theorem dX6_doAll_73 : decode cX6_doAll 73 = .ok (.ireturn, 1) := by decide +kernel
theorem dX6_undo_0 : decode cX6_undo 0 = .ok (.aload_n 0, 1) := by decide +kernel
theorem dX6_undo_1 : decode cX6_undo 1 = .ok (.getfield 43, 3) := by decide +kernel
theorem dX6_undo_4 : decode cX6_undo 4 = .ok (.ifCond .ne 6, 3) := by decide +kernel
theorem dX6_undo_7 : decode cX6_undo 7 = .ok (.bipush (-5), 2) := by decide +kernel
theorem dX6_undo_9 : decode cX6_undo 9 = .ok (.ireturn, 1) := by decide +kernel
theorem dX6_undo_10 : decode cX6_undo 10 = .ok (.aload_n 0, 1) := by decide +kernel
theorem dX6_undo_11 : decode cX6_undo 11 = .ok (.dup, 1) := by decide +kernel
theorem dX6_undo_12 : decode cX6_undo 12 = .ok (.getfield 43, 3) := by decide +kernel
theorem dX6_undo_15 : decode cX6_undo 15 = .ok (.iconst 1, 1) := by decide +kernel
theorem dX6_undo_16 : decode cX6_undo 16 = .ok (.isub, 1) := by decide +kernel
theorem dX6_undo_17 : decode cX6_undo 17 = .ok (.putfield 43, 3) := by decide +kernel
theorem dX6_undo_20 : decode cX6_undo 20 = .ok (.iconst 0, 1) := by decide +kernel
theorem dX6_undo_21 : decode cX6_undo 21 = .ok (.istore_n 1, 1) := by decide +kernel
theorem dX6_undo_22 : decode cX6_undo 22 = .ok (.iload_n 1, 1) := by decide +kernel
theorem dX6_undo_23 : decode cX6_undo 23 = .ok (.sipush 129, 3) := by decide +kernel
theorem dX6_undo_26 : decode cX6_undo 26 = .ok (.if_icmp .ge 30, 3) := by decide +kernel
theorem dX6_undo_29 : decode cX6_undo 29 = .ok (.aload_n 0, 1) := by decide +kernel
theorem dX6_undo_30 : decode cX6_undo 30 = .ok (.getfield 7, 3) := by decide +kernel
theorem dX6_undo_33 : decode cX6_undo 33 = .ok (.iload_n 1, 1) := by decide +kernel
theorem dX6_undo_34 : decode cX6_undo 34 = .ok (.aload_n 0, 1) := by decide +kernel
theorem dX6_undo_35 : decode cX6_undo 35 = .ok (.getfield 13, 3) := by decide +kernel
theorem dX6_undo_38 : decode cX6_undo 38 = .ok (.sipush 129, 3) := by decide +kernel
theorem dX6_undo_41 : decode cX6_undo 41 = .ok (.aload_n 0, 1) := by decide +kernel
theorem dX6_undo_42 : decode cX6_undo 42 = .ok (.getfield 43, 3) := by decide +kernel
theorem dX6_undo_45 : decode cX6_undo 45 = .ok (.imul, 1) := by decide +kernel
theorem dX6_undo_46 : decode cX6_undo 46 = .ok (.iload_n 1, 1) := by decide +kernel
theorem dX6_undo_47 : decode cX6_undo 47 = .ok (.iadd, 1) := by decide +kernel
theorem dX6_undo_48 : decode cX6_undo 48 = .ok (.iaload, 1) := by decide +kernel
theorem dX6_undo_49 : decode cX6_undo 49 = .ok (.iastore, 1) := by decide +kernel
theorem dX6_undo_50 : decode cX6_undo 50 = .ok (.iinc 1 1, 3) := by decide +kernel
theorem dX6_undo_53 : decode cX6_undo 53 = .ok (.goto (-31), 3) := by decide +kernel
theorem dX6_undo_56 : decode cX6_undo 56 = .ok (.aload_n 0, 1) := by decide +kernel
theorem dX6_undo_57 : decode cX6_undo 57 = .ok (.getfield 43, 3) := by decide +kernel
theorem dX6_undo_60 : decode cX6_undo 60 = .ok (.ireturn, 1) := by decide +kernel
theorem dX6_keep_0 : decode cX6_keep 0 = .ok (.iconst 0, 1) := by decide +kernel
theorem dX6_keep_1 : decode cX6_keep 1 = .ok (.istore_n 1, 1) := by decide +kernel
theorem dX6_keep_2 : decode cX6_keep 2 = .ok (.iload_n 1, 1) := by decide +kernel
theorem dX6_keep_3 : decode cX6_keep 3 = .ok (.sipush 129, 3) := by decide +kernel
theorem dX6_keep_6 : decode cX6_keep 6 = .ok (.if_icmp .ge 21, 3) := by decide +kernel
theorem dX6_keep_9 : decode cX6_keep 9 = .ok (.aload_n 0, 1) := by decide +kernel
theorem dX6_keep_10 : decode cX6_keep 10 = .ok (.getfield 16, 3) := by decide +kernel
theorem dX6_keep_13 : decode cX6_keep 13 = .ok (.iload_n 1, 1) := by decide +kernel
theorem dX6_keep_14 : decode cX6_keep 14 = .ok (.aload_n 0, 1) := by decide +kernel
theorem dX6_keep_15 : decode cX6_keep 15 = .ok (.getfield 7, 3) := by decide +kernel
theorem dX6_keep_18 : decode cX6_keep 18 = .ok (.iload_n 1, 1) := by decide +kernel
theorem dX6_keep_19 : decode cX6_keep 19 = .ok (.iaload, 1) := by decide +kernel
theorem dX6_keep_20 : decode cX6_keep 20 = .ok (.iastore, 1) := by decide +kernel
theorem dX6_keep_21 : decode cX6_keep 21 = .ok (.iinc 1 1, 3) := by decide +kernel
theorem dX6_keep_24 : decode cX6_keep 24 = .ok (.goto (-22), 3) := by decide +kernel
theorem dX6_keep_27 : decode cX6_keep 27 = .ok (.aload_n 0, 1) := by decide +kernel
theorem dX6_keep_28 : decode cX6_keep 28 = .ok (.iconst 1, 1) := by decide +kernel
theorem dX6_keep_29 : decode cX6_keep 29 = .ok (.putfield 167, 3) := by decide +kernel
theorem dX6_keep_32 : decode cX6_keep 32 = .ok (.aload_n 0, 1) := by decide +kernel
theorem dX6_keep_33 : decode cX6_keep 33 = .ok (.getfield 7, 3) := by decide +kernel
theorem dX6_keep_36 : decode cX6_keep 36 = .ok (.bipush 126, 2) := by decide +kernel
theorem dX6_keep_38 : decode cX6_keep 38 = .ok (.iaload, 1) := by decide +kernel
theorem dX6_keep_39 : decode cX6_keep 39 = .ok (.ireturn, 1) := by decide +kernel
theorem dX6_restore_0 : decode cX6_restore 0 = .ok (.aload_n 0, 1) := by decide +kernel
theorem dX6_restore_1 : decode cX6_restore 1 = .ok (.getfield 167, 3) := by decide +kernel
theorem dX6_restore_4 : decode cX6_restore 4 = .ok (.ifCond .ne 6, 3) := by decide +kernel
theorem dX6_restore_7 : decode cX6_restore 7 = .ok (.bipush (-5), 2) := by decide +kernel
theorem dX6_restore_9 : decode cX6_restore 9 = .ok (.ireturn, 1) := by decide +kernel
theorem dX6_restore_10 : decode cX6_restore 10 = .ok (.aload_n 0, 1) := by decide +kernel
theorem dX6_restore_11 : decode cX6_restore 11 = .ok (.invokevirtual 47, 3) := by decide +kernel
theorem dX6_restore_14 : decode cX6_restore 14 = .ok (.iconst 0, 1) := by decide +kernel
theorem dX6_restore_15 : decode cX6_restore 15 = .ok (.istore_n 1, 1) := by decide +kernel
theorem dX6_restore_16 : decode cX6_restore 16 = .ok (.iload_n 1, 1) := by decide +kernel
theorem dX6_restore_17 : decode cX6_restore 17 = .ok (.sipush 129, 3) := by decide +kernel
theorem dX6_restore_20 : decode cX6_restore 20 = .ok (.if_icmp .ge 21, 3) := by decide +kernel
theorem dX6_restore_23 : decode cX6_restore 23 = .ok (.aload_n 0, 1) := by decide +kernel
theorem dX6_restore_24 : decode cX6_restore 24 = .ok (.getfield 7, 3) := by decide +kernel
theorem dX6_restore_27 : decode cX6_restore 27 = .ok (.iload_n 1, 1) := by decide +kernel
theorem dX6_restore_28 : decode cX6_restore 28 = .ok (.aload_n 0, 1) := by decide +kernel
theorem dX6_restore_29 : decode cX6_restore 29 = .ok (.getfield 16, 3) := by decide +kernel
theorem dX6_restore_32 : decode cX6_restore 32 = .ok (.iload_n 1, 1) := by decide +kernel
theorem dX6_restore_33 : decode cX6_restore 33 = .ok (.iaload, 1) := by decide +kernel
theorem dX6_restore_34 : decode cX6_restore 34 = .ok (.iastore, 1) := by decide +kernel
theorem dX6_restore_35 : decode cX6_restore 35 = .ok (.iinc 1 1, 3) := by decide +kernel
theorem dX6_restore_38 : decode cX6_restore 38 = .ok (.goto (-22), 3) := by decide +kernel
theorem dX6_restore_41 : decode cX6_restore 41 = .ok (.aload_n 0, 1) := by decide +kernel
theorem dX6_restore_42 : decode cX6_restore 42 = .ok (.getfield 7, 3) := by decide +kernel
theorem dX6_restore_45 : decode cX6_restore 45 = .ok (.bipush 126, 2) := by decide +kernel
theorem dX6_restore_47 : decode cX6_restore 47 = .ok (.iaload, 1) := by decide +kernel
theorem dX6_restore_48 : decode cX6_restore 48 = .ok (.ireturn, 1) := by decide +kernel
theorem dX6_cellOf_0 : decode cX6_cellOf 0 = .ok (.iload_n 1, 1) := by decide +kernel
theorem dX6_cellOf_1 : decode cX6_cellOf 1 = .ok (.invokestatic 98, 3) := by decide +kernel
theorem dX6_cellOf_4 : decode cX6_cellOf 4 = .ok (.ifCond .ne 5, 3) := by decide +kernel
theorem dX6_cellOf_7 : decode cX6_cellOf 7 = .ok (.iconst (-1), 1) := by decide +kernel
theorem dX6_cellOf_8 : decode cX6_cellOf 8 = .ok (.ireturn, 1) := by decide +kernel
theorem dX6_cellOf_9 : decode cX6_cellOf 9 = .ok (.iload_n 2, 1) := by decide +kernel
theorem dX6_cellOf_10 : decode cX6_cellOf 10 = .ok (.tableswitch 70 0 3 #[30, 39, 49, 63], 30) := by decide +kernel
theorem dX6_cellOf_40 : decode cX6_cellOf 40 = .ok (.aload_n 0, 1) := by decide +kernel
theorem dX6_cellOf_41 : decode cX6_cellOf 41 = .ok (.getfield 7, 3) := by decide +kernel
theorem dX6_cellOf_44 : decode cX6_cellOf 44 = .ok (.iconst 0, 1) := by decide +kernel
theorem dX6_cellOf_45 : decode cX6_cellOf 45 = .ok (.iload_n 1, 1) := by decide +kernel
theorem dX6_cellOf_46 : decode cX6_cellOf 46 = .ok (.iadd, 1) := by decide +kernel
theorem dX6_cellOf_47 : decode cX6_cellOf 47 = .ok (.iaload, 1) := by decide +kernel
theorem dX6_cellOf_48 : decode cX6_cellOf 48 = .ok (.ireturn, 1) := by decide +kernel
theorem dX6_cellOf_49 : decode cX6_cellOf 49 = .ok (.aload_n 0, 1) := by decide +kernel
theorem dX6_cellOf_50 : decode cX6_cellOf 50 = .ok (.getfield 7, 3) := by decide +kernel
theorem dX6_cellOf_53 : decode cX6_cellOf 53 = .ok (.bipush 36, 2) := by decide +kernel
theorem dX6_cellOf_55 : decode cX6_cellOf 55 = .ok (.iload_n 1, 1) := by decide +kernel
theorem dX6_cellOf_56 : decode cX6_cellOf 56 = .ok (.iadd, 1) := by decide +kernel
theorem dX6_cellOf_57 : decode cX6_cellOf 57 = .ok (.iaload, 1) := by decide +kernel
theorem dX6_cellOf_58 : decode cX6_cellOf 58 = .ok (.ireturn, 1) := by decide +kernel
theorem dX6_cellOf_59 : decode cX6_cellOf 59 = .ok (.aload_n 0, 1) := by decide +kernel
theorem dX6_cellOf_60 : decode cX6_cellOf 60 = .ok (.iconst 0, 1) := by decide +kernel
theorem dX6_cellOf_61 : decode cX6_cellOf 61 = .ok (.iload_n 1, 1) := by decide +kernel
theorem dX6_cellOf_62 : decode cX6_cellOf 62 = .ok (.aload_n 0, 1) := by decide +kernel
theorem dX6_cellOf_63 : decode cX6_cellOf 63 = .ok (.getfield 7, 3) := by decide +kernel
theorem dX6_cellOf_66 : decode cX6_cellOf 66 = .ok (.bipush 126, 2) := by decide +kernel
theorem dX6_cellOf_68 : decode cX6_cellOf 68 = .ok (.iaload, 1) := by decide +kernel
theorem dX6_cellOf_69 : decode cX6_cellOf 69 = .ok (.invokevirtual 53, 3) := by decide +kernel
theorem dX6_cellOf_72 : decode cX6_cellOf 72 = .ok (.ireturn, 1) := by decide +kernel
theorem dX6_cellOf_73 : decode cX6_cellOf 73 = .ok (.aload_n 0, 1) := by decide +kernel
theorem dX6_cellOf_74 : decode cX6_cellOf 74 = .ok (.iconst 0, 1) := by decide +kernel
theorem dX6_cellOf_75 : decode cX6_cellOf 75 = .ok (.iload_n 1, 1) := by decide +kernel
theorem dX6_cellOf_76 : decode cX6_cellOf 76 = .ok (.invokevirtual 71, 3) := by decide +kernel
theorem dX6_cellOf_79 : decode cX6_cellOf 79 = .ok (.ireturn, 1) := by decide +kernel
theorem dX6_cellOf_80 : decode cX6_cellOf 80 = .ok (.bipush (-2), 2) := by decide +kernel
theorem dX6_cellOf_82 : decode cX6_cellOf 82 = .ok (.ireturn, 1) := by decide +kernel
theorem dX6_movesOf_0 : decode cX6_movesOf 0 = .ok (.iconst 0, 1) := by decide +kernel
theorem dX6_movesOf_1 : decode cX6_movesOf 1 = .ok (.istore_n 2, 1) := by decide +kernel
theorem dX6_movesOf_2 : decode cX6_movesOf 2 = .ok (.iconst 0, 1) := by decide +kernel
theorem dX6_movesOf_3 : decode cX6_movesOf 3 = .ok (.istore_n 3, 1) := by decide +kernel
theorem dX6_movesOf_4 : decode cX6_movesOf 4 = .ok (.iload_n 3, 1) := by decide +kernel
theorem dX6_movesOf_5 : decode cX6_movesOf 5 = .ok (.bipush 12, 2) := by decide +kernel
theorem dX6_movesOf_7 : decode cX6_movesOf 7 = .ok (.if_icmp .ge 38, 3) := by decide +kernel
theorem dX6_movesOf_10 : decode cX6_movesOf 10 = .ok (.iload_n 2, 1) := by decide +kernel
theorem dX6_movesOf_11 : decode cX6_movesOf 11 = .ok (.aload_n 0, 1) := by decide +kernel
theorem dX6_movesOf_12 : decode cX6_movesOf 12 = .ok (.iconst 0, 1) := by decide +kernel
theorem dX6_movesOf_13 : decode cX6_movesOf 13 = .ok (.iload_n 1, 1) := by decide +kernel
theorem dX6_movesOf_14 : decode cX6_movesOf 14 = .ok (.bipush 10, 2) := by decide +kernel
theorem dX6_movesOf_16 : decode cX6_movesOf 16 = .ok (.iload_n 3, 1) := by decide +kernel
theorem dX6_movesOf_17 : decode cX6_movesOf 17 = .ok (.iconst 3, 1) := by decide +kernel
theorem dX6_movesOf_18 : decode cX6_movesOf 18 = .ok (.idiv, 1) := by decide +kernel
theorem dX6_movesOf_19 : decode cX6_movesOf 19 = .ok (.imul, 1) := by decide +kernel
theorem dX6_movesOf_20 : decode cX6_movesOf 20 = .ok (.iload_n 3, 1) := by decide +kernel
theorem dX6_movesOf_21 : decode cX6_movesOf 21 = .ok (.iconst 3, 1) := by decide +kernel
theorem dX6_movesOf_22 : decode cX6_movesOf 22 = .ok (.irem, 1) := by decide +kernel
theorem dX6_movesOf_23 : decode cX6_movesOf 23 = .ok (.iadd, 1) := by decide +kernel
theorem dX6_movesOf_24 : decode cX6_movesOf 24 = .ok (.iconst 1, 1) := by decide +kernel
theorem dX6_movesOf_25 : decode cX6_movesOf 25 = .ok (.iadd, 1) := by decide +kernel
theorem dX6_movesOf_26 : decode cX6_movesOf 26 = .ok (.invokevirtual 95, 3) := by decide +kernel
theorem dX6_movesOf_29 : decode cX6_movesOf 29 = .ok (.ifCond .ne 7, 3) := by decide +kernel
theorem dX6_movesOf_32 : decode cX6_movesOf 32 = .ok (.iconst 1, 1) := by decide +kernel
theorem dX6_movesOf_33 : decode cX6_movesOf 33 = .ok (.goto 4, 3) := by decide +kernel
theorem dX6_movesOf_36 : decode cX6_movesOf 36 = .ok (.iconst 0, 1) := by decide +kernel
theorem dX6_movesOf_37 : decode cX6_movesOf 37 = .ok (.iadd, 1) := by decide +kernel
theorem dX6_movesOf_38 : decode cX6_movesOf 38 = .ok (.istore_n 2, 1) := by decide +kernel
theorem dX6_movesOf_39 : decode cX6_movesOf 39 = .ok (.iinc 3 1, 3) := by decide +kernel
theorem dX6_movesOf_42 : decode cX6_movesOf 42 = .ok (.goto (-38), 3) := by decide +kernel
theorem dX6_movesOf_45 : decode cX6_movesOf 45 = .ok (.iload_n 2, 1) := by decide +kernel
theorem dX6_movesOf_46 : decode cX6_movesOf 46 = .ok (.ireturn, 1) := by decide +kernel
theorem dX6_boatOf_0 : decode cX6_boatOf 0 = .ok (.aload_n 0, 1) := by decide +kernel
theorem dX6_boatOf_1 : decode cX6_boatOf 1 = .ok (.iconst 0, 1) := by decide +kernel
theorem dX6_boatOf_2 : decode cX6_boatOf 2 = .ok (.iload_n 1, 1) := by decide +kernel
theorem dX6_boatOf_3 : decode cX6_boatOf 3 = .ok (.invokevirtual 104, 3) := by decide +kernel
theorem dX6_boatOf_6 : decode cX6_boatOf 6 = .ok (.ifCond .ne 5, 3) := by decide +kernel
theorem dX6_boatOf_9 : decode cX6_boatOf 9 = .ok (.iconst (-1), 1) := by decide +kernel
theorem dX6_boatOf_10 : decode cX6_boatOf 10 = .ok (.ireturn, 1) := by decide +kernel
theorem dX6_boatOf_11 : decode cX6_boatOf 11 = .ok (.iload_n 2, 1) := by decide +kernel
theorem dX6_boatOf_12 : decode cX6_boatOf 12 = .ok (.tableswitch 104 0 6 #[44, 44, 44, 52, 75, 90, 98], 44) := by decide +kernel
theorem dX6_boatOf_56 : decode cX6_boatOf 56 = .ok (.aload_n 0, 1) := by decide +kernel
theorem dX6_boatOf_57 : decode cX6_boatOf 57 = .ok (.iconst 0, 1) := by decide +kernel
theorem dX6_boatOf_58 : decode cX6_boatOf 58 = .ok (.iload_n 1, 1) := by decide +kernel
theorem dX6_boatOf_59 : decode cX6_boatOf 59 = .ok (.iload_n 2, 1) := by decide +kernel
theorem dX6_boatOf_60 : decode cX6_boatOf 60 = .ok (.invokevirtual 68, 3) := by decide +kernel
theorem dX6_boatOf_63 : decode cX6_boatOf 63 = .ok (.ireturn, 1) := by decide +kernel
theorem dX6_boatOf_64 : decode cX6_boatOf 64 = .ok (.aload_n 0, 1) := by decide +kernel
theorem dX6_boatOf_65 : decode cX6_boatOf 65 = .ok (.iconst 0, 1) := by decide +kernel
theorem dX6_boatOf_66 : decode cX6_boatOf 66 = .ok (.iload_n 1, 1) := by decide +kernel
theorem dX6_boatOf_67 : decode cX6_boatOf 67 = .ok (.iconst 2, 1) := by decide +kernel
theorem dX6_boatOf_68 : decode cX6_boatOf 68 = .ok (.invokevirtual 68, 3) := by decide +kernel
theorem dX6_boatOf_71 : decode cX6_boatOf 71 = .ok (.ifCond .ne 13, 3) := by decide +kernel
theorem dX6_boatOf_74 : decode cX6_boatOf 74 = .ok (.aload_n 0, 1) := by decide +kernel
theorem dX6_boatOf_75 : decode cX6_boatOf 75 = .ok (.iconst 0, 1) := by decide +kernel
theorem dX6_boatOf_76 : decode cX6_boatOf 76 = .ok (.iload_n 1, 1) := by decide +kernel
theorem dX6_boatOf_77 : decode cX6_boatOf 77 = .ok (.iconst 3, 1) := by decide +kernel
theorem dX6_boatOf_78 : decode cX6_boatOf 78 = .ok (.invokevirtual 68, 3) := by decide +kernel
theorem dX6_boatOf_81 : decode cX6_boatOf 81 = .ok (.goto 5, 3) := by decide +kernel
theorem dX6_boatOf_84 : decode cX6_boatOf 84 = .ok (.bipush (-5), 2) := by decide +kernel
theorem dX6_boatOf_86 : decode cX6_boatOf 86 = .ok (.ireturn, 1) := by decide +kernel
theorem dX6_boatOf_87 : decode cX6_boatOf 87 = .ok (.aload_n 0, 1) := by decide +kernel
theorem dX6_boatOf_88 : decode cX6_boatOf 88 = .ok (.iconst 0, 1) := by decide +kernel
theorem dX6_boatOf_89 : decode cX6_boatOf 89 = .ok (.iload_n 1, 1) := by decide +kernel
theorem dX6_boatOf_90 : decode cX6_boatOf 90 = .ok (.invokevirtual 74, 3) := by decide +kernel
theorem dX6_boatOf_93 : decode cX6_boatOf 93 = .ok (.ifCond .eq 7, 3) := by decide +kernel
theorem dX6_boatOf_96 : decode cX6_boatOf 96 = .ok (.iconst 1, 1) := by decide +kernel
theorem dX6_boatOf_97 : decode cX6_boatOf 97 = .ok (.goto 4, 3) := by decide +kernel
theorem dX6_boatOf_100 : decode cX6_boatOf 100 = .ok (.iconst 0, 1) := by decide +kernel
theorem dX6_boatOf_101 : decode cX6_boatOf 101 = .ok (.ireturn, 1) := by decide +kernel
theorem dX6_boatOf_102 : decode cX6_boatOf 102 = .ok (.aload_n 0, 1) := by decide +kernel
theorem dX6_boatOf_103 : decode cX6_boatOf 103 = .ok (.iconst 0, 1) := by decide +kernel
theorem dX6_boatOf_104 : decode cX6_boatOf 104 = .ok (.iload_n 1, 1) := by decide +kernel
theorem dX6_boatOf_105 : decode cX6_boatOf 105 = .ok (.iconst 4, 1) := by decide +kernel
theorem dX6_boatOf_106 : decode cX6_boatOf 106 = .ok (.invokevirtual 68, 3) := by decide +kernel
theorem dX6_boatOf_109 : decode cX6_boatOf 109 = .ok (.ireturn, 1) := by decide +kernel
theorem dX6_boatOf_110 : decode cX6_boatOf 110 = .ok (.aload_n 0, 1) := by decide +kernel
theorem dX6_boatOf_111 : decode cX6_boatOf 111 = .ok (.iload_n 1, 1) := by decide +kernel
theorem dX6_boatOf_112 : decode cX6_boatOf 112 = .ok (.invokevirtual 171, 3) := by decide +kernel
theorem dX6_boatOf_115 : decode cX6_boatOf 115 = .ok (.ireturn, 1) := by decide +kernel
theorem dX6_boatOf_116 : decode cX6_boatOf 116 = .ok (.bipush (-2), 2) := by decide +kernel
theorem dX6_boatOf_118 : decode cX6_boatOf 118 = .ok (.ireturn, 1) := by decide +kernel
theorem dX6_tide_0 : decode cX6_tide 0 = .ok (.iload_n 1, 1) := by decide +kernel
theorem dX6_tide_1 : decode cX6_tide 1 = .ok (.iconst 0, 1) := by decide +kernel
theorem dX6_tide_2 : decode cX6_tide 2 = .ok (.sipush 1000, 3) := by decide +kernel
theorem dX6_tide_5 : decode cX6_tide 5 = .ok (.invokestatic 35, 3) := by decide +kernel
theorem dX6_tide_8 : decode cX6_tide 8 = .ok (.ifCond .eq 12, 3) := by decide +kernel
theorem dX6_tide_11 : decode cX6_tide 11 = .ok (.aload_n 0, 1) := by decide +kernel
theorem dX6_tide_12 : decode cX6_tide 12 = .ok (.iconst 0, 1) := by decide +kernel
theorem dX6_tide_13 : decode cX6_tide 13 = .ok (.iload_n 1, 1) := by decide +kernel
theorem dX6_tide_14 : decode cX6_tide 14 = .ok (.invokevirtual 50, 3) := by decide +kernel
theorem dX6_tide_17 : decode cX6_tide 17 = .ok (.goto 4, 3) := by decide +kernel
theorem dX6_tide_20 : decode cX6_tide 20 = .ok (.iconst (-1), 1) := by decide +kernel
theorem dX6_tide_21 : decode cX6_tide 21 = .ok (.ireturn, 1) := by decide +kernel
theorem dX6_why_0 : decode cX6_why 0 = .ok (.aload_n 0, 1) := by decide +kernel
theorem dX6_why_1 : decode cX6_why 1 = .ok (.iconst 0, 1) := by decide +kernel
theorem dX6_why_2 : decode cX6_why 2 = .ok (.iload_n 1, 1) := by decide +kernel
theorem dX6_why_3 : decode cX6_why 3 = .ok (.invokevirtual 104, 3) := by decide +kernel
theorem dX6_why_6 : decode cX6_why 6 = .ok (.ifCond .ne 5, 3) := by decide +kernel
theorem dX6_why_9 : decode cX6_why 9 = .ok (.iconst (-1), 1) := by decide +kernel
theorem dX6_why_10 : decode cX6_why 10 = .ok (.ireturn, 1) := by decide +kernel
theorem dX6_why_11 : decode cX6_why 11 = .ok (.iload_n 2, 1) := by decide +kernel
theorem dX6_why_12 : decode cX6_why 12 = .ok (.iload_n 3, 1) := by decide +kernel
theorem dX6_why_13 : decode cX6_why 13 = .ok (.invokestatic 127, 3) := by decide +kernel
theorem dX6_why_16 : decode cX6_why 16 = .ok (.istore 4, 2) := by decide +kernel
theorem dX6_why_18 : decode cX6_why 18 = .ok (.iload 4, 2) := by decide +kernel
theorem dX6_why_20 : decode cX6_why 20 = .ok (.bipush (-5), 2) := by decide +kernel
theorem dX6_why_22 : decode cX6_why 22 = .ok (.if_icmp .ne 8, 3) := by decide +kernel
theorem dX6_why_25 : decode cX6_why 25 = .ok (.bipush (-2), 2) := by decide +kernel
theorem dX6_why_27 : decode cX6_why 27 = .ok (.goto 11, 3) := by decide +kernel
theorem dX6_why_30 : decode cX6_why 30 = .ok (.aload_n 0, 1) := by decide +kernel
theorem dX6_why_31 : decode cX6_why 31 = .ok (.iconst 0, 1) := by decide +kernel
theorem dX6_why_32 : decode cX6_why 32 = .ok (.iload_n 1, 1) := by decide +kernel
theorem dX6_why_33 : decode cX6_why 33 = .ok (.iload 4, 2) := by decide +kernel
theorem dX6_why_35 : decode cX6_why 35 = .ok (.invokevirtual 107, 3) := by decide +kernel
theorem dX6_why_38 : decode cX6_why 38 = .ok (.ireturn, 1) := by decide +kernel
theorem dX6_score_0 : decode cX6_score 0 = .ok (.iconst 0, 1) := by decide +kernel
theorem dX6_score_1 : decode cX6_score 1 = .ok (.istore_n 2, 1) := by decide +kernel
theorem dX6_score_2 : decode cX6_score 2 = .ok (.iconst 0, 1) := by decide +kernel
theorem dX6_score_3 : decode cX6_score 3 = .ok (.istore_n 3, 1) := by decide +kernel
theorem dX6_score_4 : decode cX6_score 4 = .ok (.iload_n 3, 1) := by decide +kernel
theorem dX6_score_5 : decode cX6_score 5 = .ok (.aload_n 0, 1) := by decide +kernel
theorem dX6_score_6 : decode cX6_score 6 = .ok (.getfield 7, 3) := by decide +kernel
theorem dX6_score_9 : decode cX6_score 9 = .ok (.bipush 127, 2) := by decide +kernel
theorem dX6_score_11 : decode cX6_score 11 = .ok (.iaload, 1) := by decide +kernel
theorem dX6_score_12 : decode cX6_score 12 = .ok (.if_icmp .ge 45, 3) := by decide +kernel
theorem dX6_score_15 : decode cX6_score 15 = .ok (.iload_n 2, 1) := by decide +kernel
theorem dX6_score_16 : decode cX6_score 16 = .ok (.aload_n 0, 1) := by decide +kernel
theorem dX6_score_17 : decode cX6_score 17 = .ok (.iconst 0, 1) := by decide +kernel
theorem dX6_score_18 : decode cX6_score 18 = .ok (.iload_n 3, 1) := by decide +kernel
theorem dX6_score_19 : decode cX6_score 19 = .ok (.iconst 0, 1) := by decide +kernel
theorem dX6_score_20 : decode cX6_score 20 = .ok (.invokevirtual 68, 3) := by decide +kernel
theorem dX6_score_23 : decode cX6_score 23 = .ok (.iload_n 1, 1) := by decide +kernel
theorem dX6_score_24 : decode cX6_score 24 = .ok (.if_icmp .ne 24, 3) := by decide +kernel
theorem dX6_score_27 : decode cX6_score 27 = .ok (.aload_n 0, 1) := by decide +kernel
theorem dX6_score_28 : decode cX6_score 28 = .ok (.iconst 0, 1) := by decide +kernel
theorem dX6_score_29 : decode cX6_score 29 = .ok (.iload_n 3, 1) := by decide +kernel
theorem dX6_score_30 : decode cX6_score 30 = .ok (.iconst 2, 1) := by decide +kernel
theorem dX6_score_31 : decode cX6_score 31 = .ok (.invokevirtual 68, 3) := by decide +kernel
theorem dX6_score_34 : decode cX6_score 34 = .ok (.iconst 1, 1) := by decide +kernel
theorem dX6_score_35 : decode cX6_score 35 = .ok (.if_icmp .ne 13, 3) := by decide +kernel
theorem dX6_score_38 : decode cX6_score 38 = .ok (.aload_n 0, 1) := by decide +kernel
theorem dX6_score_39 : decode cX6_score 39 = .ok (.iconst 0, 1) := by decide +kernel
theorem dX6_score_40 : decode cX6_score 40 = .ok (.iload_n 3, 1) := by decide +kernel
theorem dX6_score_41 : decode cX6_score 41 = .ok (.iconst 1, 1) := by decide +kernel
theorem dX6_score_42 : decode cX6_score 42 = .ok (.invokevirtual 68, 3) := by decide +kernel
theorem dX6_score_45 : decode cX6_score 45 = .ok (.goto 4, 3) := by decide +kernel
theorem dX6_score_48 : decode cX6_score 48 = .ok (.iconst 0, 1) := by decide +kernel
theorem dX6_score_49 : decode cX6_score 49 = .ok (.iadd, 1) := by decide +kernel
theorem dX6_score_50 : decode cX6_score 50 = .ok (.istore_n 2, 1) := by decide +kernel
theorem dX6_score_51 : decode cX6_score 51 = .ok (.iinc 3 1, 3) := by decide +kernel
theorem dX6_score_54 : decode cX6_score 54 = .ok (.goto (-50), 3) := by decide +kernel
theorem dX6_score_57 : decode cX6_score 57 = .ok (.iload_n 2, 1) := by decide +kernel
theorem dX6_score_58 : decode cX6_score 58 = .ok (.ireturn, 1) := by decide +kernel
theorem dX6_aground_0 : decode cX6_aground 0 = .ok (.aload_n 0, 1) := by decide +kernel
theorem dX6_aground_1 : decode cX6_aground 1 = .ok (.iconst 0, 1) := by decide +kernel
theorem dX6_aground_2 : decode cX6_aground 2 = .ok (.iconst 0, 1) := by decide +kernel
theorem dX6_aground_3 : decode cX6_aground 3 = .ok (.invokevirtual 78, 3) := by decide +kernel
theorem dX6_aground_6 : decode cX6_aground 6 = .ok (.istore_n 1, 1) := by decide +kernel
theorem dX6_aground_7 : decode cX6_aground 7 = .ok (.iconst 0, 1) := by decide +kernel
theorem dX6_aground_8 : decode cX6_aground 8 = .ok (.istore_n 2, 1) := by decide +kernel
theorem dX6_aground_9 : decode cX6_aground 9 = .ok (.iload_n 2, 1) := by decide +kernel
theorem dX6_aground_10 : decode cX6_aground 10 = .ok (.aload_n 0, 1) := by decide +kernel
theorem dX6_aground_11 : decode cX6_aground 11 = .ok (.getfield 7, 3) := by decide +kernel
theorem dX6_aground_14 : decode cX6_aground 14 = .ok (.bipush 127, 2) := by decide +kernel
theorem dX6_aground_16 : decode cX6_aground 16 = .ok (.iaload, 1) := by decide +kernel
theorem dX6_aground_17 : decode cX6_aground 17 = .ok (.if_icmp .ge 26, 3) := by decide +kernel
theorem dX6_aground_20 : decode cX6_aground 20 = .ok (.iload_n 1, 1) := by decide +kernel
theorem dX6_aground_21 : decode cX6_aground 21 = .ok (.aload_n 0, 1) := by decide +kernel
theorem dX6_aground_22 : decode cX6_aground 22 = .ok (.iconst 0, 1) := by decide +kernel
theorem dX6_aground_23 : decode cX6_aground 23 = .ok (.iload_n 2, 1) := by decide +kernel
theorem dX6_aground_24 : decode cX6_aground 24 = .ok (.invokevirtual 74, 3) := by decide +kernel
theorem dX6_aground_27 : decode cX6_aground 27 = .ok (.ifCond .eq 7, 3) := by decide +kernel
theorem dX6_aground_30 : decode cX6_aground 30 = .ok (.iconst 1, 1) := by decide +kernel
theorem dX6_aground_31 : decode cX6_aground 31 = .ok (.goto 4, 3) := by decide +kernel
theorem dX6_aground_34 : decode cX6_aground 34 = .ok (.iconst 0, 1) := by decide +kernel
theorem dX6_aground_35 : decode cX6_aground 35 = .ok (.isub, 1) := by decide +kernel
theorem dX6_aground_36 : decode cX6_aground 36 = .ok (.istore_n 1, 1) := by decide +kernel
theorem dX6_aground_37 : decode cX6_aground 37 = .ok (.iinc 2 1, 3) := by decide +kernel
theorem dX6_aground_40 : decode cX6_aground 40 = .ok (.goto (-31), 3) := by decide +kernel
theorem dX6_aground_43 : decode cX6_aground 43 = .ok (.iload_n 1, 1) := by decide +kernel
theorem dX6_aground_44 : decode cX6_aground 44 = .ok (.ireturn, 1) := by decide +kernel
theorem dX6_movesNow_0 : decode cX6_movesNow 0 = .ok (.iconst 0, 1) := by decide +kernel
theorem dX6_movesNow_1 : decode cX6_movesNow 1 = .ok (.istore_n 1, 1) := by decide +kernel
theorem dX6_movesNow_2 : decode cX6_movesNow 2 = .ok (.iconst 0, 1) := by decide +kernel
theorem dX6_movesNow_3 : decode cX6_movesNow 3 = .ok (.istore_n 2, 1) := by decide +kernel
theorem dX6_movesNow_4 : decode cX6_movesNow 4 = .ok (.iload_n 2, 1) := by decide +kernel
theorem dX6_movesNow_5 : decode cX6_movesNow 5 = .ok (.aload_n 0, 1) := by decide +kernel
theorem dX6_movesNow_6 : decode cX6_movesNow 6 = .ok (.getfield 7, 3) := by decide +kernel
theorem dX6_movesNow_9 : decode cX6_movesNow 9 = .ok (.bipush 127, 2) := by decide +kernel
theorem dX6_movesNow_11 : decode cX6_movesNow 11 = .ok (.iaload, 1) := by decide +kernel
theorem dX6_movesNow_12 : decode cX6_movesNow 12 = .ok (.if_icmp .ge 40, 3) := by decide +kernel
theorem dX6_movesNow_15 : decode cX6_movesNow 15 = .ok (.iload_n 1, 1) := by decide +kernel
theorem dX6_movesNow_16 : decode cX6_movesNow 16 = .ok (.aload_n 0, 1) := by decide +kernel
theorem dX6_movesNow_17 : decode cX6_movesNow 17 = .ok (.iconst 0, 1) := by decide +kernel
theorem dX6_movesNow_18 : decode cX6_movesNow 18 = .ok (.iload_n 2, 1) := by decide +kernel
theorem dX6_movesNow_19 : decode cX6_movesNow 19 = .ok (.iconst 0, 1) := by decide +kernel
theorem dX6_movesNow_20 : decode cX6_movesNow 20 = .ok (.invokevirtual 68, 3) := by decide +kernel
theorem dX6_movesNow_23 : decode cX6_movesNow 23 = .ok (.aload_n 0, 1) := by decide +kernel
theorem dX6_movesNow_24 : decode cX6_movesNow 24 = .ok (.getfield 7, 3) := by decide +kernel
theorem dX6_movesNow_27 : decode cX6_movesNow 27 = .ok (.bipush 126, 2) := by decide +kernel
theorem dX6_movesNow_29 : decode cX6_movesNow 29 = .ok (.iaload, 1) := by decide +kernel
theorem dX6_movesNow_30 : decode cX6_movesNow 30 = .ok (.iconst 2, 1) := by decide +kernel
theorem dX6_movesNow_31 : decode cX6_movesNow 31 = .ok (.irem, 1) := by decide +kernel
theorem dX6_movesNow_32 : decode cX6_movesNow 32 = .ok (.if_icmp .ne 11, 3) := by decide +kernel
theorem dX6_movesNow_35 : decode cX6_movesNow 35 = .ok (.aload_n 0, 1) := by decide +kernel
theorem dX6_movesNow_36 : decode cX6_movesNow 36 = .ok (.iload_n 2, 1) := by decide +kernel
theorem dX6_movesNow_37 : decode cX6_movesNow 37 = .ok (.invokevirtual 171, 3) := by decide +kernel
theorem dX6_movesNow_40 : decode cX6_movesNow 40 = .ok (.goto 4, 3) := by decide +kernel
theorem dX6_movesNow_43 : decode cX6_movesNow 43 = .ok (.iconst 0, 1) := by decide +kernel
theorem dX6_movesNow_44 : decode cX6_movesNow 44 = .ok (.iadd, 1) := by decide +kernel
theorem dX6_movesNow_45 : decode cX6_movesNow 45 = .ok (.istore_n 1, 1) := by decide +kernel
theorem dX6_movesNow_46 : decode cX6_movesNow 46 = .ok (.iinc 2 1, 3) := by decide +kernel
theorem dX6_movesNow_49 : decode cX6_movesNow 49 = .ok (.goto (-45), 3) := by decide +kernel
theorem dX6_movesNow_52 : decode cX6_movesNow 52 = .ok (.iload_n 1, 1) := by decide +kernel
theorem dX6_movesNow_53 : decode cX6_movesNow 53 = .ok (.ireturn, 1) := by decide +kernel
theorem dX6_count_0 : decode cX6_count 0 = .ok (.iload_n 1, 1) := by decide +kernel
theorem dX6_count_1 : decode cX6_count 1 = .ok (.tableswitch 175 0 14 #[75, 83, 93, 106, 106, 114, 122, 122, 122, 132, 137, 146, 160, 165, 170], 75) := by decide +kernel
theorem dX6_count_76 : decode cX6_count 76 = .ok (.aload_n 0, 1) := by decide +kernel
theorem dX6_count_77 : decode cX6_count 77 = .ok (.getfield 7, 3) := by decide +kernel
theorem dX6_count_80 : decode cX6_count 80 = .ok (.bipush 126, 2) := by decide +kernel
theorem dX6_count_82 : decode cX6_count 82 = .ok (.iaload, 1) := by decide +kernel
theorem dX6_count_83 : decode cX6_count 83 = .ok (.ireturn, 1) := by decide +kernel
theorem dX6_count_84 : decode cX6_count 84 = .ok (.aload_n 0, 1) := by decide +kernel
theorem dX6_count_85 : decode cX6_count 85 = .ok (.getfield 7, 3) := by decide +kernel
theorem dX6_count_88 : decode cX6_count 88 = .ok (.bipush 126, 2) := by decide +kernel
theorem dX6_count_90 : decode cX6_count 90 = .ok (.iaload, 1) := by decide +kernel
theorem dX6_count_91 : decode cX6_count 91 = .ok (.iconst 2, 1) := by decide +kernel
theorem dX6_count_92 : decode cX6_count 92 = .ok (.irem, 1) := by decide +kernel
theorem dX6_count_93 : decode cX6_count 93 = .ok (.ireturn, 1) := by decide +kernel
theorem dX6_count_94 : decode cX6_count 94 = .ok (.aload_n 0, 1) := by decide +kernel
theorem dX6_count_95 : decode cX6_count 95 = .ok (.iconst 0, 1) := by decide +kernel
theorem dX6_count_96 : decode cX6_count 96 = .ok (.aload_n 0, 1) := by decide +kernel
theorem dX6_count_97 : decode cX6_count 97 = .ok (.getfield 7, 3) := by decide +kernel
theorem dX6_count_100 : decode cX6_count 100 = .ok (.bipush 126, 2) := by decide +kernel
theorem dX6_count_102 : decode cX6_count 102 = .ok (.iaload, 1) := by decide +kernel
theorem dX6_count_103 : decode cX6_count 103 = .ok (.invokevirtual 50, 3) := by decide +kernel
theorem dX6_count_106 : decode cX6_count 106 = .ok (.ireturn, 1) := by decide +kernel
theorem dX6_count_107 : decode cX6_count 107 = .ok (.aload_n 0, 1) := by decide +kernel
theorem dX6_count_108 : decode cX6_count 108 = .ok (.iload_n 1, 1) := by decide +kernel
theorem dX6_count_109 : decode cX6_count 109 = .ok (.iconst 3, 1) := by decide +kernel
theorem dX6_count_110 : decode cX6_count 110 = .ok (.isub, 1) := by decide +kernel
theorem dX6_count_111 : decode cX6_count 111 = .ok (.invokevirtual 174, 3) := by decide +kernel
theorem dX6_count_114 : decode cX6_count 114 = .ok (.ireturn, 1) := by decide +kernel
theorem dX6_count_115 : decode cX6_count 115 = .ok (.aload_n 0, 1) := by decide +kernel
theorem dX6_count_116 : decode cX6_count 116 = .ok (.getfield 7, 3) := by decide +kernel
theorem dX6_count_119 : decode cX6_count 119 = .ok (.bipush 127, 2) := by decide +kernel
theorem dX6_count_121 : decode cX6_count 121 = .ok (.iaload, 1) := by decide +kernel
theorem dX6_count_122 : decode cX6_count 122 = .ok (.ireturn, 1) := by decide +kernel
theorem dX6_count_123 : decode cX6_count 123 = .ok (.aload_n 0, 1) := by decide +kernel
theorem dX6_count_124 : decode cX6_count 124 = .ok (.iconst 0, 1) := by decide +kernel
theorem dX6_count_125 : decode cX6_count 125 = .ok (.iload_n 1, 1) := by decide +kernel
theorem dX6_count_126 : decode cX6_count 126 = .ok (.bipush 6, 2) := by decide +kernel
theorem dX6_count_128 : decode cX6_count 128 = .ok (.isub, 1) := by decide +kernel
theorem dX6_count_129 : decode cX6_count 129 = .ok (.invokevirtual 78, 3) := by decide +kernel
theorem dX6_count_132 : decode cX6_count 132 = .ok (.ireturn, 1) := by decide +kernel
theorem dX6_count_133 : decode cX6_count 133 = .ok (.aload_n 0, 1) := by decide +kernel
theorem dX6_count_134 : decode cX6_count 134 = .ok (.invokevirtual 177, 3) := by decide +kernel
theorem dX6_count_137 : decode cX6_count 137 = .ok (.ireturn, 1) := by decide +kernel
theorem dX6_count_138 : decode cX6_count 138 = .ok (.aload_n 0, 1) := by decide +kernel
theorem dX6_count_139 : decode cX6_count 139 = .ok (.getfield 7, 3) := by decide +kernel
theorem dX6_count_142 : decode cX6_count 142 = .ok (.sipush 128, 3) := by decide +kernel
theorem dX6_count_145 : decode cX6_count 145 = .ok (.iaload, 1) := by decide +kernel
theorem dX6_count_146 : decode cX6_count 146 = .ok (.ireturn, 1) := by decide +kernel
theorem dX6_count_147 : decode cX6_count 147 = .ok (.aload_n 0, 1) := by decide +kernel
theorem dX6_count_148 : decode cX6_count 148 = .ok (.iconst 0, 1) := by decide +kernel
theorem dX6_count_149 : decode cX6_count 149 = .ok (.invokevirtual 81, 3) := by decide +kernel
theorem dX6_count_152 : decode cX6_count 152 = .ok (.ifCond .eq 7, 3) := by decide +kernel
theorem dX6_count_155 : decode cX6_count 155 = .ok (.iconst 1, 1) := by decide +kernel
theorem dX6_count_156 : decode cX6_count 156 = .ok (.goto 4, 3) := by decide +kernel
theorem dX6_count_159 : decode cX6_count 159 = .ok (.iconst 0, 1) := by decide +kernel
theorem dX6_count_160 : decode cX6_count 160 = .ok (.ireturn, 1) := by decide +kernel
theorem dX6_count_161 : decode cX6_count 161 = .ok (.aload_n 0, 1) := by decide +kernel
theorem dX6_count_162 : decode cX6_count 162 = .ok (.invokevirtual 180, 3) := by decide +kernel
theorem dX6_count_165 : decode cX6_count 165 = .ok (.ireturn, 1) := by decide +kernel
theorem dX6_count_166 : decode cX6_count 166 = .ok (.aload_n 0, 1) := by decide +kernel
theorem dX6_count_167 : decode cX6_count 167 = .ok (.getfield 43, 3) := by decide +kernel
theorem dX6_count_170 : decode cX6_count 170 = .ok (.ireturn, 1) := by decide +kernel
theorem dX6_count_171 : decode cX6_count 171 = .ok (.aload_n 0, 1) := by decide +kernel
theorem dX6_count_172 : decode cX6_count 172 = .ok (.getfield 136, 3) := by decide +kernel
theorem dX6_count_175 : decode cX6_count 175 = .ok (.ireturn, 1) := by decide +kernel
theorem dX6_count_176 : decode cX6_count 176 = .ok (.iload_n 1, 1) := by decide +kernel
theorem dX6_count_177 : decode cX6_count 177 = .ok (.bipush 15, 2) := by decide +kernel
theorem dX6_count_179 : decode cX6_count 179 = .ok (.bipush 18, 2) := by decide +kernel
theorem dX6_count_181 : decode cX6_count 181 = .ok (.invokestatic 35, 3) := by decide +kernel
theorem dX6_count_184 : decode cX6_count 184 = .ok (.ifCond .eq 18, 3) := by decide +kernel
theorem dX6_count_187 : decode cX6_count 187 = .ok (.aload_n 0, 1) := by decide +kernel
theorem dX6_count_188 : decode cX6_count 188 = .ok (.getfield 7, 3) := by decide +kernel
theorem dX6_count_191 : decode cX6_count 191 = .ok (.bipush 122, 2) := by decide +kernel
theorem dX6_count_193 : decode cX6_count 193 = .ok (.iload_n 1, 1) := by decide +kernel
theorem dX6_count_194 : decode cX6_count 194 = .ok (.iadd, 1) := by decide +kernel
theorem dX6_count_195 : decode cX6_count 195 = .ok (.bipush 15, 2) := by decide +kernel
theorem dX6_count_197 : decode cX6_count 197 = .ok (.isub, 1) := by decide +kernel
theorem dX6_count_198 : decode cX6_count 198 = .ok (.iaload, 1) := by decide +kernel
theorem dX6_count_199 : decode cX6_count 199 = .ok (.goto 5, 3) := by decide +kernel
theorem dX6_count_202 : decode cX6_count 202 = .ok (.bipush (-2), 2) := by decide +kernel
theorem dX6_count_204 : decode cX6_count 204 = .ok (.ireturn, 1) := by decide +kernel
theorem dX6_period_0 : decode cX6_period 0 = .ok (.iconst 2, 1) := by decide +kernel
theorem dX6_period_1 : decode cX6_period 1 = .ok (.aload_n 0, 1) := by decide +kernel
theorem dX6_period_2 : decode cX6_period 2 = .ok (.getfield 7, 3) := by decide +kernel
theorem dX6_period_5 : decode cX6_period 5 = .ok (.bipush 123, 2) := by decide +kernel
theorem dX6_period_7 : decode cX6_period 7 = .ok (.iaload, 1) := by decide +kernel
theorem dX6_period_8 : decode cX6_period 8 = .ok (.imul, 1) := by decide +kernel
theorem dX6_period_9 : decode cX6_period 9 = .ok (.aload_n 0, 1) := by decide +kernel
theorem dX6_period_10 : decode cX6_period 10 = .ok (.getfield 7, 3) := by decide +kernel
theorem dX6_period_13 : decode cX6_period 13 = .ok (.bipush 124, 2) := by decide +kernel
theorem dX6_period_15 : decode cX6_period 15 = .ok (.iaload, 1) := by decide +kernel
theorem dX6_period_16 : decode cX6_period 16 = .ok (.imul, 1) := by decide +kernel
theorem dX6_period_17 : decode cX6_period 17 = .ok (.ireturn, 1) := by decide +kernel
theorem dX6_afloat_0 : decode cX6_afloat 0 = .ok (.iload_n 1, 1) := by decide +kernel
theorem dX6_afloat_1 : decode cX6_afloat 1 = .ok (.invokestatic 98, 3) := by decide +kernel
theorem dX6_afloat_4 : decode cX6_afloat 4 = .ok (.ifCond .eq 12, 3) := by decide +kernel
theorem dX6_afloat_7 : decode cX6_afloat 7 = .ok (.iload_n 2, 1) := by decide +kernel
theorem dX6_afloat_8 : decode cX6_afloat 8 = .ok (.iconst 1, 1) := by decide +kernel
theorem dX6_afloat_9 : decode cX6_afloat 9 = .ok (.iconst 3, 1) := by decide +kernel
theorem dX6_afloat_10 : decode cX6_afloat 10 = .ok (.invokestatic 35, 3) := by decide +kernel
theorem dX6_afloat_13 : decode cX6_afloat 13 = .ok (.ifCond .ne 6, 3) := by decide +kernel
theorem dX6_afloat_16 : decode cX6_afloat 16 = .ok (.ldc 183, 2) := by decide +kernel
theorem dX6_afloat_18 : decode cX6_afloat 18 = .ok (.freturn, 1) := by decide +kernel
theorem dX6_afloat_19 : decode cX6_afloat 19 = .ok (.iconst 0, 1) := by decide +kernel
theorem dX6_afloat_20 : decode cX6_afloat 20 = .ok (.istore_n 3, 1) := by decide +kernel
theorem dX6_afloat_21 : decode cX6_afloat 21 = .ok (.iconst 0, 1) := by decide +kernel
theorem dX6_afloat_22 : decode cX6_afloat 22 = .ok (.istore 4, 2) := by decide +kernel
theorem dX6_afloat_24 : decode cX6_afloat 24 = .ok (.iload 4, 2) := by decide +kernel
theorem dX6_afloat_26 : decode cX6_afloat 26 = .ok (.aload_n 0, 1) := by decide +kernel
theorem dX6_afloat_27 : decode cX6_afloat 27 = .ok (.invokevirtual 184, 3) := by decide +kernel
theorem dX6_afloat_30 : decode cX6_afloat 30 = .ok (.if_icmp .ge 29, 3) := by decide +kernel
theorem dX6_afloat_33 : decode cX6_afloat 33 = .ok (.iload_n 3, 1) := by decide +kernel
theorem dX6_afloat_34 : decode cX6_afloat 34 = .ok (.aload_n 0, 1) := by decide +kernel
theorem dX6_afloat_35 : decode cX6_afloat 35 = .ok (.iconst 0, 1) := by decide +kernel
theorem dX6_afloat_36 : decode cX6_afloat 36 = .ok (.iload_n 1, 1) := by decide +kernel
theorem dX6_afloat_37 : decode cX6_afloat 37 = .ok (.iload_n 2, 1) := by decide +kernel
theorem dX6_afloat_38 : decode cX6_afloat 38 = .ok (.iload 4, 2) := by decide +kernel
theorem dX6_afloat_40 : decode cX6_afloat 40 = .ok (.invokevirtual 57, 3) := by decide +kernel
theorem dX6_afloat_43 : decode cX6_afloat 43 = .ok (.ifCond .eq 7, 3) := by decide +kernel
theorem dX6_afloat_46 : decode cX6_afloat 46 = .ok (.iconst 1, 1) := by decide +kernel
theorem dX6_afloat_47 : decode cX6_afloat 47 = .ok (.goto 4, 3) := by decide +kernel
theorem dX6_afloat_50 : decode cX6_afloat 50 = .ok (.iconst 0, 1) := by decide +kernel
theorem dX6_afloat_51 : decode cX6_afloat 51 = .ok (.iadd, 1) := by decide +kernel
theorem dX6_afloat_52 : decode cX6_afloat 52 = .ok (.istore_n 3, 1) := by decide +kernel
theorem dX6_afloat_53 : decode cX6_afloat 53 = .ok (.iinc 4 1, 3) := by decide +kernel
theorem dX6_afloat_56 : decode cX6_afloat 56 = .ok (.goto (-32), 3) := by decide +kernel
theorem dX6_afloat_59 : decode cX6_afloat 59 = .ok (.iload_n 3, 1) := by decide +kernel
theorem dX6_afloat_60 : decode cX6_afloat 60 = .ok (.i2f, 1) := by decide +kernel
theorem dX6_afloat_61 : decode cX6_afloat 61 = .ok (.aload_n 0, 1) := by decide +kernel
theorem dX6_afloat_62 : decode cX6_afloat 62 = .ok (.invokevirtual 184, 3) := by decide +kernel
theorem dX6_afloat_65 : decode cX6_afloat 65 = .ok (.i2f, 1) := by decide +kernel
theorem dX6_afloat_66 : decode cX6_afloat 66 = .ok (.fdiv, 1) := by decide +kernel
theorem dX6_afloat_67 : decode cX6_afloat 67 = .ok (.freturn, 1) := by decide +kernel
theorem dX6_floatsIn_0 : decode cX6_floatsIn 0 = .ok (.aload_n 0, 1) := by decide +kernel
theorem dX6_floatsIn_1 : decode cX6_floatsIn 1 = .ok (.iconst 0, 1) := by decide +kernel
theorem dX6_floatsIn_2 : decode cX6_floatsIn 2 = .ok (.iload_n 1, 1) := by decide +kernel
theorem dX6_floatsIn_3 : decode cX6_floatsIn 3 = .ok (.invokevirtual 104, 3) := by decide +kernel
theorem dX6_floatsIn_6 : decode cX6_floatsIn 6 = .ok (.ifCond .ne 5, 3) := by decide +kernel
theorem dX6_floatsIn_9 : decode cX6_floatsIn 9 = .ok (.iconst (-1), 1) := by decide +kernel
theorem dX6_floatsIn_10 : decode cX6_floatsIn 10 = .ok (.ireturn, 1) := by decide +kernel
theorem dX6_floatsIn_11 : decode cX6_floatsIn 11 = .ok (.aload_n 0, 1) := by decide +kernel
theorem dX6_floatsIn_12 : decode cX6_floatsIn 12 = .ok (.iconst 0, 1) := by decide +kernel
theorem dX6_floatsIn_13 : decode cX6_floatsIn 13 = .ok (.iload_n 1, 1) := by decide +kernel
theorem dX6_floatsIn_14 : decode cX6_floatsIn 14 = .ok (.iconst 2, 1) := by decide +kernel
theorem dX6_floatsIn_15 : decode cX6_floatsIn 15 = .ok (.invokevirtual 68, 3) := by decide +kernel
theorem dX6_floatsIn_18 : decode cX6_floatsIn 18 = .ok (.ifCond .eq 6, 3) := by decide +kernel
theorem dX6_floatsIn_21 : decode cX6_floatsIn 21 = .ok (.bipush (-4), 2) := by decide +kernel
theorem dX6_floatsIn_23 : decode cX6_floatsIn 23 = .ok (.ireturn, 1) := by decide +kernel
theorem dX6_floatsIn_24 : decode cX6_floatsIn 24 = .ok (.iconst 0, 1) := by decide +kernel
theorem dX6_floatsIn_25 : decode cX6_floatsIn 25 = .ok (.istore_n 2, 1) := by decide +kernel
theorem dX6_floatsIn_26 : decode cX6_floatsIn 26 = .ok (.iload_n 2, 1) := by decide +kernel
theorem dX6_floatsIn_27 : decode cX6_floatsIn 27 = .ok (.aload_n 0, 1) := by decide +kernel
theorem dX6_floatsIn_28 : decode cX6_floatsIn 28 = .ok (.invokevirtual 184, 3) := by decide +kernel
theorem dX6_floatsIn_31 : decode cX6_floatsIn 31 = .ok (.if_icmp .ge 42, 3) := by decide +kernel
theorem dX6_floatsIn_34 : decode cX6_floatsIn 34 = .ok (.aload_n 0, 1) := by decide +kernel
theorem dX6_floatsIn_35 : decode cX6_floatsIn 35 = .ok (.iconst 0, 1) := by decide +kernel
theorem dX6_floatsIn_36 : decode cX6_floatsIn 36 = .ok (.aload_n 0, 1) := by decide +kernel
theorem dX6_floatsIn_37 : decode cX6_floatsIn 37 = .ok (.iconst 0, 1) := by decide +kernel
theorem dX6_floatsIn_38 : decode cX6_floatsIn 38 = .ok (.iload_n 1, 1) := by decide +kernel
theorem dX6_floatsIn_39 : decode cX6_floatsIn 39 = .ok (.iconst 3, 1) := by decide +kernel
theorem dX6_floatsIn_40 : decode cX6_floatsIn 40 = .ok (.invokevirtual 68, 3) := by decide +kernel
theorem dX6_floatsIn_43 : decode cX6_floatsIn 43 = .ok (.aload_n 0, 1) := by decide +kernel
theorem dX6_floatsIn_44 : decode cX6_floatsIn 44 = .ok (.iconst 0, 1) := by decide +kernel
theorem dX6_floatsIn_45 : decode cX6_floatsIn 45 = .ok (.iload_n 1, 1) := by decide +kernel
theorem dX6_floatsIn_46 : decode cX6_floatsIn 46 = .ok (.iconst 1, 1) := by decide +kernel
theorem dX6_floatsIn_47 : decode cX6_floatsIn 47 = .ok (.invokevirtual 68, 3) := by decide +kernel
theorem dX6_floatsIn_50 : decode cX6_floatsIn 50 = .ok (.aload_n 0, 1) := by decide +kernel
theorem dX6_floatsIn_51 : decode cX6_floatsIn 51 = .ok (.getfield 7, 3) := by decide +kernel
theorem dX6_floatsIn_54 : decode cX6_floatsIn 54 = .ok (.bipush 126, 2) := by decide +kernel
theorem dX6_floatsIn_56 : decode cX6_floatsIn 56 = .ok (.iaload, 1) := by decide +kernel
theorem dX6_floatsIn_57 : decode cX6_floatsIn 57 = .ok (.iload_n 2, 1) := by decide +kernel
theorem dX6_floatsIn_58 : decode cX6_floatsIn 58 = .ok (.iadd, 1) := by decide +kernel
theorem dX6_floatsIn_59 : decode cX6_floatsIn 59 = .ok (.invokevirtual 57, 3) := by decide +kernel
theorem dX6_floatsIn_62 : decode cX6_floatsIn 62 = .ok (.ifCond .eq 5, 3) := by decide +kernel
theorem dX6_floatsIn_65 : decode cX6_floatsIn 65 = .ok (.iload_n 2, 1) := by decide +kernel
theorem dX6_floatsIn_66 : decode cX6_floatsIn 66 = .ok (.ireturn, 1) := by decide +kernel
theorem dX6_floatsIn_67 : decode cX6_floatsIn 67 = .ok (.iinc 2 1, 3) := by decide +kernel
theorem dX6_floatsIn_70 : decode cX6_floatsIn 70 = .ok (.goto (-44), 3) := by decide +kernel
theorem dX6_floatsIn_73 : decode cX6_floatsIn 73 = .ok (.bipush (-5), 2) := by decide +kernel
theorem dX6_floatsIn_75 : decode cX6_floatsIn 75 = .ok (.ireturn, 1) := by decide +kernel
theorem dX6_goes_0 : decode cX6_goes 0 = .ok (.iconst 0, 1) := by decide +kernel
theorem dX6_goes_1 : decode cX6_goes 1 = .ok (.istore 4, 2) := by decide +kernel
theorem dX6_goes_3 : decode cX6_goes 3 = .ok (.iconst 0, 1) := by decide +kernel
theorem dX6_goes_4 : decode cX6_goes 4 = .ok (.istore 5, 2) := by decide +kernel
theorem dX6_goes_6 : decode cX6_goes 6 = .ok (.iload 5, 2) := by decide +kernel
theorem dX6_goes_8 : decode cX6_goes 8 = .ok (.bipush 36, 2) := by decide +kernel
theorem dX6_goes_10 : decode cX6_goes 10 = .ok (.if_icmp .ge 198, 3) := by decide +kernel
theorem dX6_goes_13 : decode cX6_goes 13 = .ok (.aload_n 0, 1) := by decide +kernel
theorem dX6_goes_14 : decode cX6_goes 14 = .ok (.getfield 26, 3) := by decide +kernel
theorem dX6_goes_17 : decode cX6_goes 17 = .ok (.iload 5, 2) := by decide +kernel
theorem dX6_goes_19 : decode cX6_goes 19 = .ok (.aload_n 0, 1) := by decide +kernel
theorem dX6_goes_20 : decode cX6_goes 20 = .ok (.getfield 26, 3) := by decide +kernel
theorem dX6_goes_23 : decode cX6_goes 23 = .ok (.iload 5, 2) := by decide +kernel
theorem dX6_goes_25 : decode cX6_goes 25 = .ok (.baload, 1) := by decide +kernel
theorem dX6_goes_26 : decode cX6_goes 26 = .ok (.ifCond .ne 28, 3) := by decide +kernel
theorem dX6_goes_29 : decode cX6_goes 29 = .ok (.aload_n 0, 1) := by decide +kernel
theorem dX6_goes_30 : decode cX6_goes 30 = .ok (.getfield 22, 3) := by decide +kernel
theorem dX6_goes_33 : decode cX6_goes 33 = .ok (.iload 5, 2) := by decide +kernel
theorem dX6_goes_35 : decode cX6_goes 35 = .ok (.baload, 1) := by decide +kernel
theorem dX6_goes_36 : decode cX6_goes 36 = .ok (.ifCond .eq 22, 3) := by decide +kernel
theorem dX6_goes_39 : decode cX6_goes 39 = .ok (.aload_n 0, 1) := by decide +kernel
theorem dX6_goes_40 : decode cX6_goes 40 = .ok (.iload_n 1, 1) := by decide +kernel
theorem dX6_goes_41 : decode cX6_goes 41 = .ok (.iload 5, 2) := by decide +kernel
theorem dX6_goes_43 : decode cX6_goes 43 = .ok (.iload_n 2, 1) := by decide +kernel
theorem dX6_goes_44 : decode cX6_goes 44 = .ok (.bipush 100, 2) := by decide +kernel
theorem dX6_goes_46 : decode cX6_goes 46 = .ok (.irem, 1) := by decide +kernel
theorem dX6_goes_47 : decode cX6_goes 47 = .ok (.iload_n 3, 1) := by decide +kernel
theorem dX6_goes_48 : decode cX6_goes 48 = .ok (.invokevirtual 101, 3) := by decide +kernel
theorem dX6_goes_51 : decode cX6_goes 51 = .ok (.ifCond .ne 7, 3) := by decide +kernel
theorem dX6_goes_54 : decode cX6_goes 54 = .ok (.iconst 1, 1) := by decide +kernel
theorem dX6_goes_55 : decode cX6_goes 55 = .ok (.goto 4, 3) := by decide +kernel
theorem dX6_goes_58 : decode cX6_goes 58 = .ok (.iconst 0, 1) := by decide +kernel
theorem dX6_goes_59 : decode cX6_goes 59 = .ok (.bastore, 1) := by decide +kernel
theorem dX6_goes_60 : decode cX6_goes 60 = .ok (.aload_n 0, 1) := by decide +kernel
theorem dX6_goes_61 : decode cX6_goes 61 = .ok (.getfield 22, 3) := by decide +kernel
theorem dX6_goes_64 : decode cX6_goes 64 = .ok (.iload 5, 2) := by decide +kernel
theorem dX6_goes_66 : decode cX6_goes 66 = .ok (.baload, 1) := by decide +kernel
theorem dX6_goes_67 : decode cX6_goes 67 = .ok (.ifCond .eq 32, 3) := by decide +kernel
theorem dX6_goes_70 : decode cX6_goes 70 = .ok (.iload_n 3, 1) := by decide +kernel
theorem dX6_goes_71 : decode cX6_goes 71 = .ok (.iconst 2, 1) := by decide +kernel
theorem dX6_goes_72 : decode cX6_goes 72 = .ok (.irem, 1) := by decide +kernel
theorem dX6_goes_73 : decode cX6_goes 73 = .ok (.iload_n 2, 1) := by decide +kernel
theorem dX6_goes_74 : decode cX6_goes 74 = .ok (.bipush 100, 2) := by decide +kernel
theorem dX6_goes_76 : decode cX6_goes 76 = .ok (.idiv, 1) := by decide +kernel
theorem dX6_goes_77 : decode cX6_goes 77 = .ok (.if_icmp .ne 22, 3) := by decide +kernel
theorem dX6_goes_80 : decode cX6_goes 80 = .ok (.aload_n 0, 1) := by decide +kernel
theorem dX6_goes_81 : decode cX6_goes 81 = .ok (.iload_n 1, 1) := by decide +kernel
theorem dX6_goes_82 : decode cX6_goes 82 = .ok (.iload 5, 2) := by decide +kernel
theorem dX6_goes_84 : decode cX6_goes 84 = .ok (.iload_n 2, 1) := by decide +kernel
theorem dX6_goes_85 : decode cX6_goes 85 = .ok (.bipush 100, 2) := by decide +kernel
theorem dX6_goes_87 : decode cX6_goes 87 = .ok (.irem, 1) := by decide +kernel
theorem dX6_goes_88 : decode cX6_goes 88 = .ok (.iload_n 3, 1) := by decide +kernel
theorem dX6_goes_89 : decode cX6_goes 89 = .ok (.invokevirtual 57, 3) := by decide +kernel
theorem dX6_goes_92 : decode cX6_goes 92 = .ok (.ifCond .eq 7, 3) := by decide +kernel
theorem dX6_goes_95 : decode cX6_goes 95 = .ok (.iconst 1, 1) := by decide +kernel
theorem dX6_goes_96 : decode cX6_goes 96 = .ok (.goto 4, 3) := by decide +kernel
theorem dX6_goes_99 : decode cX6_goes 99 = .ok (.iconst 0, 1) := by decide +kernel
theorem dX6_goes_100 : decode cX6_goes 100 = .ok (.istore 6, 2) := by decide +kernel
theorem dX6_goes_102 : decode cX6_goes 102 = .ok (.iconst 0, 1) := by decide +kernel
theorem dX6_goes_103 : decode cX6_goes 103 = .ok (.istore 7, 2) := by decide +kernel
theorem dX6_goes_105 : decode cX6_goes 105 = .ok (.iload 7, 2) := by decide +kernel
theorem dX6_goes_107 : decode cX6_goes 107 = .ok (.bipush 12, 2) := by decide +kernel
theorem dX6_goes_109 : decode cX6_goes 109 = .ok (.if_icmp .ge 93, 3) := by decide +kernel
theorem dX6_goes_112 : decode cX6_goes 112 = .ok (.iload 6, 2) := by decide +kernel
theorem dX6_goes_114 : decode cX6_goes 114 = .ok (.ifCond .eq 88, 3) := by decide +kernel
theorem dX6_goes_117 : decode cX6_goes 117 = .ok (.aload_n 0, 1) := by decide +kernel
theorem dX6_goes_118 : decode cX6_goes 118 = .ok (.iload_n 1, 1) := by decide +kernel
theorem dX6_goes_119 : decode cX6_goes 119 = .ok (.iload_n 2, 1) := by decide +kernel
theorem dX6_goes_120 : decode cX6_goes 120 = .ok (.iload 5, 2) := by decide +kernel
theorem dX6_goes_122 : decode cX6_goes 122 = .ok (.bipush 10, 2) := by decide +kernel
theorem dX6_goes_124 : decode cX6_goes 124 = .ok (.iload 7, 2) := by decide +kernel
theorem dX6_goes_126 : decode cX6_goes 126 = .ok (.iconst 3, 1) := by decide +kernel
theorem dX6_goes_127 : decode cX6_goes 127 = .ok (.idiv, 1) := by decide +kernel
theorem dX6_goes_128 : decode cX6_goes 128 = .ok (.imul, 1) := by decide +kernel
theorem dX6_goes_129 : decode cX6_goes 129 = .ok (.iload 7, 2) := by decide +kernel
theorem dX6_goes_131 : decode cX6_goes 131 = .ok (.iconst 3, 1) := by decide +kernel
theorem dX6_goes_132 : decode cX6_goes 132 = .ok (.irem, 1) := by decide +kernel
theorem dX6_goes_133 : decode cX6_goes 133 = .ok (.iadd, 1) := by decide +kernel
theorem dX6_goes_134 : decode cX6_goes 134 = .ok (.iconst 1, 1) := by decide +kernel
theorem dX6_goes_135 : decode cX6_goes 135 = .ok (.iadd, 1) := by decide +kernel
theorem dX6_goes_136 : decode cX6_goes 136 = .ok (.iload_n 3, 1) := by decide +kernel
theorem dX6_goes_137 : decode cX6_goes 137 = .ok (.invokevirtual 88, 3) := by decide +kernel
theorem dX6_goes_140 : decode cX6_goes 140 = .ok (.istore 8, 2) := by decide +kernel
theorem dX6_goes_142 : decode cX6_goes 142 = .ok (.iload 4, 2) := by decide +kernel
theorem dX6_goes_144 : decode cX6_goes 144 = .ok (.ifCond .ne 15, 3) := by decide +kernel
theorem dX6_goes_147 : decode cX6_goes 147 = .ok (.iload 8, 2) := by decide +kernel
theorem dX6_goes_149 : decode cX6_goes 149 = .ok (.iload_n 2, 1) := by decide +kernel
theorem dX6_goes_150 : decode cX6_goes 150 = .ok (.bipush 100, 2) := by decide +kernel
theorem dX6_goes_152 : decode cX6_goes 152 = .ok (.idiv, 1) := by decide +kernel
theorem dX6_goes_153 : decode cX6_goes 153 = .ok (.invokestatic 61, 3) := by decide +kernel
theorem dX6_goes_156 : decode cX6_goes 156 = .ok (.if_icmp .ne 7, 3) := by decide +kernel
theorem dX6_goes_159 : decode cX6_goes 159 = .ok (.iconst 1, 1) := by decide +kernel
theorem dX6_goes_160 : decode cX6_goes 160 = .ok (.goto 4, 3) := by decide +kernel
theorem dX6_goes_163 : decode cX6_goes 163 = .ok (.iconst 0, 1) := by decide +kernel
theorem dX6_goes_164 : decode cX6_goes 164 = .ok (.istore 4, 2) := by decide +kernel
theorem dX6_goes_166 : decode cX6_goes 166 = .ok (.iload 8, 2) := by decide +kernel
theorem dX6_goes_168 : decode cX6_goes 168 = .ok (.bipush (-5), 2) := by decide +kernel
theorem dX6_goes_170 : decode cX6_goes 170 = .ok (.if_icmp .eq 26, 3) := by decide +kernel
theorem dX6_goes_173 : decode cX6_goes 173 = .ok (.aload_n 0, 1) := by decide +kernel
theorem dX6_goes_174 : decode cX6_goes 174 = .ok (.iload_n 1, 1) := by decide +kernel
theorem dX6_goes_175 : decode cX6_goes 175 = .ok (.iload 8, 2) := by decide +kernel
theorem dX6_goes_177 : decode cX6_goes 177 = .ok (.iload_n 2, 1) := by decide +kernel
theorem dX6_goes_178 : decode cX6_goes 178 = .ok (.bipush 100, 2) := by decide +kernel
theorem dX6_goes_180 : decode cX6_goes 180 = .ok (.irem, 1) := by decide +kernel
theorem dX6_goes_181 : decode cX6_goes 181 = .ok (.iload_n 3, 1) := by decide +kernel
theorem dX6_goes_182 : decode cX6_goes 182 = .ok (.invokevirtual 101, 3) := by decide +kernel
theorem dX6_goes_185 : decode cX6_goes 185 = .ok (.ifCond .ne 11, 3) := by decide +kernel
theorem dX6_goes_188 : decode cX6_goes 188 = .ok (.aload_n 0, 1) := by decide +kernel
theorem dX6_goes_189 : decode cX6_goes 189 = .ok (.getfield 26, 3) := by decide +kernel
theorem dX6_goes_192 : decode cX6_goes 192 = .ok (.iload 8, 2) := by decide +kernel
theorem dX6_goes_194 : decode cX6_goes 194 = .ok (.iconst 1, 1) := by decide +kernel
theorem dX6_goes_195 : decode cX6_goes 195 = .ok (.bastore, 1) := by decide +kernel
theorem dX6_goes_196 : decode cX6_goes 196 = .ok (.iinc 7 1, 3) := by decide +kernel
theorem dX6_goes_199 : decode cX6_goes 199 = .ok (.goto (-94), 3) := by decide +kernel
theorem dX6_goes_202 : decode cX6_goes 202 = .ok (.iinc 5 1, 3) := by decide +kernel
theorem dX6_goes_205 : decode cX6_goes 205 = .ok (.goto (-199), 3) := by decide +kernel
theorem dX6_goes_208 : decode cX6_goes 208 = .ok (.iload 4, 2) := by decide +kernel
theorem dX6_goes_210 : decode cX6_goes 210 = .ok (.ireturn, 1) := by decide +kernel
theorem dX6_forth_0 : decode cX6_forth 0 = .ok (.iconst 0, 1) := by decide +kernel
theorem dX6_forth_1 : decode cX6_forth 1 = .ok (.istore_n 3, 1) := by decide +kernel
theorem dX6_forth_2 : decode cX6_forth 2 = .ok (.iload_n 3, 1) := by decide +kernel
theorem dX6_forth_3 : decode cX6_forth 3 = .ok (.bipush 36, 2) := by decide +kernel
theorem dX6_forth_5 : decode cX6_forth 5 = .ok (.if_icmp .ge 31, 3) := by decide +kernel
theorem dX6_forth_8 : decode cX6_forth 8 = .ok (.aload_n 0, 1) := by decide +kernel
theorem dX6_forth_9 : decode cX6_forth 9 = .ok (.getfield 22, 3) := by decide +kernel
theorem dX6_forth_12 : decode cX6_forth 12 = .ok (.iload_n 3, 1) := by decide +kernel
theorem dX6_forth_13 : decode cX6_forth 13 = .ok (.iload_n 3, 1) := by decide +kernel
theorem dX6_forth_14 : decode cX6_forth 14 = .ok (.aload_n 0, 1) := by decide +kernel
theorem dX6_forth_15 : decode cX6_forth 15 = .ok (.iload_n 1, 1) := by decide +kernel
theorem dX6_forth_16 : decode cX6_forth 16 = .ok (.iload_n 2, 1) := by decide +kernel
theorem dX6_forth_17 : decode cX6_forth 17 = .ok (.iconst 3, 1) := by decide +kernel
theorem dX6_forth_18 : decode cX6_forth 18 = .ok (.invokevirtual 68, 3) := by decide +kernel
theorem dX6_forth_21 : decode cX6_forth 21 = .ok (.if_icmp .ne 7, 3) := by decide +kernel
theorem dX6_forth_24 : decode cX6_forth 24 = .ok (.iconst 1, 1) := by decide +kernel
theorem dX6_forth_25 : decode cX6_forth 25 = .ok (.goto 4, 3) := by decide +kernel
theorem dX6_forth_28 : decode cX6_forth 28 = .ok (.iconst 0, 1) := by decide +kernel
theorem dX6_forth_29 : decode cX6_forth 29 = .ok (.bastore, 1) := by decide +kernel
theorem dX6_forth_30 : decode cX6_forth 30 = .ok (.iinc 3 1, 3) := by decide +kernel
theorem dX6_forth_33 : decode cX6_forth 33 = .ok (.goto (-31), 3) := by decide +kernel
theorem dX6_forth_36 : decode cX6_forth 36 = .ok (.aload_n 0, 1) := by decide +kernel
theorem dX6_forth_37 : decode cX6_forth 37 = .ok (.getfield 7, 3) := by decide +kernel
theorem dX6_forth_40 : decode cX6_forth 40 = .ok (.iload_n 1, 1) := by decide +kernel
theorem dX6_forth_41 : decode cX6_forth 41 = .ok (.bipush 126, 2) := by decide +kernel
theorem dX6_forth_43 : decode cX6_forth 43 = .ok (.iadd, 1) := by decide +kernel
theorem dX6_forth_44 : decode cX6_forth 44 = .ok (.iaload, 1) := by decide +kernel
theorem dX6_forth_45 : decode cX6_forth 45 = .ok (.istore_n 3, 1) := by decide +kernel
theorem dX6_forth_46 : decode cX6_forth 46 = .ok (.iload_n 3, 1) := by decide +kernel
theorem dX6_forth_47 : decode cX6_forth 47 = .ok (.aload_n 0, 1) := by decide +kernel
theorem dX6_forth_48 : decode cX6_forth 48 = .ok (.getfield 7, 3) := by decide +kernel
theorem dX6_forth_51 : decode cX6_forth 51 = .ok (.iload_n 1, 1) := by decide +kernel
theorem dX6_forth_52 : decode cX6_forth 52 = .ok (.bipush 122, 2) := by decide +kernel
theorem dX6_forth_54 : decode cX6_forth 54 = .ok (.iadd, 1) := by decide +kernel
theorem dX6_forth_55 : decode cX6_forth 55 = .ok (.iconst 3, 1) := by decide +kernel
theorem dX6_forth_56 : decode cX6_forth 56 = .ok (.iadd, 1) := by decide +kernel
theorem dX6_forth_57 : decode cX6_forth 57 = .ok (.iaload, 1) := by decide +kernel
theorem dX6_forth_58 : decode cX6_forth 58 = .ok (.if_icmp .gt 92, 3) := by decide +kernel
theorem dX6_forth_61 : decode cX6_forth 61 = .ok (.iconst 0, 1) := by decide +kernel
theorem dX6_forth_62 : decode cX6_forth 62 = .ok (.istore 4, 2) := by decide +kernel
theorem dX6_forth_64 : decode cX6_forth 64 = .ok (.iload 4, 2) := by decide +kernel
theorem dX6_forth_66 : decode cX6_forth 66 = .ok (.bipush 36, 2) := by decide +kernel
theorem dX6_forth_68 : decode cX6_forth 68 = .ok (.if_icmp .ge 17, 3) := by decide +kernel
theorem dX6_forth_71 : decode cX6_forth 71 = .ok (.aload_n 0, 1) := by decide +kernel
theorem dX6_forth_72 : decode cX6_forth 72 = .ok (.getfield 26, 3) := by decide +kernel
theorem dX6_forth_75 : decode cX6_forth 75 = .ok (.iload 4, 2) := by decide +kernel
theorem dX6_forth_77 : decode cX6_forth 77 = .ok (.iconst 0, 1) := by decide +kernel
theorem dX6_forth_78 : decode cX6_forth 78 = .ok (.bastore, 1) := by decide +kernel
theorem dX6_forth_79 : decode cX6_forth 79 = .ok (.iinc 4 1, 3) := by decide +kernel
theorem dX6_forth_82 : decode cX6_forth 82 = .ok (.goto (-18), 3) := by decide +kernel
theorem dX6_forth_85 : decode cX6_forth 85 = .ok (.aload_n 0, 1) := by decide +kernel
theorem dX6_forth_86 : decode cX6_forth 86 = .ok (.iload_n 1, 1) := by decide +kernel
theorem dX6_forth_87 : decode cX6_forth 87 = .ok (.aload_n 0, 1) := by decide +kernel
theorem dX6_forth_88 : decode cX6_forth 88 = .ok (.iload_n 1, 1) := by decide +kernel
theorem dX6_forth_89 : decode cX6_forth 89 = .ok (.iload_n 2, 1) := by decide +kernel
theorem dX6_forth_90 : decode cX6_forth 90 = .ok (.invokevirtual 85, 3) := by decide +kernel
theorem dX6_forth_93 : decode cX6_forth 93 = .ok (.iload_n 3, 1) := by decide +kernel
theorem dX6_forth_94 : decode cX6_forth 94 = .ok (.invokevirtual 187, 3) := by decide +kernel
theorem dX6_forth_97 : decode cX6_forth 97 = .ok (.ifCond .eq 17, 3) := by decide +kernel
theorem dX6_forth_100 : decode cX6_forth 100 = .ok (.iload_n 3, 1) := by decide +kernel
theorem dX6_forth_101 : decode cX6_forth 101 = .ok (.aload_n 0, 1) := by decide +kernel
theorem dX6_forth_102 : decode cX6_forth 102 = .ok (.getfield 7, 3) := by decide +kernel
theorem dX6_forth_105 : decode cX6_forth 105 = .ok (.iload_n 1, 1) := by decide +kernel
theorem dX6_forth_106 : decode cX6_forth 106 = .ok (.bipush 126, 2) := by decide +kernel
theorem dX6_forth_108 : decode cX6_forth 108 = .ok (.iadd, 1) := by decide +kernel
theorem dX6_forth_109 : decode cX6_forth 109 = .ok (.iaload, 1) := by decide +kernel
theorem dX6_forth_110 : decode cX6_forth 110 = .ok (.isub, 1) := by decide +kernel
theorem dX6_forth_111 : decode cX6_forth 111 = .ok (.iconst 1, 1) := by decide +kernel
theorem dX6_forth_112 : decode cX6_forth 112 = .ok (.iadd, 1) := by decide +kernel
theorem dX6_forth_113 : decode cX6_forth 113 = .ok (.ireturn, 1) := by decide +kernel
theorem dX6_forth_114 : decode cX6_forth 114 = .ok (.iconst 0, 1) := by decide +kernel
theorem dX6_forth_115 : decode cX6_forth 115 = .ok (.istore 4, 2) := by decide +kernel
theorem dX6_forth_117 : decode cX6_forth 117 = .ok (.iload 4, 2) := by decide +kernel
theorem dX6_forth_119 : decode cX6_forth 119 = .ok (.bipush 36, 2) := by decide +kernel
theorem dX6_forth_121 : decode cX6_forth 121 = .ok (.if_icmp .ge 23, 3) := by decide +kernel
theorem dX6_forth_124 : decode cX6_forth 124 = .ok (.aload_n 0, 1) := by decide +kernel
theorem dX6_forth_125 : decode cX6_forth 125 = .ok (.getfield 22, 3) := by decide +kernel
theorem dX6_forth_128 : decode cX6_forth 128 = .ok (.iload 4, 2) := by decide +kernel
theorem dX6_forth_130 : decode cX6_forth 130 = .ok (.aload_n 0, 1) := by decide +kernel
theorem dX6_forth_131 : decode cX6_forth 131 = .ok (.getfield 26, 3) := by decide +kernel
theorem dX6_forth_134 : decode cX6_forth 134 = .ok (.iload 4, 2) := by decide +kernel
theorem dX6_forth_136 : decode cX6_forth 136 = .ok (.baload, 1) := by decide +kernel
theorem dX6_forth_137 : decode cX6_forth 137 = .ok (.bastore, 1) := by decide +kernel
theorem dX6_forth_138 : decode cX6_forth 138 = .ok (.iinc 4 1, 3) := by decide +kernel
theorem dX6_forth_141 : decode cX6_forth 141 = .ok (.goto (-24), 3) := by decide +kernel
theorem dX6_forth_144 : decode cX6_forth 144 = .ok (.iinc 3 1, 3) := by decide +kernel
theorem dX6_forth_147 : decode cX6_forth 147 = .ok (.goto (-101), 3) := by decide +kernel
theorem dX6_forth_150 : decode cX6_forth 150 = .ok (.bipush (-5), 2) := by decide +kernel
theorem dX6_forth_152 : decode cX6_forth 152 = .ok (.ireturn, 1) := by decide +kernel
theorem dX6_fewest_0 : decode cX6_fewest 0 = .ok (.iload_n 1, 1) := by decide +kernel
theorem dX6_fewest_1 : decode cX6_fewest 1 = .ok (.bipush 100, 2) := by decide +kernel
theorem dX6_fewest_3 : decode cX6_fewest 3 = .ok (.irem, 1) := by decide +kernel
theorem dX6_fewest_4 : decode cX6_fewest 4 = .ok (.istore 4, 2) := by decide +kernel
theorem dX6_fewest_6 : decode cX6_fewest 6 = .ok (.aload_n 0, 1) := by decide +kernel
theorem dX6_fewest_7 : decode cX6_fewest 7 = .ok (.iconst 0, 1) := by decide +kernel
theorem dX6_fewest_8 : decode cX6_fewest 8 = .ok (.iload_n 2, 1) := by decide +kernel
theorem dX6_fewest_9 : decode cX6_fewest 9 = .ok (.iload 4, 2) := by decide +kernel
theorem dX6_fewest_11 : decode cX6_fewest 11 = .ok (.iload_n 3, 1) := by decide +kernel
theorem dX6_fewest_12 : decode cX6_fewest 12 = .ok (.invokevirtual 101, 3) := by decide +kernel
theorem dX6_fewest_15 : decode cX6_fewest 15 = .ok (.ifCond .eq 9, 3) := by decide +kernel
theorem dX6_fewest_18 : decode cX6_fewest 18 = .ok (.sipush 10000, 3) := by decide +kernel
theorem dX6_fewest_21 : decode cX6_fewest 21 = .ok (.goto 11, 3) := by decide +kernel
theorem dX6_fewest_24 : decode cX6_fewest 24 = .ok (.iconst 1, 1) := by decide +kernel
theorem dX6_fewest_25 : decode cX6_fewest 25 = .ok (.aload_n 0, 1) := by decide +kernel
theorem dX6_fewest_26 : decode cX6_fewest 26 = .ok (.getfield 32, 3) := by decide +kernel
theorem dX6_fewest_29 : decode cX6_fewest 29 = .ok (.iload_n 2, 1) := by decide +kernel
theorem dX6_fewest_30 : decode cX6_fewest 30 = .ok (.iaload, 1) := by decide +kernel
theorem dX6_fewest_31 : decode cX6_fewest 31 = .ok (.iadd, 1) := by decide +kernel
theorem dX6_fewest_32 : decode cX6_fewest 32 = .ok (.istore 5, 2) := by decide +kernel
theorem dX6_fewest_34 : decode cX6_fewest 34 = .ok (.iload_n 3, 1) := by decide +kernel
theorem dX6_fewest_35 : decode cX6_fewest 35 = .ok (.iconst 2, 1) := by decide +kernel
theorem dX6_fewest_36 : decode cX6_fewest 36 = .ok (.irem, 1) := by decide +kernel
theorem dX6_fewest_37 : decode cX6_fewest 37 = .ok (.iload_n 1, 1) := by decide +kernel
theorem dX6_fewest_38 : decode cX6_fewest 38 = .ok (.bipush 100, 2) := by decide +kernel
theorem dX6_fewest_40 : decode cX6_fewest 40 = .ok (.idiv, 1) := by decide +kernel
theorem dX6_fewest_41 : decode cX6_fewest 41 = .ok (.if_icmp .ne 19, 3) := by decide +kernel
theorem dX6_fewest_44 : decode cX6_fewest 44 = .ok (.aload_n 0, 1) := by decide +kernel
theorem dX6_fewest_45 : decode cX6_fewest 45 = .ok (.iconst 0, 1) := by decide +kernel
theorem dX6_fewest_46 : decode cX6_fewest 46 = .ok (.iload_n 2, 1) := by decide +kernel
theorem dX6_fewest_47 : decode cX6_fewest 47 = .ok (.iload 4, 2) := by decide +kernel
theorem dX6_fewest_49 : decode cX6_fewest 49 = .ok (.iload_n 3, 1) := by decide +kernel
theorem dX6_fewest_50 : decode cX6_fewest 50 = .ok (.invokevirtual 57, 3) := by decide +kernel
theorem dX6_fewest_53 : decode cX6_fewest 53 = .ok (.ifCond .eq 7, 3) := by decide +kernel
theorem dX6_fewest_56 : decode cX6_fewest 56 = .ok (.iconst 1, 1) := by decide +kernel
theorem dX6_fewest_57 : decode cX6_fewest 57 = .ok (.goto 4, 3) := by decide +kernel
theorem dX6_fewest_60 : decode cX6_fewest 60 = .ok (.iconst 0, 1) := by decide +kernel
theorem dX6_fewest_61 : decode cX6_fewest 61 = .ok (.istore 6, 2) := by decide +kernel
theorem dX6_fewest_63 : decode cX6_fewest 63 = .ok (.iconst 0, 1) := by decide +kernel
theorem dX6_fewest_64 : decode cX6_fewest 64 = .ok (.istore 7, 2) := by decide +kernel
theorem dX6_fewest_66 : decode cX6_fewest 66 = .ok (.iload 7, 2) := by decide +kernel
theorem dX6_fewest_68 : decode cX6_fewest 68 = .ok (.bipush 12, 2) := by decide +kernel
theorem dX6_fewest_70 : decode cX6_fewest 70 = .ok (.if_icmp .ge 107, 3) := by decide +kernel
theorem dX6_fewest_73 : decode cX6_fewest 73 = .ok (.iload 6, 2) := by decide +kernel
theorem dX6_fewest_75 : decode cX6_fewest 75 = .ok (.ifCond .eq 102, 3) := by decide +kernel
theorem dX6_fewest_78 : decode cX6_fewest 78 = .ok (.aload_n 0, 1) := by decide +kernel
theorem dX6_fewest_79 : decode cX6_fewest 79 = .ok (.iconst 0, 1) := by decide +kernel
theorem dX6_fewest_80 : decode cX6_fewest 80 = .ok (.iload_n 1, 1) := by decide +kernel
theorem dX6_fewest_81 : decode cX6_fewest 81 = .ok (.iload_n 2, 1) := by decide +kernel
theorem dX6_fewest_82 : decode cX6_fewest 82 = .ok (.bipush 10, 2) := by decide +kernel
theorem dX6_fewest_84 : decode cX6_fewest 84 = .ok (.iload 7, 2) := by decide +kernel
theorem dX6_fewest_86 : decode cX6_fewest 86 = .ok (.iconst 3, 1) := by decide +kernel
theorem dX6_fewest_87 : decode cX6_fewest 87 = .ok (.idiv, 1) := by decide +kernel
theorem dX6_fewest_88 : decode cX6_fewest 88 = .ok (.imul, 1) := by decide +kernel
theorem dX6_fewest_89 : decode cX6_fewest 89 = .ok (.iload 7, 2) := by decide +kernel
theorem dX6_fewest_91 : decode cX6_fewest 91 = .ok (.iconst 3, 1) := by decide +kernel
theorem dX6_fewest_92 : decode cX6_fewest 92 = .ok (.irem, 1) := by decide +kernel
theorem dX6_fewest_93 : decode cX6_fewest 93 = .ok (.iadd, 1) := by decide +kernel
theorem dX6_fewest_94 : decode cX6_fewest 94 = .ok (.iconst 1, 1) := by decide +kernel
theorem dX6_fewest_95 : decode cX6_fewest 95 = .ok (.iadd, 1) := by decide +kernel
theorem dX6_fewest_96 : decode cX6_fewest 96 = .ok (.iload_n 3, 1) := by decide +kernel
theorem dX6_fewest_97 : decode cX6_fewest 97 = .ok (.invokevirtual 88, 3) := by decide +kernel
theorem dX6_fewest_100 : decode cX6_fewest 100 = .ok (.istore 8, 2) := by decide +kernel
theorem dX6_fewest_102 : decode cX6_fewest 102 = .ok (.iload 8, 2) := by decide +kernel
theorem dX6_fewest_104 : decode cX6_fewest 104 = .ok (.iload_n 1, 1) := by decide +kernel
theorem dX6_fewest_105 : decode cX6_fewest 105 = .ok (.bipush 100, 2) := by decide +kernel
theorem dX6_fewest_107 : decode cX6_fewest 107 = .ok (.idiv, 1) := by decide +kernel
theorem dX6_fewest_108 : decode cX6_fewest 108 = .ok (.invokestatic 61, 3) := by decide +kernel
theorem dX6_fewest_111 : decode cX6_fewest 111 = .ok (.if_icmp .ne 7, 3) := by decide +kernel
theorem dX6_fewest_114 : decode cX6_fewest 114 = .ok (.iconst 1, 1) := by decide +kernel
theorem dX6_fewest_115 : decode cX6_fewest 115 = .ok (.goto 38, 3) := by decide +kernel
theorem dX6_fewest_118 : decode cX6_fewest 118 = .ok (.iload 8, 2) := by decide +kernel
theorem dX6_fewest_120 : decode cX6_fewest 120 = .ok (.bipush (-5), 2) := by decide +kernel
theorem dX6_fewest_122 : decode cX6_fewest 122 = .ok (.if_icmp .eq 16, 3) := by decide +kernel
theorem dX6_fewest_125 : decode cX6_fewest 125 = .ok (.aload_n 0, 1) := by decide +kernel
theorem dX6_fewest_126 : decode cX6_fewest 126 = .ok (.iconst 0, 1) := by decide +kernel
theorem dX6_fewest_127 : decode cX6_fewest 127 = .ok (.iload 8, 2) := by decide +kernel
theorem dX6_fewest_129 : decode cX6_fewest 129 = .ok (.iload 4, 2) := by decide +kernel
theorem dX6_fewest_131 : decode cX6_fewest 131 = .ok (.iload_n 3, 1) := by decide +kernel
theorem dX6_fewest_132 : decode cX6_fewest 132 = .ok (.invokevirtual 101, 3) := by decide +kernel
theorem dX6_fewest_135 : decode cX6_fewest 135 = .ok (.ifCond .eq 9, 3) := by decide +kernel
theorem dX6_fewest_138 : decode cX6_fewest 138 = .ok (.sipush 10000, 3) := by decide +kernel
theorem dX6_fewest_141 : decode cX6_fewest 141 = .ok (.goto 12, 3) := by decide +kernel
theorem dX6_fewest_144 : decode cX6_fewest 144 = .ok (.iconst 1, 1) := by decide +kernel
theorem dX6_fewest_145 : decode cX6_fewest 145 = .ok (.aload_n 0, 1) := by decide +kernel
theorem dX6_fewest_146 : decode cX6_fewest 146 = .ok (.getfield 32, 3) := by decide +kernel
theorem dX6_fewest_149 : decode cX6_fewest 149 = .ok (.iload 8, 2) := by decide +kernel
theorem dX6_fewest_151 : decode cX6_fewest 151 = .ok (.iaload, 1) := by decide +kernel
theorem dX6_fewest_152 : decode cX6_fewest 152 = .ok (.iadd, 1) := by decide +kernel
theorem dX6_fewest_153 : decode cX6_fewest 153 = .ok (.istore 9, 2) := by decide +kernel
theorem dX6_fewest_155 : decode cX6_fewest 155 = .ok (.iload 9, 2) := by decide +kernel
theorem dX6_fewest_157 : decode cX6_fewest 157 = .ok (.iload 5, 2) := by decide +kernel
theorem dX6_fewest_159 : decode cX6_fewest 159 = .ok (.if_icmp .ge 8, 3) := by decide +kernel
theorem dX6_fewest_162 : decode cX6_fewest 162 = .ok (.iload 9, 2) := by decide +kernel
theorem dX6_fewest_164 : decode cX6_fewest 164 = .ok (.goto 5, 3) := by decide +kernel
theorem dX6_fewest_167 : decode cX6_fewest 167 = .ok (.iload 5, 2) := by decide +kernel
theorem dX6_fewest_169 : decode cX6_fewest 169 = .ok (.istore 5, 2) := by decide +kernel
theorem dX6_fewest_171 : decode cX6_fewest 171 = .ok (.iinc 7 1, 3) := by decide +kernel
theorem dX6_fewest_174 : decode cX6_fewest 174 = .ok (.goto (-108), 3) := by decide +kernel
theorem dX6_fewest_177 : decode cX6_fewest 177 = .ok (.iload 5, 2) := by decide +kernel
theorem dX6_fewest_179 : decode cX6_fewest 179 = .ok (.ireturn, 1) := by decide +kernel
theorem dX6_back_0 : decode cX6_back 0 = .ok (.iconst 0, 1) := by decide +kernel
theorem dX6_back_1 : decode cX6_back 1 = .ok (.istore_n 2, 1) := by decide +kernel
theorem dX6_back_2 : decode cX6_back 2 = .ok (.iload_n 2, 1) := by decide +kernel
theorem dX6_back_3 : decode cX6_back 3 = .ok (.bipush 36, 2) := by decide +kernel
theorem dX6_back_5 : decode cX6_back 5 = .ok (.if_icmp .ge 18, 3) := by decide +kernel
theorem dX6_back_8 : decode cX6_back 8 = .ok (.aload_n 0, 1) := by decide +kernel
theorem dX6_back_9 : decode cX6_back 9 = .ok (.getfield 32, 3) := by decide +kernel
theorem dX6_back_12 : decode cX6_back 12 = .ok (.iload_n 2, 1) := by decide +kernel
theorem dX6_back_13 : decode cX6_back 13 = .ok (.sipush 10000, 3) := by decide +kernel
theorem dX6_back_16 : decode cX6_back 16 = .ok (.iastore, 1) := by decide +kernel
theorem dX6_back_17 : decode cX6_back 17 = .ok (.iinc 2 1, 3) := by decide +kernel
theorem dX6_back_20 : decode cX6_back 20 = .ok (.goto (-18), 3) := by decide +kernel
theorem dX6_back_23 : decode cX6_back 23 = .ok (.aload_n 0, 1) := by decide +kernel
theorem dX6_back_24 : decode cX6_back 24 = .ok (.getfield 7, 3) := by decide +kernel
theorem dX6_back_27 : decode cX6_back 27 = .ok (.bipush 125, 2) := by decide +kernel
theorem dX6_back_29 : decode cX6_back 29 = .ok (.iaload, 1) := by decide +kernel
theorem dX6_back_30 : decode cX6_back 30 = .ok (.istore_n 2, 1) := by decide +kernel
theorem dX6_back_31 : decode cX6_back 31 = .ok (.iload_n 2, 1) := by decide +kernel
theorem dX6_back_32 : decode cX6_back 32 = .ok (.aload_n 0, 1) := by decide +kernel
theorem dX6_back_33 : decode cX6_back 33 = .ok (.getfield 7, 3) := by decide +kernel
theorem dX6_back_36 : decode cX6_back 36 = .ok (.bipush 126, 2) := by decide +kernel
theorem dX6_back_38 : decode cX6_back 38 = .ok (.iaload, 1) := by decide +kernel
theorem dX6_back_39 : decode cX6_back 39 = .ok (.if_icmp .lt 67, 3) := by decide +kernel
theorem dX6_back_42 : decode cX6_back 42 = .ok (.iconst 0, 1) := by decide +kernel
theorem dX6_back_43 : decode cX6_back 43 = .ok (.istore_n 3, 1) := by decide +kernel
theorem dX6_back_44 : decode cX6_back 44 = .ok (.iload_n 3, 1) := by decide +kernel
theorem dX6_back_45 : decode cX6_back 45 = .ok (.bipush 36, 2) := by decide +kernel
theorem dX6_back_47 : decode cX6_back 47 = .ok (.if_icmp .ge 27, 3) := by decide +kernel
theorem dX6_back_50 : decode cX6_back 50 = .ok (.aload_n 0, 1) := by decide +kernel
theorem dX6_back_51 : decode cX6_back 51 = .ok (.getfield 29, 3) := by decide +kernel
theorem dX6_back_54 : decode cX6_back 54 = .ok (.iload_n 3, 1) := by decide +kernel
theorem dX6_back_55 : decode cX6_back 55 = .ok (.aload_n 0, 1) := by decide +kernel
theorem dX6_back_56 : decode cX6_back 56 = .ok (.aload_n 0, 1) := by decide +kernel
theorem dX6_back_57 : decode cX6_back 57 = .ok (.iconst 0, 1) := by decide +kernel
theorem dX6_back_58 : decode cX6_back 58 = .ok (.iload_n 1, 1) := by decide +kernel
theorem dX6_back_59 : decode cX6_back 59 = .ok (.invokevirtual 85, 3) := by decide +kernel
theorem dX6_back_62 : decode cX6_back 62 = .ok (.iload_n 3, 1) := by decide +kernel
theorem dX6_back_63 : decode cX6_back 63 = .ok (.iload_n 2, 1) := by decide +kernel
theorem dX6_back_64 : decode cX6_back 64 = .ok (.invokevirtual 190, 3) := by decide +kernel
theorem dX6_back_67 : decode cX6_back 67 = .ok (.iastore, 1) := by decide +kernel
theorem dX6_back_68 : decode cX6_back 68 = .ok (.iinc 3 1, 3) := by decide +kernel
theorem dX6_back_71 : decode cX6_back 71 = .ok (.goto (-27), 3) := by decide +kernel
theorem dX6_back_74 : decode cX6_back 74 = .ok (.iconst 0, 1) := by decide +kernel
theorem dX6_back_75 : decode cX6_back 75 = .ok (.istore_n 3, 1) := by decide +kernel
theorem dX6_back_76 : decode cX6_back 76 = .ok (.iload_n 3, 1) := by decide +kernel
theorem dX6_back_77 : decode cX6_back 77 = .ok (.bipush 36, 2) := by decide +kernel
theorem dX6_back_79 : decode cX6_back 79 = .ok (.if_icmp .ge 21, 3) := by decide +kernel
theorem dX6_back_82 : decode cX6_back 82 = .ok (.aload_n 0, 1) := by decide +kernel
theorem dX6_back_83 : decode cX6_back 83 = .ok (.getfield 32, 3) := by decide +kernel
theorem dX6_back_86 : decode cX6_back 86 = .ok (.iload_n 3, 1) := by decide +kernel
theorem dX6_back_87 : decode cX6_back 87 = .ok (.aload_n 0, 1) := by decide +kernel
theorem dX6_back_88 : decode cX6_back 88 = .ok (.getfield 29, 3) := by decide +kernel
theorem dX6_back_91 : decode cX6_back 91 = .ok (.iload_n 3, 1) := by decide +kernel
theorem dX6_back_92 : decode cX6_back 92 = .ok (.iaload, 1) := by decide +kernel
theorem dX6_back_93 : decode cX6_back 93 = .ok (.iastore, 1) := by decide +kernel
theorem dX6_back_94 : decode cX6_back 94 = .ok (.iinc 3 1, 3) := by decide +kernel
theorem dX6_back_97 : decode cX6_back 97 = .ok (.goto (-21), 3) := by decide +kernel
theorem dX6_back_100 : decode cX6_back 100 = .ok (.iinc 2 (-1), 3) := by decide +kernel
theorem dX6_back_103 : decode cX6_back 103 = .ok (.goto (-72), 3) := by decide +kernel
theorem dX6_back_106 : decode cX6_back 106 = .ok (.aload_n 0, 1) := by decide +kernel
theorem dX6_back_107 : decode cX6_back 107 = .ok (.getfield 32, 3) := by decide +kernel
theorem dX6_back_110 : decode cX6_back 110 = .ok (.aload_n 0, 1) := by decide +kernel
theorem dX6_back_111 : decode cX6_back 111 = .ok (.iconst 0, 1) := by decide +kernel
theorem dX6_back_112 : decode cX6_back 112 = .ok (.iload_n 1, 1) := by decide +kernel
theorem dX6_back_113 : decode cX6_back 113 = .ok (.iconst 3, 1) := by decide +kernel
theorem dX6_back_114 : decode cX6_back 114 = .ok (.invokevirtual 68, 3) := by decide +kernel
theorem dX6_back_117 : decode cX6_back 117 = .ok (.iaload, 1) := by decide +kernel
theorem dX6_back_118 : decode cX6_back 118 = .ok (.istore_n 2, 1) := by decide +kernel
theorem dX6_back_119 : decode cX6_back 119 = .ok (.iload_n 2, 1) := by decide +kernel
theorem dX6_back_120 : decode cX6_back 120 = .ok (.sipush 10000, 3) := by decide +kernel
theorem dX6_back_123 : decode cX6_back 123 = .ok (.if_icmp .ge 7, 3) := by decide +kernel
theorem dX6_back_126 : decode cX6_back 126 = .ok (.iload_n 2, 1) := by decide +kernel
theorem dX6_back_127 : decode cX6_back 127 = .ok (.goto 5, 3) := by decide +kernel
theorem dX6_back_130 : decode cX6_back 130 = .ok (.bipush (-5), 2) := by decide +kernel
theorem dX6_back_132 : decode cX6_back 132 = .ok (.ireturn, 1) := by decide +kernel
theorem dX6_homeIn_0 : decode cX6_homeIn 0 = .ok (.aload_n 0, 1) := by decide +kernel
theorem dX6_homeIn_1 : decode cX6_homeIn 1 = .ok (.iconst 0, 1) := by decide +kernel
theorem dX6_homeIn_2 : decode cX6_homeIn 2 = .ok (.iload_n 1, 1) := by decide +kernel
theorem dX6_homeIn_3 : decode cX6_homeIn 3 = .ok (.invokevirtual 104, 3) := by decide +kernel
theorem dX6_homeIn_6 : decode cX6_homeIn 6 = .ok (.ifCond .ne 5, 3) := by decide +kernel
theorem dX6_homeIn_9 : decode cX6_homeIn 9 = .ok (.iconst (-1), 1) := by decide +kernel
theorem dX6_homeIn_10 : decode cX6_homeIn 10 = .ok (.ireturn, 1) := by decide +kernel
theorem dX6_homeIn_11 : decode cX6_homeIn 11 = .ok (.iload_n 2, 1) := by decide +kernel
theorem dX6_homeIn_12 : decode cX6_homeIn 12 = .ok (.iconst 0, 1) := by decide +kernel
theorem dX6_homeIn_13 : decode cX6_homeIn 13 = .ok (.iconst 1, 1) := by decide +kernel
theorem dX6_homeIn_14 : decode cX6_homeIn 14 = .ok (.invokestatic 35, 3) := by decide +kernel
theorem dX6_homeIn_17 : decode cX6_homeIn 17 = .ok (.ifCond .ne 6, 3) := by decide +kernel
theorem dX6_homeIn_20 : decode cX6_homeIn 20 = .ok (.bipush (-2), 2) := by decide +kernel
theorem dX6_homeIn_22 : decode cX6_homeIn 22 = .ok (.ireturn, 1) := by decide +kernel
theorem dX6_homeIn_23 : decode cX6_homeIn 23 = .ok (.aload_n 0, 1) := by decide +kernel
theorem dX6_homeIn_24 : decode cX6_homeIn 24 = .ok (.iconst 0, 1) := by decide +kernel
theorem dX6_homeIn_25 : decode cX6_homeIn 25 = .ok (.iload_n 1, 1) := by decide +kernel
theorem dX6_homeIn_26 : decode cX6_homeIn 26 = .ok (.iconst 2, 1) := by decide +kernel
theorem dX6_homeIn_27 : decode cX6_homeIn 27 = .ok (.invokevirtual 68, 3) := by decide +kernel
theorem dX6_homeIn_30 : decode cX6_homeIn 30 = .ok (.ifCond .eq 6, 3) := by decide +kernel
theorem dX6_homeIn_33 : decode cX6_homeIn 33 = .ok (.bipush (-4), 2) := by decide +kernel
theorem dX6_homeIn_35 : decode cX6_homeIn 35 = .ok (.ireturn, 1) := by decide +kernel
theorem dX6_homeIn_36 : decode cX6_homeIn 36 = .ok (.iload_n 2, 1) := by decide +kernel
theorem dX6_homeIn_37 : decode cX6_homeIn 37 = .ok (.ifCond .ne 12, 3) := by decide +kernel
theorem dX6_homeIn_40 : decode cX6_homeIn 40 = .ok (.aload_n 0, 1) := by decide +kernel
theorem dX6_homeIn_41 : decode cX6_homeIn 41 = .ok (.iconst 0, 1) := by decide +kernel
theorem dX6_homeIn_42 : decode cX6_homeIn 42 = .ok (.iload_n 1, 1) := by decide +kernel
theorem dX6_homeIn_43 : decode cX6_homeIn 43 = .ok (.invokevirtual 193, 3) := by decide +kernel
theorem dX6_homeIn_46 : decode cX6_homeIn 46 = .ok (.goto 8, 3) := by decide +kernel
theorem dX6_homeIn_49 : decode cX6_homeIn 49 = .ok (.aload_n 0, 1) := by decide +kernel
theorem dX6_homeIn_50 : decode cX6_homeIn 50 = .ok (.iload_n 1, 1) := by decide +kernel
theorem dX6_homeIn_51 : decode cX6_homeIn 51 = .ok (.invokevirtual 196, 3) := by decide +kernel
theorem dX6_homeIn_54 : decode cX6_homeIn 54 = .ok (.ireturn, 1) := by decide +kernel
theorem dX6_inDanger_0 : decode cX6_inDanger 0 = .ok (.iload_n 1, 1) := by decide +kernel
theorem dX6_inDanger_1 : decode cX6_inDanger 1 = .ok (.iconst 0, 1) := by decide +kernel
theorem dX6_inDanger_2 : decode cX6_inDanger 2 = .ok (.iconst 1, 1) := by decide +kernel
theorem dX6_inDanger_3 : decode cX6_inDanger 3 = .ok (.invokestatic 35, 3) := by decide +kernel
theorem dX6_inDanger_6 : decode cX6_inDanger 6 = .ok (.ifCond .ne 5, 3) := by decide +kernel
theorem dX6_inDanger_9 : decode cX6_inDanger 9 = .ok (.iconst (-1), 1) := by decide +kernel
theorem dX6_inDanger_10 : decode cX6_inDanger 10 = .ok (.ireturn, 1) := by decide +kernel
theorem dX6_inDanger_11 : decode cX6_inDanger 11 = .ok (.iconst 0, 1) := by decide +kernel
theorem dX6_inDanger_12 : decode cX6_inDanger 12 = .ok (.istore_n 2, 1) := by decide +kernel
theorem dX6_inDanger_13 : decode cX6_inDanger 13 = .ok (.iconst 0, 1) := by decide +kernel
theorem dX6_inDanger_14 : decode cX6_inDanger 14 = .ok (.istore_n 3, 1) := by decide +kernel
theorem dX6_inDanger_15 : decode cX6_inDanger 15 = .ok (.iload_n 3, 1) := by decide +kernel
theorem dX6_inDanger_16 : decode cX6_inDanger 16 = .ok (.aload_n 0, 1) := by decide +kernel
theorem dX6_inDanger_17 : decode cX6_inDanger 17 = .ok (.getfield 7, 3) := by decide +kernel
theorem dX6_inDanger_20 : decode cX6_inDanger 20 = .ok (.bipush 127, 2) := by decide +kernel
theorem dX6_inDanger_22 : decode cX6_inDanger 22 = .ok (.iaload, 1) := by decide +kernel
theorem dX6_inDanger_23 : decode cX6_inDanger 23 = .ok (.if_icmp .ge 89, 3) := by decide +kernel
theorem dX6_inDanger_26 : decode cX6_inDanger 26 = .ok (.aload_n 0, 1) := by decide +kernel
theorem dX6_inDanger_27 : decode cX6_inDanger 27 = .ok (.iconst 0, 1) := by decide +kernel
theorem dX6_inDanger_28 : decode cX6_inDanger 28 = .ok (.invokevirtual 81, 3) := by decide +kernel
theorem dX6_inDanger_31 : decode cX6_inDanger 31 = .ok (.ifCond .ne 81, 3) := by decide +kernel
theorem dX6_inDanger_34 : decode cX6_inDanger 34 = .ok (.aload_n 0, 1) := by decide +kernel
theorem dX6_inDanger_35 : decode cX6_inDanger 35 = .ok (.iconst 0, 1) := by decide +kernel
theorem dX6_inDanger_36 : decode cX6_inDanger 36 = .ok (.iload_n 3, 1) := by decide +kernel
theorem dX6_inDanger_37 : decode cX6_inDanger 37 = .ok (.iconst 2, 1) := by decide +kernel
theorem dX6_inDanger_38 : decode cX6_inDanger 38 = .ok (.invokevirtual 68, 3) := by decide +kernel
theorem dX6_inDanger_41 : decode cX6_inDanger 41 = .ok (.ifCond .ne 18, 3) := by decide +kernel
theorem dX6_inDanger_44 : decode cX6_inDanger 44 = .ok (.aload_n 0, 1) := by decide +kernel
theorem dX6_inDanger_45 : decode cX6_inDanger 45 = .ok (.iconst 0, 1) := by decide +kernel
theorem dX6_inDanger_46 : decode cX6_inDanger 46 = .ok (.iload_n 3, 1) := by decide +kernel
theorem dX6_inDanger_47 : decode cX6_inDanger 47 = .ok (.iconst 0, 1) := by decide +kernel
theorem dX6_inDanger_48 : decode cX6_inDanger 48 = .ok (.invokevirtual 68, 3) := by decide +kernel
theorem dX6_inDanger_51 : decode cX6_inDanger 51 = .ok (.iload_n 1, 1) := by decide +kernel
theorem dX6_inDanger_52 : decode cX6_inDanger 52 = .ok (.if_icmp .ne 7, 3) := by decide +kernel
theorem dX6_inDanger_55 : decode cX6_inDanger 55 = .ok (.iconst 1, 1) := by decide +kernel
theorem dX6_inDanger_56 : decode cX6_inDanger 56 = .ok (.goto 4, 3) := by decide +kernel
theorem dX6_inDanger_59 : decode cX6_inDanger 59 = .ok (.iconst 0, 1) := by decide +kernel
theorem dX6_inDanger_60 : decode cX6_inDanger 60 = .ok (.istore 4, 2) := by decide +kernel
theorem dX6_inDanger_62 : decode cX6_inDanger 62 = .ok (.iload_n 2, 1) := by decide +kernel
theorem dX6_inDanger_63 : decode cX6_inDanger 63 = .ok (.iload 4, 2) := by decide +kernel
theorem dX6_inDanger_65 : decode cX6_inDanger 65 = .ok (.ifCond .eq 38, 3) := by decide +kernel
theorem dX6_inDanger_68 : decode cX6_inDanger 68 = .ok (.aload_n 0, 1) := by decide +kernel
theorem dX6_inDanger_69 : decode cX6_inDanger 69 = .ok (.iconst 0, 1) := by decide +kernel
theorem dX6_inDanger_70 : decode cX6_inDanger 70 = .ok (.aload_n 0, 1) := by decide +kernel
theorem dX6_inDanger_71 : decode cX6_inDanger 71 = .ok (.iconst 0, 1) := by decide +kernel
theorem dX6_inDanger_72 : decode cX6_inDanger 72 = .ok (.iload_n 3, 1) := by decide +kernel
theorem dX6_inDanger_73 : decode cX6_inDanger 73 = .ok (.iconst 3, 1) := by decide +kernel
theorem dX6_inDanger_74 : decode cX6_inDanger 74 = .ok (.invokevirtual 68, 3) := by decide +kernel
theorem dX6_inDanger_77 : decode cX6_inDanger 77 = .ok (.aload_n 0, 1) := by decide +kernel
theorem dX6_inDanger_78 : decode cX6_inDanger 78 = .ok (.iconst 0, 1) := by decide +kernel
theorem dX6_inDanger_79 : decode cX6_inDanger 79 = .ok (.iload_n 3, 1) := by decide +kernel
theorem dX6_inDanger_80 : decode cX6_inDanger 80 = .ok (.iconst 1, 1) := by decide +kernel
theorem dX6_inDanger_81 : decode cX6_inDanger 81 = .ok (.invokevirtual 68, 3) := by decide +kernel
theorem dX6_inDanger_84 : decode cX6_inDanger 84 = .ok (.aload_n 0, 1) := by decide +kernel
theorem dX6_inDanger_85 : decode cX6_inDanger 85 = .ok (.getfield 7, 3) := by decide +kernel
theorem dX6_inDanger_88 : decode cX6_inDanger 88 = .ok (.bipush 126, 2) := by decide +kernel
theorem dX6_inDanger_90 : decode cX6_inDanger 90 = .ok (.iaload, 1) := by decide +kernel
theorem dX6_inDanger_91 : decode cX6_inDanger 91 = .ok (.invokevirtual 101, 3) := by decide +kernel
theorem dX6_inDanger_94 : decode cX6_inDanger 94 = .ok (.ifCond .eq 9, 3) := by decide +kernel
theorem dX6_inDanger_97 : decode cX6_inDanger 97 = .ok (.iconst 1, 1) := by decide +kernel
theorem dX6_inDanger_98 : decode cX6_inDanger 98 = .ok (.iload_n 3, 1) := by decide +kernel
theorem dX6_inDanger_99 : decode cX6_inDanger 99 = .ok (.ishl, 1) := by decide +kernel
theorem dX6_inDanger_100 : decode cX6_inDanger 100 = .ok (.goto 4, 3) := by decide +kernel
theorem dX6_inDanger_103 : decode cX6_inDanger 103 = .ok (.iconst 0, 1) := by decide +kernel
theorem dX6_inDanger_104 : decode cX6_inDanger 104 = .ok (.ior, 1) := by decide +kernel
theorem dX6_inDanger_105 : decode cX6_inDanger 105 = .ok (.istore_n 2, 1) := by decide +kernel
theorem dX6_inDanger_106 : decode cX6_inDanger 106 = .ok (.iinc 3 1, 3) := by decide +kernel
theorem dX6_inDanger_109 : decode cX6_inDanger 109 = .ok (.goto (-94), 3) := by decide +kernel
theorem dX6_inDanger_112 : decode cX6_inDanger 112 = .ok (.iload_n 2, 1) := by decide +kernel
theorem dX6_inDanger_113 : decode cX6_inDanger 113 = .ok (.ireturn, 1) := by decide +kernel
theorem dX6_worth_0 : decode cX6_worth 0 = .ok (.aload_n 0, 1) := by decide +kernel
theorem dX6_worth_1 : decode cX6_worth 1 = .ok (.invokevirtual 114, 3) := by decide +kernel
end
section
theorem dX6_worth_4 : decode cX6_worth 4 = .ok (.aload_n 0, 1) := by decide +kernel
theorem dX6_worth_5 : decode cX6_worth 5 = .ok (.sipush 129, 3) := by decide +kernel
theorem dX6_worth_8 : decode cX6_worth 8 = .ok (.iload_n 1, 1) := by decide +kernel
theorem dX6_worth_9 : decode cX6_worth 9 = .ok (.iload_n 2, 1) := by decide +kernel
theorem dX6_worth_10 : decode cX6_worth 10 = .ok (.invokevirtual 130, 3) := by decide +kernel
theorem dX6_worth_13 : decode cX6_worth 13 = .ok (.istore_n 3, 1) := by decide +kernel
theorem dX6_worth_14 : decode cX6_worth 14 = .ok (.aload_n 0, 1) := by decide +kernel
theorem dX6_worth_15 : decode cX6_worth 15 = .ok (.sipush 129, 3) := by decide +kernel
theorem dX6_worth_18 : decode cX6_worth 18 = .ok (.iload_n 1, 1) := by decide +kernel
theorem dX6_worth_19 : decode cX6_worth 19 = .ok (.iconst 2, 1) := by decide +kernel
theorem dX6_worth_20 : decode cX6_worth 20 = .ok (.invokevirtual 68, 3) := by decide +kernel
theorem dX6_worth_23 : decode cX6_worth 23 = .ok (.iconst 1, 1) := by decide +kernel
theorem dX6_worth_24 : decode cX6_worth 24 = .ok (.if_icmp .ne 17, 3) := by decide +kernel
theorem dX6_worth_27 : decode cX6_worth 27 = .ok (.sipush 2000, 3) := by decide +kernel
theorem dX6_worth_30 : decode cX6_worth 30 = .ok (.aload_n 0, 1) := by decide +kernel
theorem dX6_worth_31 : decode cX6_worth 31 = .ok (.sipush 129, 3) := by decide +kernel
theorem dX6_worth_34 : decode cX6_worth 34 = .ok (.iload_n 1, 1) := by decide +kernel
theorem dX6_worth_35 : decode cX6_worth 35 = .ok (.iconst 1, 1) := by decide +kernel
theorem dX6_worth_36 : decode cX6_worth 36 = .ok (.invokevirtual 68, 3) := by decide +kernel
theorem dX6_worth_39 : decode cX6_worth 39 = .ok (.iadd, 1) := by decide +kernel
theorem dX6_worth_40 : decode cX6_worth 40 = .ok (.ireturn, 1) := by decide +kernel
theorem dX6_worth_41 : decode cX6_worth 41 = .ok (.iload_n 3, 1) := by decide +kernel
theorem dX6_worth_42 : decode cX6_worth 42 = .ok (.ifCond .le 9, 3) := by decide +kernel
theorem dX6_worth_45 : decode cX6_worth 45 = .ok (.sipush 1000, 3) := by decide +kernel
theorem dX6_worth_48 : decode cX6_worth 48 = .ok (.iload_n 3, 1) := by decide +kernel
theorem dX6_worth_49 : decode cX6_worth 49 = .ok (.iadd, 1) := by decide +kernel
theorem dX6_worth_50 : decode cX6_worth 50 = .ok (.ireturn, 1) := by decide +kernel
theorem dX6_worth_51 : decode cX6_worth 51 = .ok (.aload_n 0, 1) := by decide +kernel
theorem dX6_worth_52 : decode cX6_worth 52 = .ok (.sipush 129, 3) := by decide +kernel
theorem dX6_worth_55 : decode cX6_worth 55 = .ok (.iload_n 1, 1) := by decide +kernel
theorem dX6_worth_56 : decode cX6_worth 56 = .ok (.iconst 2, 1) := by decide +kernel
theorem dX6_worth_57 : decode cX6_worth 57 = .ok (.invokevirtual 68, 3) := by decide +kernel
theorem dX6_worth_60 : decode cX6_worth 60 = .ok (.ifCond .ne 14, 3) := by decide +kernel
theorem dX6_worth_63 : decode cX6_worth 63 = .ok (.aload_n 0, 1) := by decide +kernel
theorem dX6_worth_64 : decode cX6_worth 64 = .ok (.sipush 129, 3) := by decide +kernel
theorem dX6_worth_67 : decode cX6_worth 67 = .ok (.iload_n 1, 1) := by decide +kernel
theorem dX6_worth_68 : decode cX6_worth 68 = .ok (.invokevirtual 193, 3) := by decide +kernel
theorem dX6_worth_71 : decode cX6_worth 71 = .ok (.goto 5, 3) := by decide +kernel
theorem dX6_worth_74 : decode cX6_worth 74 = .ok (.bipush (-5), 2) := by decide +kernel
theorem dX6_worth_76 : decode cX6_worth 76 = .ok (.istore 4, 2) := by decide +kernel
theorem dX6_worth_78 : decode cX6_worth 78 = .ok (.iload 4, 2) := by decide +kernel
theorem dX6_worth_80 : decode cX6_worth 80 = .ok (.bipush (-5), 2) := by decide +kernel
theorem dX6_worth_82 : decode cX6_worth 82 = .ok (.if_icmp .ne 7, 3) := by decide +kernel
theorem dX6_worth_85 : decode cX6_worth 85 = .ok (.iconst 0, 1) := by decide +kernel
theorem dX6_worth_86 : decode cX6_worth 86 = .ok (.goto 9, 3) := by decide +kernel
theorem dX6_worth_89 : decode cX6_worth 89 = .ok (.sipush 900, 3) := by decide +kernel
theorem dX6_worth_92 : decode cX6_worth 92 = .ok (.iload 4, 2) := by decide +kernel
theorem dX6_worth_94 : decode cX6_worth 94 = .ok (.isub, 1) := by decide +kernel
theorem dX6_worth_95 : decode cX6_worth 95 = .ok (.ireturn, 1) := by decide +kernel
theorem dX6_best_0 : decode cX6_best 0 = .ok (.aload_n 0, 1) := by decide +kernel
theorem dX6_best_1 : decode cX6_best 1 = .ok (.iconst 0, 1) := by decide +kernel
theorem dX6_best_2 : decode cX6_best 2 = .ok (.invokevirtual 81, 3) := by decide +kernel
theorem dX6_best_5 : decode cX6_best 5 = .ok (.ifCond .eq 6, 3) := by decide +kernel
theorem dX6_best_8 : decode cX6_best 8 = .ok (.bipush (-4), 2) := by decide +kernel
theorem dX6_best_10 : decode cX6_best 10 = .ok (.ireturn, 1) := by decide +kernel
theorem dX6_best_11 : decode cX6_best 11 = .ok (.bipush (-5), 2) := by decide +kernel
theorem dX6_best_13 : decode cX6_best 13 = .ok (.istore_n 1, 1) := by decide +kernel
theorem dX6_best_14 : decode cX6_best 14 = .ok (.iconst 0, 1) := by decide +kernel
theorem dX6_best_15 : decode cX6_best 15 = .ok (.istore_n 2, 1) := by decide +kernel
theorem dX6_best_16 : decode cX6_best 16 = .ok (.iconst 0, 1) := by decide +kernel
theorem dX6_best_17 : decode cX6_best 17 = .ok (.istore_n 3, 1) := by decide +kernel
theorem dX6_best_18 : decode cX6_best 18 = .ok (.iload_n 3, 1) := by decide +kernel
theorem dX6_best_19 : decode cX6_best 19 = .ok (.bipush 12, 2) := by decide +kernel
theorem dX6_best_21 : decode cX6_best 21 = .ok (.aload_n 0, 1) := by decide +kernel
theorem dX6_best_22 : decode cX6_best 22 = .ok (.getfield 7, 3) := by decide +kernel
theorem dX6_best_25 : decode cX6_best 25 = .ok (.bipush 127, 2) := by decide +kernel
theorem dX6_best_27 : decode cX6_best 27 = .ok (.iaload, 1) := by decide +kernel
theorem dX6_best_28 : decode cX6_best 28 = .ok (.imul, 1) := by decide +kernel
theorem dX6_best_29 : decode cX6_best 29 = .ok (.if_icmp .ge 89, 3) := by decide +kernel
theorem dX6_best_32 : decode cX6_best 32 = .ok (.iload_n 3, 1) := by decide +kernel
theorem dX6_best_33 : decode cX6_best 33 = .ok (.bipush 12, 2) := by decide +kernel
theorem dX6_best_35 : decode cX6_best 35 = .ok (.idiv, 1) := by decide +kernel
theorem dX6_best_36 : decode cX6_best 36 = .ok (.istore 4, 2) := by decide +kernel
theorem dX6_best_38 : decode cX6_best 38 = .ok (.bipush 10, 2) := by decide +kernel
theorem dX6_best_40 : decode cX6_best 40 = .ok (.iload_n 3, 1) := by decide +kernel
theorem dX6_best_41 : decode cX6_best 41 = .ok (.iconst 3, 1) := by decide +kernel
theorem dX6_best_42 : decode cX6_best 42 = .ok (.idiv, 1) := by decide +kernel
theorem dX6_best_43 : decode cX6_best 43 = .ok (.iconst 4, 1) := by decide +kernel
theorem dX6_best_44 : decode cX6_best 44 = .ok (.irem, 1) := by decide +kernel
theorem dX6_best_45 : decode cX6_best 45 = .ok (.imul, 1) := by decide +kernel
theorem dX6_best_46 : decode cX6_best 46 = .ok (.iload_n 3, 1) := by decide +kernel
theorem dX6_best_47 : decode cX6_best 47 = .ok (.iconst 3, 1) := by decide +kernel
theorem dX6_best_48 : decode cX6_best 48 = .ok (.irem, 1) := by decide +kernel
theorem dX6_best_49 : decode cX6_best 49 = .ok (.iadd, 1) := by decide +kernel
theorem dX6_best_50 : decode cX6_best 50 = .ok (.iconst 1, 1) := by decide +kernel
theorem dX6_best_51 : decode cX6_best 51 = .ok (.iadd, 1) := by decide +kernel
theorem dX6_best_52 : decode cX6_best 52 = .ok (.istore 5, 2) := by decide +kernel
theorem dX6_best_54 : decode cX6_best 54 = .ok (.aload_n 0, 1) := by decide +kernel
theorem dX6_best_55 : decode cX6_best 55 = .ok (.iconst 0, 1) := by decide +kernel
theorem dX6_best_56 : decode cX6_best 56 = .ok (.iload 4, 2) := by decide +kernel
theorem dX6_best_58 : decode cX6_best 58 = .ok (.iload 5, 2) := by decide +kernel
theorem dX6_best_60 : decode cX6_best 60 = .ok (.invokevirtual 107, 3) := by decide +kernel
theorem dX6_best_63 : decode cX6_best 63 = .ok (.ifCond .ne 14, 3) := by decide +kernel
theorem dX6_best_66 : decode cX6_best 66 = .ok (.aload_n 0, 1) := by decide +kernel
theorem dX6_best_67 : decode cX6_best 67 = .ok (.iload 4, 2) := by decide +kernel
theorem dX6_best_69 : decode cX6_best 69 = .ok (.iload 5, 2) := by decide +kernel
theorem dX6_best_71 : decode cX6_best 71 = .ok (.invokevirtual 199, 3) := by decide +kernel
theorem dX6_best_74 : decode cX6_best 74 = .ok (.goto 4, 3) := by decide +kernel
theorem dX6_best_77 : decode cX6_best 77 = .ok (.iconst 0, 1) := by decide +kernel
theorem dX6_best_78 : decode cX6_best 78 = .ok (.istore 6, 2) := by decide +kernel
theorem dX6_best_80 : decode cX6_best 80 = .ok (.iload 6, 2) := by decide +kernel
theorem dX6_best_82 : decode cX6_best 82 = .ok (.iload_n 2, 1) := by decide +kernel
theorem dX6_best_83 : decode cX6_best 83 = .ok (.if_icmp .le 14, 3) := by decide +kernel
theorem dX6_best_86 : decode cX6_best 86 = .ok (.bipush 100, 2) := by decide +kernel
theorem dX6_best_88 : decode cX6_best 88 = .ok (.iload 4, 2) := by decide +kernel
theorem dX6_best_90 : decode cX6_best 90 = .ok (.imul, 1) := by decide +kernel
theorem dX6_best_91 : decode cX6_best 91 = .ok (.iload 5, 2) := by decide +kernel
theorem dX6_best_93 : decode cX6_best 93 = .ok (.iadd, 1) := by decide +kernel
theorem dX6_best_94 : decode cX6_best 94 = .ok (.goto 4, 3) := by decide +kernel
theorem dX6_best_97 : decode cX6_best 97 = .ok (.iload_n 1, 1) := by decide +kernel
theorem dX6_best_98 : decode cX6_best 98 = .ok (.istore_n 1, 1) := by decide +kernel
theorem dX6_best_99 : decode cX6_best 99 = .ok (.iload 6, 2) := by decide +kernel
theorem dX6_best_101 : decode cX6_best 101 = .ok (.iload_n 2, 1) := by decide +kernel
theorem dX6_best_102 : decode cX6_best 102 = .ok (.if_icmp .le 8, 3) := by decide +kernel
theorem dX6_best_105 : decode cX6_best 105 = .ok (.iload 6, 2) := by decide +kernel
theorem dX6_best_107 : decode cX6_best 107 = .ok (.goto 4, 3) := by decide +kernel
theorem dX6_best_110 : decode cX6_best 110 = .ok (.iload_n 2, 1) := by decide +kernel
theorem dX6_best_111 : decode cX6_best 111 = .ok (.istore_n 2, 1) := by decide +kernel
theorem dX6_best_112 : decode cX6_best 112 = .ok (.iinc 3 1, 3) := by decide +kernel
theorem dX6_best_115 : decode cX6_best 115 = .ok (.goto (-97), 3) := by decide +kernel
theorem dX6_best_118 : decode cX6_best 118 = .ok (.iload_n 1, 1) := by decide +kernel
theorem dX6_best_119 : decode cX6_best 119 = .ok (.ireturn, 1) := by decide +kernel
theorem dJ11_isValidCodePoint_9a6ad_0 : decode cJ11_isValidCodePoint_9a6ad 0 = .ok (.iload_n 0, 1) := by decide +kernel
theorem dJ11_isValidCodePoint_9a6ad_1 : decode cJ11_isValidCodePoint_9a6ad 1 = .ok (.bipush 16, 2) := by decide +kernel
theorem dJ11_isValidCodePoint_9a6ad_3 : decode cJ11_isValidCodePoint_9a6ad 3 = .ok (.iushr, 1) := by decide +kernel
theorem dJ11_isValidCodePoint_9a6ad_4 : decode cJ11_isValidCodePoint_9a6ad 4 = .ok (.istore_n 1, 1) := by decide +kernel
theorem dJ11_isValidCodePoint_9a6ad_5 : decode cJ11_isValidCodePoint_9a6ad 5 = .ok (.iload_n 1, 1) := by decide +kernel
theorem dJ11_isValidCodePoint_9a6ad_6 : decode cJ11_isValidCodePoint_9a6ad 6 = .ok (.bipush 17, 2) := by decide +kernel
theorem dJ11_isValidCodePoint_9a6ad_8 : decode cJ11_isValidCodePoint_9a6ad 8 = .ok (.if_icmp .ge 7, 3) := by decide +kernel
theorem dJ11_isValidCodePoint_9a6ad_11 : decode cJ11_isValidCodePoint_9a6ad 11 = .ok (.iconst 1, 1) := by decide +kernel
theorem dJ11_isValidCodePoint_9a6ad_12 : decode cJ11_isValidCodePoint_9a6ad 12 = .ok (.goto 4, 3) := by decide +kernel
theorem dJ11_isValidCodePoint_9a6ad_15 : decode cJ11_isValidCodePoint_9a6ad 15 = .ok (.iconst 0, 1) := by decide +kernel
theorem dJ11_isValidCodePoint_9a6ad_16 : decode cJ11_isValidCodePoint_9a6ad 16 = .ok (.ireturn, 1) := by decide +kernel
theorem dJ11_highSurrogate_5068e_0 : decode cJ11_highSurrogate_5068e 0 = .ok (.iload_n 0, 1) := by decide +kernel
theorem dJ11_highSurrogate_5068e_1 : decode cJ11_highSurrogate_5068e 1 = .ok (.bipush 10, 2) := by decide +kernel
theorem dJ11_highSurrogate_5068e_3 : decode cJ11_highSurrogate_5068e 3 = .ok (.iushr, 1) := by decide +kernel
theorem dJ11_highSurrogate_5068e_4 : decode cJ11_highSurrogate_5068e 4 = .ok (.ldc 110, 2) := by decide +kernel
theorem dJ11_highSurrogate_5068e_6 : decode cJ11_highSurrogate_5068e 6 = .ok (.iadd, 1) := by decide +kernel
theorem dJ11_highSurrogate_5068e_7 : decode cJ11_highSurrogate_5068e 7 = .ok (.i2c, 1) := by decide +kernel
theorem dJ11_highSurrogate_5068e_8 : decode cJ11_highSurrogate_5068e 8 = .ok (.ireturn, 1) := by decide +kernel
theorem dJ11_lowSurrogate_5068e_0 : decode cJ11_lowSurrogate_5068e 0 = .ok (.iload_n 0, 1) := by decide +kernel
theorem dJ11_lowSurrogate_5068e_1 : decode cJ11_lowSurrogate_5068e 1 = .ok (.sipush 1023, 3) := by decide +kernel
theorem dJ11_lowSurrogate_5068e_4 : decode cJ11_lowSurrogate_5068e 4 = .ok (.iand, 1) := by decide +kernel
theorem dJ11_lowSurrogate_5068e_5 : decode cJ11_lowSurrogate_5068e 5 = .ok (.ldc 76, 2) := by decide +kernel
theorem dJ11_lowSurrogate_5068e_7 : decode cJ11_lowSurrogate_5068e 7 = .ok (.iadd, 1) := by decide +kernel
theorem dJ11_lowSurrogate_5068e_8 : decode cJ11_lowSurrogate_5068e 8 = .ok (.i2c, 1) := by decide +kernel
theorem dJ11_lowSurrogate_5068e_9 : decode cJ11_lowSurrogate_5068e 9 = .ok (.ireturn, 1) := by decide +kernel
theorem dJ9_max_7cf53_0 : decode cJ9_max_7cf53 0 = .ok (.iload_n 0, 1) := by decide +kernel
theorem dJ9_max_7cf53_1 : decode cJ9_max_7cf53 1 = .ok (.iload_n 1, 1) := by decide +kernel
theorem dJ9_max_7cf53_2 : decode cJ9_max_7cf53 2 = .ok (.if_icmp .lt 7, 3) := by decide +kernel
theorem dJ9_max_7cf53_5 : decode cJ9_max_7cf53 5 = .ok (.iload_n 0, 1) := by decide +kernel
theorem dJ9_max_7cf53_6 : decode cJ9_max_7cf53 6 = .ok (.goto 4, 3) := by decide +kernel
theorem dJ9_max_7cf53_9 : decode cJ9_max_7cf53 9 = .ok (.iload_n 1, 1) := by decide +kernel
theorem dJ9_max_7cf53_10 : decode cJ9_max_7cf53 10 = .ok (.ireturn, 1) := by decide +kernel
theorem dJ9_min_7cf53_0 : decode cJ9_min_7cf53 0 = .ok (.iload_n 0, 1) := by decide +kernel
theorem dJ9_min_7cf53_1 : decode cJ9_min_7cf53 1 = .ok (.iload_n 1, 1) := by decide +kernel
theorem dJ9_min_7cf53_2 : decode cJ9_min_7cf53 2 = .ok (.if_icmp .gt 7, 3) := by decide +kernel
theorem dJ9_min_7cf53_5 : decode cJ9_min_7cf53 5 = .ok (.iload_n 0, 1) := by decide +kernel
theorem dJ9_min_7cf53_6 : decode cJ9_min_7cf53 6 = .ok (.goto 4, 3) := by decide +kernel
theorem dJ9_min_7cf53_9 : decode cJ9_min_7cf53 9 = .ok (.iload_n 1, 1) := by decide +kernel
theorem dJ9_min_7cf53_10 : decode cJ9_min_7cf53 10 = .ok (.ireturn, 1) := by decide +kernel
theorem dJ0_length_8abf5_0 : decode cJ0_length_8abf5 0 = .ok (.aload_n 0, 1) := by decide +kernel
theorem dJ0_length_8abf5_1 : decode cJ0_length_8abf5 1 = .ok (.getfield 9, 3) := by decide +kernel
theorem dJ0_length_8abf5_4 : decode cJ0_length_8abf5 4 = .ok (.arraylength, 1) := by decide +kernel
theorem dJ0_length_8abf5_5 : decode cJ0_length_8abf5 5 = .ok (.aload_n 0, 1) := by decide +kernel
theorem dJ0_length_8abf5_6 : decode cJ0_length_8abf5 6 = .ok (.invokevirtual 335, 3) := by decide +kernel
theorem dJ0_length_8abf5_9 : decode cJ0_length_8abf5 9 = .ok (.ishr, 1) := by decide +kernel
theorem dJ0_length_8abf5_10 : decode cJ0_length_8abf5 10 = .ok (.ireturn, 1) := by decide +kernel
theorem dJ0_isEmpty_aae02_0 : decode cJ0_isEmpty_aae02 0 = .ok (.aload_n 0, 1) := by decide +kernel
theorem dJ0_isEmpty_aae02_1 : decode cJ0_isEmpty_aae02 1 = .ok (.getfield 9, 3) := by decide +kernel
theorem dJ0_isEmpty_aae02_4 : decode cJ0_isEmpty_aae02 4 = .ok (.arraylength, 1) := by decide +kernel
theorem dJ0_isEmpty_aae02_5 : decode cJ0_isEmpty_aae02 5 = .ok (.ifCond .ne 7, 3) := by decide +kernel
theorem dJ0_isEmpty_aae02_8 : decode cJ0_isEmpty_aae02 8 = .ok (.iconst 1, 1) := by decide +kernel
theorem dJ0_isEmpty_aae02_9 : decode cJ0_isEmpty_aae02 9 = .ok (.goto 4, 3) := by decide +kernel
theorem dJ0_isEmpty_aae02_12 : decode cJ0_isEmpty_aae02 12 = .ok (.iconst 0, 1) := by decide +kernel
theorem dJ0_isEmpty_aae02_13 : decode cJ0_isEmpty_aae02 13 = .ok (.ireturn, 1) := by decide +kernel
theorem dJ0_charAt_5068e_0 : decode cJ0_charAt_5068e 0 = .ok (.aload_n 0, 1) := by decide +kernel
theorem dJ0_charAt_5068e_1 : decode cJ0_charAt_5068e 1 = .ok (.invokevirtual 492, 3) := by decide +kernel
theorem dJ0_charAt_5068e_4 : decode cJ0_charAt_5068e 4 = .ok (.ifCond .eq 12, 3) := by decide +kernel
theorem dJ0_charAt_5068e_7 : decode cJ0_charAt_5068e 7 = .ok (.aload_n 0, 1) := by decide +kernel
theorem dJ0_charAt_5068e_8 : decode cJ0_charAt_5068e 8 = .ok (.getfield 9, 3) := by decide +kernel
theorem dJ0_charAt_5068e_11 : decode cJ0_charAt_5068e 11 = .ok (.iload_n 1, 1) := by decide +kernel
theorem dJ0_charAt_5068e_12 : decode cJ0_charAt_5068e 12 = .ok (.invokestatic 495, 3) := by decide +kernel
theorem dJ0_charAt_5068e_15 : decode cJ0_charAt_5068e 15 = .ok (.ireturn, 1) := by decide +kernel
theorem dJ0_charAt_5068e_16 : decode cJ0_charAt_5068e 16 = .ok (.aload_n 0, 1) := by decide +kernel
theorem dJ0_charAt_5068e_17 : decode cJ0_charAt_5068e 17 = .ok (.getfield 9, 3) := by decide +kernel
theorem dJ0_charAt_5068e_20 : decode cJ0_charAt_5068e 20 = .ok (.iload_n 1, 1) := by decide +kernel
theorem dJ0_charAt_5068e_21 : decode cJ0_charAt_5068e 21 = .ok (.invokestatic 498, 3) := by decide +kernel
theorem dJ0_charAt_5068e_24 : decode cJ0_charAt_5068e 24 = .ok (.ireturn, 1) := by decide +kernel
theorem dJ0_indexOf_0f7a4_0 : decode cJ0_indexOf_0f7a4 0 = .ok (.aload_n 0, 1) := by decide +kernel
theorem dJ0_indexOf_0f7a4_1 : decode cJ0_indexOf_0f7a4 1 = .ok (.iload_n 1, 1) := by decide +kernel
theorem dJ0_indexOf_0f7a4_2 : decode cJ0_indexOf_0f7a4 2 = .ok (.iconst 0, 1) := by decide +kernel
theorem dJ0_indexOf_0f7a4_3 : decode cJ0_indexOf_0f7a4 3 = .ok (.invokevirtual 633, 3) := by decide +kernel
theorem dJ0_indexOf_0f7a4_6 : decode cJ0_indexOf_0f7a4 6 = .ok (.ireturn, 1) := by decide +kernel
theorem dJ0_indexOf_7cf53_0 : decode cJ0_indexOf_7cf53 0 = .ok (.aload_n 0, 1) := by decide +kernel
theorem dJ0_indexOf_7cf53_1 : decode cJ0_indexOf_7cf53 1 = .ok (.invokevirtual 492, 3) := by decide +kernel
theorem dJ0_indexOf_7cf53_4 : decode cJ0_indexOf_7cf53 4 = .ok (.ifCond .eq 19, 3) := by decide +kernel
theorem dJ0_indexOf_7cf53_7 : decode cJ0_indexOf_7cf53 7 = .ok (.aload_n 0, 1) := by decide +kernel
theorem dJ0_indexOf_7cf53_8 : decode cJ0_indexOf_7cf53 8 = .ok (.getfield 9, 3) := by decide +kernel
theorem dJ0_indexOf_7cf53_11 : decode cJ0_indexOf_7cf53 11 = .ok (.iload_n 1, 1) := by decide +kernel
theorem dJ0_indexOf_7cf53_12 : decode cJ0_indexOf_7cf53 12 = .ok (.iload_n 2, 1) := by decide +kernel
theorem dJ0_indexOf_7cf53_13 : decode cJ0_indexOf_7cf53 13 = .ok (.aload_n 0, 1) := by decide +kernel
theorem dJ0_indexOf_7cf53_14 : decode cJ0_indexOf_7cf53 14 = .ok (.invokevirtual 505, 3) := by decide +kernel
theorem dJ0_indexOf_7cf53_17 : decode cJ0_indexOf_7cf53 17 = .ok (.invokestatic 637, 3) := by decide +kernel
theorem dJ0_indexOf_7cf53_20 : decode cJ0_indexOf_7cf53 20 = .ok (.goto 16, 3) := by decide +kernel
theorem dJ0_indexOf_7cf53_23 : decode cJ0_indexOf_7cf53 23 = .ok (.aload_n 0, 1) := by decide +kernel
theorem dJ0_indexOf_7cf53_24 : decode cJ0_indexOf_7cf53 24 = .ok (.getfield 9, 3) := by decide +kernel
theorem dJ0_indexOf_7cf53_27 : decode cJ0_indexOf_7cf53 27 = .ok (.iload_n 1, 1) := by decide +kernel
theorem dJ0_indexOf_7cf53_28 : decode cJ0_indexOf_7cf53 28 = .ok (.iload_n 2, 1) := by decide +kernel
theorem dJ0_indexOf_7cf53_29 : decode cJ0_indexOf_7cf53 29 = .ok (.aload_n 0, 1) := by decide +kernel
theorem dJ0_indexOf_7cf53_30 : decode cJ0_indexOf_7cf53 30 = .ok (.invokevirtual 505, 3) := by decide +kernel
theorem dJ0_indexOf_7cf53_33 : decode cJ0_indexOf_7cf53 33 = .ok (.invokestatic 640, 3) := by decide +kernel
theorem dJ0_indexOf_7cf53_36 : decode cJ0_indexOf_7cf53 36 = .ok (.ireturn, 1) := by decide +kernel
theorem dJ0_coder_7d493_0 : decode cJ0_coder_7d493 0 = .ok (.getstatic 38, 3) := by decide +kernel
theorem dJ0_coder_7d493_3 : decode cJ0_coder_7d493 3 = .ok (.ifCond .eq 10, 3) := by decide +kernel
theorem dJ0_coder_7d493_6 : decode cJ0_coder_7d493 6 = .ok (.aload_n 0, 1) := by decide +kernel
theorem dJ0_coder_7d493_7 : decode cJ0_coder_7d493 7 = .ok (.getfield 15, 3) := by decide +kernel
theorem dJ0_coder_7d493_10 : decode cJ0_coder_7d493 10 = .ok (.goto 4, 3) := by decide +kernel
theorem dJ0_coder_7d493_13 : decode cJ0_coder_7d493 13 = .ok (.iconst 1, 1) := by decide +kernel
theorem dJ0_coder_7d493_14 : decode cJ0_coder_7d493 14 = .ok (.ireturn, 1) := by decide +kernel
theorem dJ0_isLatin1_aae02_0 : decode cJ0_isLatin1_aae02 0 = .ok (.getstatic 38, 3) := by decide +kernel
theorem dJ0_isLatin1_aae02_3 : decode cJ0_isLatin1_aae02 3 = .ok (.ifCond .eq 14, 3) := by decide +kernel
theorem dJ0_isLatin1_aae02_6 : decode cJ0_isLatin1_aae02 6 = .ok (.aload_n 0, 1) := by decide +kernel
theorem dJ0_isLatin1_aae02_7 : decode cJ0_isLatin1_aae02 7 = .ok (.getfield 15, 3) := by decide +kernel
theorem dJ0_isLatin1_aae02_10 : decode cJ0_isLatin1_aae02 10 = .ok (.ifCond .ne 7, 3) := by decide +kernel
theorem dJ0_isLatin1_aae02_13 : decode cJ0_isLatin1_aae02 13 = .ok (.iconst 1, 1) := by decide +kernel
theorem dJ0_isLatin1_aae02_14 : decode cJ0_isLatin1_aae02 14 = .ok (.goto 4, 3) := by decide +kernel
theorem dJ0_isLatin1_aae02_17 : decode cJ0_isLatin1_aae02 17 = .ok (.iconst 0, 1) := by decide +kernel
theorem dJ0_isLatin1_aae02_18 : decode cJ0_isLatin1_aae02 18 = .ok (.ireturn, 1) := by decide +kernel
theorem dJ0_checkIndex_df160_0 : decode cJ0_checkIndex_df160 0 = .ok (.iload_n 0, 1) := by decide +kernel
theorem dJ0_checkIndex_df160_1 : decode cJ0_checkIndex_df160 1 = .ok (.iload_n 1, 1) := by decide +kernel
theorem dJ0_checkIndex_df160_2 : decode cJ0_checkIndex_df160 2 = .ok (.getstatic 1053, 3) := by decide +kernel
theorem dJ0_checkIndex_df160_5 : decode cJ0_checkIndex_df160 5 = .ok (.invokestatic 1059, 3) := by decide +kernel
theorem dJ0_checkIndex_df160_8 : decode cJ0_checkIndex_df160 8 = .ok (.pop, 1) := by decide +kernel
theorem dJ0_checkIndex_df160_9 : decode cJ0_checkIndex_df160 9 = .ok (.return_, 1) := by decide +kernel
theorem dJ0_checkBoundsBeginEnd_23922_0 : decode cJ0_checkBoundsBeginEnd_23922 0 = .ok (.iload_n 0, 1) := by decide +kernel
theorem dJ0_checkBoundsBeginEnd_23922_1 : decode cJ0_checkBoundsBeginEnd_23922 1 = .ok (.iload_n 1, 1) := by decide +kernel
theorem dJ0_checkBoundsBeginEnd_23922_2 : decode cJ0_checkBoundsBeginEnd_23922 2 = .ok (.iload_n 2, 1) := by decide +kernel
theorem dJ0_checkBoundsBeginEnd_23922_3 : decode cJ0_checkBoundsBeginEnd_23922 3 = .ok (.getstatic 1053, 3) := by decide +kernel
theorem dJ0_checkBoundsBeginEnd_23922_6 : decode cJ0_checkBoundsBeginEnd_23922 6 = .ok (.invokestatic 1062, 3) := by decide +kernel
theorem dJ0_checkBoundsBeginEnd_23922_9 : decode cJ0_checkBoundsBeginEnd_23922 9 = .ok (.pop, 1) := by decide +kernel
theorem dJ0_checkBoundsBeginEnd_23922_10 : decode cJ0_checkBoundsBeginEnd_23922 10 = .ok (.return_, 1) := by decide +kernel
theorem dJ1_charAt_3b067_0 : decode cJ1_charAt_3b067 0 = .ok (.iload_n 1, 1) := by decide +kernel
theorem dJ1_charAt_3b067_1 : decode cJ1_charAt_3b067 1 = .ok (.aload_n 0, 1) := by decide +kernel
theorem dJ1_charAt_3b067_2 : decode cJ1_charAt_3b067 2 = .ok (.arraylength, 1) := by decide +kernel
theorem dJ1_charAt_3b067_3 : decode cJ1_charAt_3b067 3 = .ok (.invokestatic 9, 3) := by decide +kernel
theorem dJ1_charAt_3b067_6 : decode cJ1_charAt_3b067 6 = .ok (.aload_n 0, 1) := by decide +kernel
theorem dJ1_charAt_3b067_7 : decode cJ1_charAt_3b067 7 = .ok (.iload_n 1, 1) := by decide +kernel
theorem dJ1_charAt_3b067_8 : decode cJ1_charAt_3b067 8 = .ok (.baload, 1) := by decide +kernel
theorem dJ1_charAt_3b067_9 : decode cJ1_charAt_3b067 9 = .ok (.sipush 255, 3) := by decide +kernel
theorem dJ1_charAt_3b067_12 : decode cJ1_charAt_3b067 12 = .ok (.iand, 1) := by decide +kernel
theorem dJ1_charAt_3b067_13 : decode cJ1_charAt_3b067 13 = .ok (.i2c, 1) := by decide +kernel
theorem dJ1_charAt_3b067_14 : decode cJ1_charAt_3b067 14 = .ok (.ireturn, 1) := by decide +kernel
theorem dJ1_canEncode_9a6ad_0 : decode cJ1_canEncode_9a6ad 0 = .ok (.iload_n 0, 1) := by decide +kernel
theorem dJ1_canEncode_9a6ad_1 : decode cJ1_canEncode_9a6ad 1 = .ok (.ifCond .lt 14, 3) := by decide +kernel
theorem dJ1_canEncode_9a6ad_4 : decode cJ1_canEncode_9a6ad 4 = .ok (.iload_n 0, 1) := by decide +kernel
theorem dJ1_canEncode_9a6ad_5 : decode cJ1_canEncode_9a6ad 5 = .ok (.sipush 255, 3) := by decide +kernel
theorem dJ1_canEncode_9a6ad_8 : decode cJ1_canEncode_9a6ad 8 = .ok (.if_icmp .gt 7, 3) := by decide +kernel
theorem dJ1_canEncode_9a6ad_11 : decode cJ1_canEncode_9a6ad 11 = .ok (.iconst 1, 1) := by decide +kernel
theorem dJ1_canEncode_9a6ad_12 : decode cJ1_canEncode_9a6ad 12 = .ok (.goto 4, 3) := by decide +kernel
theorem dJ1_canEncode_9a6ad_15 : decode cJ1_canEncode_9a6ad 15 = .ok (.iconst 0, 1) := by decide +kernel
theorem dJ1_canEncode_9a6ad_16 : decode cJ1_canEncode_9a6ad 16 = .ok (.ireturn, 1) := by decide +kernel
theorem dJ1_indexOf_4cfef_0 : decode cJ1_indexOf_4cfef 0 = .ok (.iload_n 1, 1) := by decide +kernel
theorem dJ1_indexOf_4cfef_1 : decode cJ1_indexOf_4cfef 1 = .ok (.invokestatic 88, 3) := by decide +kernel
theorem dJ1_indexOf_4cfef_4 : decode cJ1_indexOf_4cfef 4 = .ok (.ifCond .ne 5, 3) := by decide +kernel
theorem dJ1_indexOf_4cfef_7 : decode cJ1_indexOf_4cfef 7 = .ok (.iconst (-1), 1) := by decide +kernel
theorem dJ1_indexOf_4cfef_8 : decode cJ1_indexOf_4cfef 8 = .ok (.ireturn, 1) := by decide +kernel
theorem dJ1_indexOf_4cfef_9 : decode cJ1_indexOf_4cfef 9 = .ok (.iload_n 2, 1) := by decide +kernel
theorem dJ1_indexOf_4cfef_10 : decode cJ1_indexOf_4cfef 10 = .ok (.iconst 0, 1) := by decide +kernel
theorem dJ1_indexOf_4cfef_11 : decode cJ1_indexOf_4cfef 11 = .ok (.invokestatic 92, 3) := by decide +kernel
theorem dJ1_indexOf_4cfef_14 : decode cJ1_indexOf_4cfef 14 = .ok (.istore_n 2, 1) := by decide +kernel
theorem dJ1_indexOf_4cfef_15 : decode cJ1_indexOf_4cfef 15 = .ok (.iload_n 3, 1) := by decide +kernel
theorem dJ1_indexOf_4cfef_16 : decode cJ1_indexOf_4cfef 16 = .ok (.aload_n 0, 1) := by decide +kernel
theorem dJ1_indexOf_4cfef_17 : decode cJ1_indexOf_4cfef 17 = .ok (.arraylength, 1) := by decide +kernel
theorem dJ1_indexOf_4cfef_18 : decode cJ1_indexOf_4cfef 18 = .ok (.invokestatic 38, 3) := by decide +kernel
theorem dJ1_indexOf_4cfef_21 : decode cJ1_indexOf_4cfef 21 = .ok (.istore_n 3, 1) := by decide +kernel
theorem dJ1_indexOf_4cfef_22 : decode cJ1_indexOf_4cfef 22 = .ok (.iload_n 2, 1) := by decide +kernel
theorem dJ1_indexOf_4cfef_23 : decode cJ1_indexOf_4cfef 23 = .ok (.iload_n 3, 1) := by decide +kernel
theorem dJ1_indexOf_4cfef_24 : decode cJ1_indexOf_4cfef 24 = .ok (.if_icmp .lt 5, 3) := by decide +kernel
theorem dJ1_indexOf_4cfef_27 : decode cJ1_indexOf_4cfef 27 = .ok (.iconst (-1), 1) := by decide +kernel
theorem dJ1_indexOf_4cfef_28 : decode cJ1_indexOf_4cfef 28 = .ok (.ireturn, 1) := by decide +kernel
theorem dJ1_indexOf_4cfef_29 : decode cJ1_indexOf_4cfef 29 = .ok (.aload_n 0, 1) := by decide +kernel
theorem dJ1_indexOf_4cfef_30 : decode cJ1_indexOf_4cfef 30 = .ok (.iload_n 1, 1) := by decide +kernel
theorem dJ1_indexOf_4cfef_31 : decode cJ1_indexOf_4cfef 31 = .ok (.iload_n 2, 1) := by decide +kernel
theorem dJ1_indexOf_4cfef_32 : decode cJ1_indexOf_4cfef 32 = .ok (.iload_n 3, 1) := by decide +kernel
theorem dJ1_indexOf_4cfef_33 : decode cJ1_indexOf_4cfef 33 = .ok (.invokestatic 95, 3) := by decide +kernel
theorem dJ1_indexOf_4cfef_36 : decode cJ1_indexOf_4cfef 36 = .ok (.ireturn, 1) := by decide +kernel
theorem dJ1_indexOfChar_4cfef_0 : decode cJ1_indexOfChar_4cfef 0 = .ok (.iload_n 1, 1) := by decide +kernel
theorem dJ1_indexOfChar_4cfef_1 : decode cJ1_indexOfChar_4cfef 1 = .ok (.i2b, 1) := by decide +kernel
theorem dJ1_indexOfChar_4cfef_2 : decode cJ1_indexOfChar_4cfef 2 = .ok (.istore 4, 2) := by decide +kernel
theorem dJ1_indexOfChar_4cfef_4 : decode cJ1_indexOfChar_4cfef 4 = .ok (.iload_n 2, 1) := by decide +kernel
theorem dJ1_indexOfChar_4cfef_5 : decode cJ1_indexOfChar_4cfef 5 = .ok (.istore 5, 2) := by decide +kernel
theorem dJ1_indexOfChar_4cfef_7 : decode cJ1_indexOfChar_4cfef 7 = .ok (.iload 5, 2) := by decide +kernel
theorem dJ1_indexOfChar_4cfef_9 : decode cJ1_indexOfChar_4cfef 9 = .ok (.iload_n 3, 1) := by decide +kernel
theorem dJ1_indexOfChar_4cfef_10 : decode cJ1_indexOfChar_4cfef 10 = .ok (.if_icmp .ge 21, 3) := by decide +kernel
theorem dJ1_indexOfChar_4cfef_13 : decode cJ1_indexOfChar_4cfef 13 = .ok (.aload_n 0, 1) := by decide +kernel
theorem dJ1_indexOfChar_4cfef_14 : decode cJ1_indexOfChar_4cfef 14 = .ok (.iload 5, 2) := by decide +kernel
theorem dJ1_indexOfChar_4cfef_16 : decode cJ1_indexOfChar_4cfef 16 = .ok (.baload, 1) := by decide +kernel
theorem dJ1_indexOfChar_4cfef_17 : decode cJ1_indexOfChar_4cfef 17 = .ok (.iload 4, 2) := by decide +kernel
theorem dJ1_indexOfChar_4cfef_19 : decode cJ1_indexOfChar_4cfef 19 = .ok (.if_icmp .ne 6, 3) := by decide +kernel
theorem dJ1_indexOfChar_4cfef_22 : decode cJ1_indexOfChar_4cfef 22 = .ok (.iload 5, 2) := by decide +kernel
theorem dJ1_indexOfChar_4cfef_24 : decode cJ1_indexOfChar_4cfef 24 = .ok (.ireturn, 1) := by decide +kernel
theorem dJ1_indexOfChar_4cfef_25 : decode cJ1_indexOfChar_4cfef 25 = .ok (.iinc 5 1, 3) := by decide +kernel
theorem dJ1_indexOfChar_4cfef_28 : decode cJ1_indexOfChar_4cfef 28 = .ok (.goto (-21), 3) := by decide +kernel
theorem dJ1_indexOfChar_4cfef_31 : decode cJ1_indexOfChar_4cfef 31 = .ok (.iconst (-1), 1) := by decide +kernel
theorem dJ1_indexOfChar_4cfef_32 : decode cJ1_indexOfChar_4cfef 32 = .ok (.ireturn, 1) := by decide +kernel
theorem dJ2_getChar_3b067_0 : decode cJ2_getChar_3b067 0 = .ok (.getstatic 44, 3) := by decide +kernel
theorem dJ2_getChar_3b067_3 : decode cJ2_getChar_3b067 3 = .ok (.ifCond .ne 25, 3) := by decide +kernel
theorem dJ2_getChar_3b067_6 : decode cJ2_getChar_3b067 6 = .ok (.iload_n 1, 1) := by decide +kernel
theorem dJ2_getChar_3b067_7 : decode cJ2_getChar_3b067 7 = .ok (.ifCond .lt 11, 3) := by decide +kernel
theorem dJ2_getChar_3b067_10 : decode cJ2_getChar_3b067 10 = .ok (.iload_n 1, 1) := by decide +kernel
theorem dJ2_getChar_3b067_11 : decode cJ2_getChar_3b067 11 = .ok (.aload_n 0, 1) := by decide +kernel
theorem dJ2_getChar_3b067_12 : decode cJ2_getChar_3b067 12 = .ok (.invokestatic 48, 3) := by decide +kernel
theorem dJ2_getChar_3b067_15 : decode cJ2_getChar_3b067 15 = .ok (.if_icmp .lt 13, 3) := by decide +kernel
theorem dJ2_getChar_3b067_18 : decode cJ2_getChar_3b067 18 = .ok (.new 52, 3) := by decide +kernel
theorem dJ2_getChar_3b067_21 : decode cJ2_getChar_3b067 21 = .ok (.dup, 1) := by decide +kernel
theorem dJ2_getChar_3b067_22 : decode cJ2_getChar_3b067 22 = .ok (.ldc 54, 2) := by decide +kernel
theorem dJ2_getChar_3b067_24 : decode cJ2_getChar_3b067 24 = .ok (.invokespecial 56, 3) := by decide +kernel
theorem dJ2_getChar_3b067_27 : decode cJ2_getChar_3b067 27 = .ok (.athrow, 1) := by decide +kernel
theorem dJ2_getChar_3b067_28 : decode cJ2_getChar_3b067 28 = .ok (.iload_n 1, 1) := by decide +kernel
theorem dJ2_getChar_3b067_29 : decode cJ2_getChar_3b067 29 = .ok (.iconst 1, 1) := by decide +kernel
theorem dJ2_getChar_3b067_30 : decode cJ2_getChar_3b067 30 = .ok (.ishl, 1) := by decide +kernel
theorem dJ2_getChar_3b067_31 : decode cJ2_getChar_3b067 31 = .ok (.istore_n 1, 1) := by decide +kernel
theorem dJ2_getChar_3b067_32 : decode cJ2_getChar_3b067 32 = .ok (.aload_n 0, 1) := by decide +kernel
theorem dJ2_getChar_3b067_33 : decode cJ2_getChar_3b067 33 = .ok (.iload_n 1, 1) := by decide +kernel
theorem dJ2_getChar_3b067_34 : decode cJ2_getChar_3b067 34 = .ok (.iinc 1 1, 3) := by decide +kernel
theorem dJ2_getChar_3b067_37 : decode cJ2_getChar_3b067 37 = .ok (.baload, 1) := by decide +kernel
theorem dJ2_getChar_3b067_38 : decode cJ2_getChar_3b067 38 = .ok (.sipush 255, 3) := by decide +kernel
theorem dJ2_getChar_3b067_41 : decode cJ2_getChar_3b067 41 = .ok (.iand, 1) := by decide +kernel
theorem dJ2_getChar_3b067_42 : decode cJ2_getChar_3b067 42 = .ok (.getstatic 59, 3) := by decide +kernel
theorem dJ2_getChar_3b067_45 : decode cJ2_getChar_3b067 45 = .ok (.ishl, 1) := by decide +kernel
theorem dJ2_getChar_3b067_46 : decode cJ2_getChar_3b067 46 = .ok (.aload_n 0, 1) := by decide +kernel
theorem dJ2_getChar_3b067_47 : decode cJ2_getChar_3b067 47 = .ok (.iload_n 1, 1) := by decide +kernel
theorem dJ2_getChar_3b067_48 : decode cJ2_getChar_3b067 48 = .ok (.baload, 1) := by decide +kernel
theorem dJ2_getChar_3b067_49 : decode cJ2_getChar_3b067 49 = .ok (.sipush 255, 3) := by decide +kernel
theorem dJ2_getChar_3b067_52 : decode cJ2_getChar_3b067 52 = .ok (.iand, 1) := by decide +kernel
theorem dJ2_getChar_3b067_53 : decode cJ2_getChar_3b067 53 = .ok (.getstatic 63, 3) := by decide +kernel
theorem dJ2_getChar_3b067_56 : decode cJ2_getChar_3b067 56 = .ok (.ishl, 1) := by decide +kernel
theorem dJ2_getChar_3b067_57 : decode cJ2_getChar_3b067 57 = .ok (.ior, 1) := by decide +kernel
theorem dJ2_getChar_3b067_58 : decode cJ2_getChar_3b067 58 = .ok (.i2c, 1) := by decide +kernel
theorem dJ2_getChar_3b067_59 : decode cJ2_getChar_3b067 59 = .ok (.ireturn, 1) := by decide +kernel
theorem dJ2_length_9d52b_0 : decode cJ2_length_9d52b 0 = .ok (.aload_n 0, 1) := by decide +kernel
theorem dJ2_length_9d52b_1 : decode cJ2_length_9d52b 1 = .ok (.arraylength, 1) := by decide +kernel
theorem dJ2_length_9d52b_2 : decode cJ2_length_9d52b 2 = .ok (.iconst 1, 1) := by decide +kernel
theorem dJ2_length_9d52b_3 : decode cJ2_length_9d52b 3 = .ok (.ishr, 1) := by decide +kernel
theorem dJ2_length_9d52b_4 : decode cJ2_length_9d52b 4 = .ok (.ireturn, 1) := by decide +kernel
theorem dJ2_indexOf_4cfef_0 : decode cJ2_indexOf_4cfef 0 = .ok (.iload_n 2, 1) := by decide +kernel
theorem dJ2_indexOf_4cfef_1 : decode cJ2_indexOf_4cfef 1 = .ok (.iconst 0, 1) := by decide +kernel
theorem dJ2_indexOf_4cfef_2 : decode cJ2_indexOf_4cfef 2 = .ok (.invokestatic 224, 3) := by decide +kernel
theorem dJ2_indexOf_4cfef_5 : decode cJ2_indexOf_4cfef 5 = .ok (.istore_n 2, 1) := by decide +kernel
theorem dJ2_indexOf_4cfef_6 : decode cJ2_indexOf_4cfef 6 = .ok (.iload_n 3, 1) := by decide +kernel
theorem dJ2_indexOf_4cfef_7 : decode cJ2_indexOf_4cfef 7 = .ok (.aload_n 0, 1) := by decide +kernel
theorem dJ2_indexOf_4cfef_8 : decode cJ2_indexOf_4cfef 8 = .ok (.arraylength, 1) := by decide +kernel
theorem dJ2_indexOf_4cfef_9 : decode cJ2_indexOf_4cfef 9 = .ok (.iconst 1, 1) := by decide +kernel
theorem dJ2_indexOf_4cfef_10 : decode cJ2_indexOf_4cfef 10 = .ok (.ishr, 1) := by decide +kernel
theorem dJ2_indexOf_4cfef_11 : decode cJ2_indexOf_4cfef 11 = .ok (.invokestatic 183, 3) := by decide +kernel
theorem dJ2_indexOf_4cfef_14 : decode cJ2_indexOf_4cfef 14 = .ok (.istore_n 3, 1) := by decide +kernel
theorem dJ2_indexOf_4cfef_15 : decode cJ2_indexOf_4cfef 15 = .ok (.iload_n 2, 1) := by decide +kernel
theorem dJ2_indexOf_4cfef_16 : decode cJ2_indexOf_4cfef 16 = .ok (.iload_n 3, 1) := by decide +kernel
theorem dJ2_indexOf_4cfef_17 : decode cJ2_indexOf_4cfef 17 = .ok (.if_icmp .lt 5, 3) := by decide +kernel
theorem dJ2_indexOf_4cfef_20 : decode cJ2_indexOf_4cfef 20 = .ok (.iconst (-1), 1) := by decide +kernel
theorem dJ2_indexOf_4cfef_21 : decode cJ2_indexOf_4cfef 21 = .ok (.ireturn, 1) := by decide +kernel
theorem dJ2_indexOf_4cfef_22 : decode cJ2_indexOf_4cfef 22 = .ok (.iload_n 1, 1) := by decide +kernel
theorem dJ2_indexOf_4cfef_23 : decode cJ2_indexOf_4cfef 23 = .ok (.ldc 227, 2) := by decide +kernel
theorem dJ2_indexOf_4cfef_25 : decode cJ2_indexOf_4cfef 25 = .ok (.if_icmp .ge 11, 3) := by decide +kernel
theorem dJ2_indexOf_4cfef_28 : decode cJ2_indexOf_4cfef 28 = .ok (.aload_n 0, 1) := by decide +kernel
theorem dJ2_indexOf_4cfef_29 : decode cJ2_indexOf_4cfef 29 = .ok (.iload_n 1, 1) := by decide +kernel
theorem dJ2_indexOf_4cfef_30 : decode cJ2_indexOf_4cfef 30 = .ok (.iload_n 2, 1) := by decide +kernel
theorem dJ2_indexOf_4cfef_31 : decode cJ2_indexOf_4cfef 31 = .ok (.iload_n 3, 1) := by decide +kernel
theorem dJ2_indexOf_4cfef_32 : decode cJ2_indexOf_4cfef 32 = .ok (.invokestatic 228, 3) := by decide +kernel
theorem dJ2_indexOf_4cfef_35 : decode cJ2_indexOf_4cfef 35 = .ok (.ireturn, 1) := by decide +kernel
theorem dJ2_indexOf_4cfef_36 : decode cJ2_indexOf_4cfef 36 = .ok (.aload_n 0, 1) := by decide +kernel
theorem dJ2_indexOf_4cfef_37 : decode cJ2_indexOf_4cfef 37 = .ok (.iload_n 1, 1) := by decide +kernel
theorem dJ2_indexOf_4cfef_38 : decode cJ2_indexOf_4cfef 38 = .ok (.iload_n 2, 1) := by decide +kernel
theorem dJ2_indexOf_4cfef_39 : decode cJ2_indexOf_4cfef 39 = .ok (.iload_n 3, 1) := by decide +kernel
theorem dJ2_indexOf_4cfef_40 : decode cJ2_indexOf_4cfef 40 = .ok (.invokestatic 232, 3) := by decide +kernel
theorem dJ2_indexOf_4cfef_43 : decode cJ2_indexOf_4cfef 43 = .ok (.ireturn, 1) := by decide +kernel
theorem dJ2_indexOfChar_4cfef_0 : decode cJ2_indexOfChar_4cfef 0 = .ok (.iload_n 2, 1) := by decide +kernel
theorem dJ2_indexOfChar_4cfef_1 : decode cJ2_indexOfChar_4cfef 1 = .ok (.iload_n 3, 1) := by decide +kernel
theorem dJ2_indexOfChar_4cfef_2 : decode cJ2_indexOfChar_4cfef 2 = .ok (.aload_n 0, 1) := by decide +kernel
theorem dJ2_indexOfChar_4cfef_3 : decode cJ2_indexOfChar_4cfef 3 = .ok (.invokestatic 96, 3) := by decide +kernel
theorem dJ2_indexOfChar_4cfef_6 : decode cJ2_indexOfChar_4cfef 6 = .ok (.aload_n 0, 1) := by decide +kernel
theorem dJ2_indexOfChar_4cfef_7 : decode cJ2_indexOfChar_4cfef 7 = .ok (.iload_n 1, 1) := by decide +kernel
theorem dJ2_indexOfChar_4cfef_8 : decode cJ2_indexOfChar_4cfef 8 = .ok (.iload_n 2, 1) := by decide +kernel
theorem dJ2_indexOfChar_4cfef_9 : decode cJ2_indexOfChar_4cfef 9 = .ok (.iload_n 3, 1) := by decide +kernel
theorem dJ2_indexOfChar_4cfef_10 : decode cJ2_indexOfChar_4cfef 10 = .ok (.invokestatic 244, 3) := by decide +kernel
theorem dJ2_indexOfChar_4cfef_13 : decode cJ2_indexOfChar_4cfef 13 = .ok (.ireturn, 1) := by decide +kernel
theorem dJ2_indexOfCharUnsafe_4cfef_0 : decode cJ2_indexOfCharUnsafe_4cfef 0 = .ok (.iload_n 2, 1) := by decide +kernel
theorem dJ2_indexOfCharUnsafe_4cfef_1 : decode cJ2_indexOfCharUnsafe_4cfef 1 = .ok (.istore 4, 2) := by decide +kernel
theorem dJ2_indexOfCharUnsafe_4cfef_3 : decode cJ2_indexOfCharUnsafe_4cfef 3 = .ok (.iload 4, 2) := by decide +kernel
theorem dJ2_indexOfCharUnsafe_4cfef_5 : decode cJ2_indexOfCharUnsafe_4cfef 5 = .ok (.iload_n 3, 1) := by decide +kernel
theorem dJ2_indexOfCharUnsafe_4cfef_6 : decode cJ2_indexOfCharUnsafe_4cfef 6 = .ok (.if_icmp .ge 22, 3) := by decide +kernel
theorem dJ2_indexOfCharUnsafe_4cfef_9 : decode cJ2_indexOfCharUnsafe_4cfef 9 = .ok (.aload_n 0, 1) := by decide +kernel
theorem dJ2_indexOfCharUnsafe_4cfef_10 : decode cJ2_indexOfCharUnsafe_4cfef 10 = .ok (.iload 4, 2) := by decide +kernel
theorem dJ2_indexOfCharUnsafe_4cfef_12 : decode cJ2_indexOfCharUnsafe_4cfef 12 = .ok (.invokestatic 71, 3) := by decide +kernel
theorem dJ2_indexOfCharUnsafe_4cfef_15 : decode cJ2_indexOfCharUnsafe_4cfef 15 = .ok (.iload_n 1, 1) := by decide +kernel
theorem dJ2_indexOfCharUnsafe_4cfef_16 : decode cJ2_indexOfCharUnsafe_4cfef 16 = .ok (.if_icmp .ne 6, 3) := by decide +kernel
theorem dJ2_indexOfCharUnsafe_4cfef_19 : decode cJ2_indexOfCharUnsafe_4cfef 19 = .ok (.iload 4, 2) := by decide +kernel
theorem dJ2_indexOfCharUnsafe_4cfef_21 : decode cJ2_indexOfCharUnsafe_4cfef 21 = .ok (.ireturn, 1) := by decide +kernel
theorem dJ2_indexOfCharUnsafe_4cfef_22 : decode cJ2_indexOfCharUnsafe_4cfef 22 = .ok (.iinc 4 1, 3) := by decide +kernel
theorem dJ2_indexOfCharUnsafe_4cfef_25 : decode cJ2_indexOfCharUnsafe_4cfef 25 = .ok (.goto (-22), 3) := by decide +kernel
theorem dJ2_indexOfCharUnsafe_4cfef_28 : decode cJ2_indexOfCharUnsafe_4cfef 28 = .ok (.iconst (-1), 1) := by decide +kernel
theorem dJ2_indexOfCharUnsafe_4cfef_29 : decode cJ2_indexOfCharUnsafe_4cfef 29 = .ok (.ireturn, 1) := by decide +kernel
theorem dJ2_indexOfSupplementary_4cfef_0 : decode cJ2_indexOfSupplementary_4cfef 0 = .ok (.iload_n 1, 1) := by decide +kernel
theorem dJ2_indexOfSupplementary_4cfef_1 : decode cJ2_indexOfSupplementary_4cfef 1 = .ok (.invokestatic 164, 3) := by decide +kernel
theorem dJ2_indexOfSupplementary_4cfef_4 : decode cJ2_indexOfSupplementary_4cfef 4 = .ok (.ifCond .eq 65, 3) := by decide +kernel
theorem dJ2_indexOfSupplementary_4cfef_7 : decode cJ2_indexOfSupplementary_4cfef 7 = .ok (.iload_n 1, 1) := by decide +kernel
theorem dJ2_indexOfSupplementary_4cfef_8 : decode cJ2_indexOfSupplementary_4cfef 8 = .ok (.invokestatic 157, 3) := by decide +kernel
theorem dJ2_indexOfSupplementary_4cfef_11 : decode cJ2_indexOfSupplementary_4cfef 11 = .ok (.istore 4, 2) := by decide +kernel
theorem dJ2_indexOfSupplementary_4cfef_13 : decode cJ2_indexOfSupplementary_4cfef 13 = .ok (.iload_n 1, 1) := by decide +kernel
theorem dJ2_indexOfSupplementary_4cfef_14 : decode cJ2_indexOfSupplementary_4cfef 14 = .ok (.invokestatic 161, 3) := by decide +kernel
theorem dJ2_indexOfSupplementary_4cfef_17 : decode cJ2_indexOfSupplementary_4cfef 17 = .ok (.istore 5, 2) := by decide +kernel
theorem dJ2_indexOfSupplementary_4cfef_19 : decode cJ2_indexOfSupplementary_4cfef 19 = .ok (.iload_n 2, 1) := by decide +kernel
theorem dJ2_indexOfSupplementary_4cfef_20 : decode cJ2_indexOfSupplementary_4cfef 20 = .ok (.iload_n 3, 1) := by decide +kernel
theorem dJ2_indexOfSupplementary_4cfef_21 : decode cJ2_indexOfSupplementary_4cfef 21 = .ok (.aload_n 0, 1) := by decide +kernel
theorem dJ2_indexOfSupplementary_4cfef_22 : decode cJ2_indexOfSupplementary_4cfef 22 = .ok (.invokestatic 96, 3) := by decide +kernel
theorem dJ2_indexOfSupplementary_4cfef_25 : decode cJ2_indexOfSupplementary_4cfef 25 = .ok (.iload_n 2, 1) := by decide +kernel
theorem dJ2_indexOfSupplementary_4cfef_26 : decode cJ2_indexOfSupplementary_4cfef 26 = .ok (.istore 6, 2) := by decide +kernel
theorem dJ2_indexOfSupplementary_4cfef_28 : decode cJ2_indexOfSupplementary_4cfef 28 = .ok (.iload 6, 2) := by decide +kernel
theorem dJ2_indexOfSupplementary_4cfef_30 : decode cJ2_indexOfSupplementary_4cfef 30 = .ok (.iload_n 3, 1) := by decide +kernel
theorem dJ2_indexOfSupplementary_4cfef_31 : decode cJ2_indexOfSupplementary_4cfef 31 = .ok (.iconst 1, 1) := by decide +kernel
theorem dJ2_indexOfSupplementary_4cfef_32 : decode cJ2_indexOfSupplementary_4cfef 32 = .ok (.isub, 1) := by decide +kernel
theorem dJ2_indexOfSupplementary_4cfef_33 : decode cJ2_indexOfSupplementary_4cfef 33 = .ok (.if_icmp .ge 36, 3) := by decide +kernel
theorem dJ2_indexOfSupplementary_4cfef_36 : decode cJ2_indexOfSupplementary_4cfef 36 = .ok (.aload_n 0, 1) := by decide +kernel
theorem dJ2_indexOfSupplementary_4cfef_37 : decode cJ2_indexOfSupplementary_4cfef 37 = .ok (.iload 6, 2) := by decide +kernel
theorem dJ2_indexOfSupplementary_4cfef_39 : decode cJ2_indexOfSupplementary_4cfef 39 = .ok (.invokestatic 71, 3) := by decide +kernel
theorem dJ2_indexOfSupplementary_4cfef_42 : decode cJ2_indexOfSupplementary_4cfef 42 = .ok (.iload 4, 2) := by decide +kernel
theorem dJ2_indexOfSupplementary_4cfef_44 : decode cJ2_indexOfSupplementary_4cfef 44 = .ok (.if_icmp .ne 19, 3) := by decide +kernel
theorem dJ2_indexOfSupplementary_4cfef_47 : decode cJ2_indexOfSupplementary_4cfef 47 = .ok (.aload_n 0, 1) := by decide +kernel
theorem dJ2_indexOfSupplementary_4cfef_48 : decode cJ2_indexOfSupplementary_4cfef 48 = .ok (.iload 6, 2) := by decide +kernel
theorem dJ2_indexOfSupplementary_4cfef_50 : decode cJ2_indexOfSupplementary_4cfef 50 = .ok (.iconst 1, 1) := by decide +kernel
theorem dJ2_indexOfSupplementary_4cfef_51 : decode cJ2_indexOfSupplementary_4cfef 51 = .ok (.iadd, 1) := by decide +kernel
theorem dJ2_indexOfSupplementary_4cfef_52 : decode cJ2_indexOfSupplementary_4cfef 52 = .ok (.invokestatic 71, 3) := by decide +kernel
theorem dJ2_indexOfSupplementary_4cfef_55 : decode cJ2_indexOfSupplementary_4cfef 55 = .ok (.iload 5, 2) := by decide +kernel
theorem dJ2_indexOfSupplementary_4cfef_57 : decode cJ2_indexOfSupplementary_4cfef 57 = .ok (.if_icmp .ne 6, 3) := by decide +kernel
theorem dJ2_indexOfSupplementary_4cfef_60 : decode cJ2_indexOfSupplementary_4cfef 60 = .ok (.iload 6, 2) := by decide +kernel
theorem dJ2_indexOfSupplementary_4cfef_62 : decode cJ2_indexOfSupplementary_4cfef 62 = .ok (.ireturn, 1) := by decide +kernel
theorem dJ2_indexOfSupplementary_4cfef_63 : decode cJ2_indexOfSupplementary_4cfef 63 = .ok (.iinc 6 1, 3) := by decide +kernel
theorem dJ2_indexOfSupplementary_4cfef_66 : decode cJ2_indexOfSupplementary_4cfef 66 = .ok (.goto (-38), 3) := by decide +kernel
theorem dJ2_indexOfSupplementary_4cfef_69 : decode cJ2_indexOfSupplementary_4cfef 69 = .ok (.iconst (-1), 1) := by decide +kernel
theorem dJ2_indexOfSupplementary_4cfef_70 : decode cJ2_indexOfSupplementary_4cfef 70 = .ok (.ireturn, 1) := by decide +kernel
theorem dJ2_charAt_3b067_0 : decode cJ2_charAt_3b067 0 = .ok (.iload_n 1, 1) := by decide +kernel
theorem dJ2_charAt_3b067_1 : decode cJ2_charAt_3b067 1 = .ok (.aload_n 0, 1) := by decide +kernel
theorem dJ2_charAt_3b067_2 : decode cJ2_charAt_3b067 2 = .ok (.invokestatic 67, 3) := by decide +kernel
theorem dJ2_charAt_3b067_5 : decode cJ2_charAt_3b067 5 = .ok (.aload_n 0, 1) := by decide +kernel
theorem dJ2_charAt_3b067_6 : decode cJ2_charAt_3b067 6 = .ok (.iload_n 1, 1) := by decide +kernel
theorem dJ2_charAt_3b067_7 : decode cJ2_charAt_3b067 7 = .ok (.invokestatic 71, 3) := by decide +kernel
theorem dJ2_charAt_3b067_10 : decode cJ2_charAt_3b067 10 = .ok (.ireturn, 1) := by decide +kernel
theorem dJ2_checkIndex_2214a_0 : decode cJ2_checkIndex_2214a 0 = .ok (.iload_n 0, 1) := by decide +kernel
theorem dJ2_checkIndex_2214a_1 : decode cJ2_checkIndex_2214a 1 = .ok (.aload_n 1, 1) := by decide +kernel
theorem dJ2_checkIndex_2214a_2 : decode cJ2_checkIndex_2214a 2 = .ok (.invokestatic 48, 3) := by decide +kernel
theorem dJ2_checkIndex_2214a_5 : decode cJ2_checkIndex_2214a 5 = .ok (.invokestatic 414, 3) := by decide +kernel
theorem dJ2_checkIndex_2214a_8 : decode cJ2_checkIndex_2214a 8 = .ok (.return_, 1) := by decide +kernel
theorem dJ2_checkBoundsBeginEnd_d044e_0 : decode cJ2_checkBoundsBeginEnd_d044e 0 = .ok (.iload_n 0, 1) := by decide +kernel
theorem dJ2_checkBoundsBeginEnd_d044e_1 : decode cJ2_checkBoundsBeginEnd_d044e 1 = .ok (.iload_n 1, 1) := by decide +kernel
theorem dJ2_checkBoundsBeginEnd_d044e_2 : decode cJ2_checkBoundsBeginEnd_d044e 2 = .ok (.aload_n 2, 1) := by decide +kernel
theorem dJ2_checkBoundsBeginEnd_d044e_3 : decode cJ2_checkBoundsBeginEnd_d044e 3 = .ok (.invokestatic 48, 3) := by decide +kernel
theorem dJ2_checkBoundsBeginEnd_d044e_6 : decode cJ2_checkBoundsBeginEnd_d044e 6 = .ok (.invokestatic 241, 3) := by decide +kernel
theorem dJ2_checkBoundsBeginEnd_d044e_9 : decode cJ2_checkBoundsBeginEnd_d044e 9 = .ok (.return_, 1) := by decide +kernel
theorem dJ3_checkIndex_8e157_0 : decode cJ3_checkIndex_8e157 0 = .ok (.iload_n 0, 1) := by decide +kernel
theorem dJ3_checkIndex_8e157_1 : decode cJ3_checkIndex_8e157 1 = .ok (.ifCond .lt 8, 3) := by decide +kernel
theorem dJ3_checkIndex_8e157_4 : decode cJ3_checkIndex_8e157 4 = .ok (.iload_n 0, 1) := by decide +kernel
theorem dJ3_checkIndex_8e157_5 : decode cJ3_checkIndex_8e157 5 = .ok (.iload_n 1, 1) := by decide +kernel
theorem dJ3_checkIndex_8e157_6 : decode cJ3_checkIndex_8e157 6 = .ok (.if_icmp .lt 10, 3) := by decide +kernel
theorem dJ3_checkIndex_8e157_9 : decode cJ3_checkIndex_8e157 9 = .ok (.aload_n 2, 1) := by decide +kernel
theorem dJ3_checkIndex_8e157_10 : decode cJ3_checkIndex_8e157 10 = .ok (.iload_n 0, 1) := by decide +kernel
theorem dJ3_checkIndex_8e157_11 : decode cJ3_checkIndex_8e157 11 = .ok (.iload_n 1, 1) := by decide +kernel
theorem dJ3_checkIndex_8e157_12 : decode cJ3_checkIndex_8e157 12 = .ok (.invokestatic 95, 3) := by decide +kernel
theorem dJ3_checkIndex_8e157_15 : decode cJ3_checkIndex_8e157 15 = .ok (.athrow, 1) := by decide +kernel
theorem dJ3_checkIndex_8e157_16 : decode cJ3_checkIndex_8e157 16 = .ok (.iload_n 0, 1) := by decide +kernel
theorem dJ3_checkIndex_8e157_17 : decode cJ3_checkIndex_8e157 17 = .ok (.ireturn, 1) := by decide +kernel
theorem dJ3_checkFromToIndex_8c36e_0 : decode cJ3_checkFromToIndex_8c36e 0 = .ok (.iload_n 0, 1) := by decide +kernel
theorem dJ3_checkFromToIndex_8c36e_1 : decode cJ3_checkFromToIndex_8c36e 1 = .ok (.ifCond .lt 13, 3) := by decide +kernel
theorem dJ3_checkFromToIndex_8c36e_4 : decode cJ3_checkFromToIndex_8c36e 4 = .ok (.iload_n 0, 1) := by decide +kernel
theorem dJ3_checkFromToIndex_8c36e_5 : decode cJ3_checkFromToIndex_8c36e 5 = .ok (.iload_n 1, 1) := by decide +kernel
theorem dJ3_checkFromToIndex_8c36e_6 : decode cJ3_checkFromToIndex_8c36e 6 = .ok (.if_icmp .gt 8, 3) := by decide +kernel
theorem dJ3_checkFromToIndex_8c36e_9 : decode cJ3_checkFromToIndex_8c36e 9 = .ok (.iload_n 1, 1) := by decide +kernel
theorem dJ3_checkFromToIndex_8c36e_10 : decode cJ3_checkFromToIndex_8c36e 10 = .ok (.iload_n 2, 1) := by decide +kernel
theorem dJ3_checkFromToIndex_8c36e_11 : decode cJ3_checkFromToIndex_8c36e 11 = .ok (.if_icmp .le 11, 3) := by decide +kernel
theorem dJ3_checkFromToIndex_8c36e_14 : decode cJ3_checkFromToIndex_8c36e 14 = .ok (.aload_n 3, 1) := by decide +kernel
theorem dJ3_checkFromToIndex_8c36e_15 : decode cJ3_checkFromToIndex_8c36e 15 = .ok (.iload_n 0, 1) := by decide +kernel
theorem dJ3_checkFromToIndex_8c36e_16 : decode cJ3_checkFromToIndex_8c36e 16 = .ok (.iload_n 1, 1) := by decide +kernel
theorem dJ3_checkFromToIndex_8c36e_17 : decode cJ3_checkFromToIndex_8c36e 17 = .ok (.iload_n 2, 1) := by decide +kernel
theorem dJ3_checkFromToIndex_8c36e_18 : decode cJ3_checkFromToIndex_8c36e 18 = .ok (.invokestatic 99, 3) := by decide +kernel
theorem dJ3_checkFromToIndex_8c36e_21 : decode cJ3_checkFromToIndex_8c36e 21 = .ok (.athrow, 1) := by decide +kernel
theorem dJ3_checkFromToIndex_8c36e_22 : decode cJ3_checkFromToIndex_8c36e 22 = .ok (.iload_n 0, 1) := by decide +kernel
theorem dJ3_checkFromToIndex_8c36e_23 : decode cJ3_checkFromToIndex_8c36e 23 = .ok (.ireturn, 1) := by decide +kernel
theorem dL_law_0 : decode cL_law 0 = .ok (.new 7, 3) := by decide +kernel
theorem dL_law_3 : decode cL_law 3 = .ok (.dup, 1) := by decide +kernel
theorem dL_law_4 : decode cL_law 4 = .ok (.invokespecial 9, 3) := by decide +kernel
theorem dL_law_7 : decode cL_law 7 = .ok (.astore_n 1, 1) := by decide +kernel
theorem dL_law_8 : decode cL_law 8 = .ok (.new 10, 3) := by decide +kernel
theorem dL_law_11 : decode cL_law 11 = .ok (.dup, 1) := by decide +kernel
theorem dL_law_12 : decode cL_law 12 = .ok (.invokespecial 12, 3) := by decide +kernel
theorem dL_law_15 : decode cL_law 15 = .ok (.astore_n 2, 1) := by decide +kernel
theorem dL_law_16 : decode cL_law 16 = .ok (.iconst 0, 1) := by decide +kernel
theorem dL_law_17 : decode cL_law 17 = .ok (.istore_n 3, 1) := by decide +kernel
theorem dL_law_18 : decode cL_law 18 = .ok (.iload_n 3, 1) := by decide +kernel
theorem dL_law_19 : decode cL_law 19 = .ok (.aload_n 0, 1) := by decide +kernel
theorem dL_law_20 : decode cL_law 20 = .ok (.arraylength, 1) := by decide +kernel
theorem dL_law_21 : decode cL_law 21 = .ok (.iconst 4, 1) := by decide +kernel
theorem dL_law_22 : decode cL_law 22 = .ok (.isub, 1) := by decide +kernel
theorem dL_law_23 : decode cL_law 23 = .ok (.if_icmp .gt 723, 3) := by decide +kernel
theorem dL_law_26 : decode cL_law 26 = .ok (.aload_n 0, 1) := by decide +kernel
theorem dL_law_27 : decode cL_law 27 = .ok (.iload_n 3, 1) := by decide +kernel
theorem dL_law_28 : decode cL_law 28 = .ok (.iaload, 1) := by decide +kernel
theorem dL_law_29 : decode cL_law 29 = .ok (.bipush 31, 2) := by decide +kernel
theorem dL_law_31 : decode cL_law 31 = .ok (.iand, 1) := by decide +kernel
theorem dL_law_32 : decode cL_law 32 = .ok (.tableswitch 708 0 21 #[104, 163, 206, 239, 282, 295, 320, 333, 346, 359, 372, 385, 398, 431, 464, 487, 530, 553, 616, 639, 672, 695], 104) := by decide +kernel
theorem dL_law_136 : decode cL_law 136 = .ok (.aload_n 1, 1) := by decide +kernel
theorem dL_law_137 : decode cL_law 137 = .ok (.aload_n 0, 1) := by decide +kernel
theorem dL_law_138 : decode cL_law 138 = .ok (.iload_n 3, 1) := by decide +kernel
theorem dL_law_139 : decode cL_law 139 = .ok (.iconst 1, 1) := by decide +kernel
theorem dL_law_140 : decode cL_law 140 = .ok (.iadd, 1) := by decide +kernel
theorem dL_law_141 : decode cL_law 141 = .ok (.iaload, 1) := by decide +kernel
theorem dL_law_142 : decode cL_law 142 = .ok (.aload_n 0, 1) := by decide +kernel
theorem dL_law_143 : decode cL_law 143 = .ok (.iload_n 3, 1) := by decide +kernel
theorem dL_law_144 : decode cL_law 144 = .ok (.iconst 2, 1) := by decide +kernel
theorem dL_law_145 : decode cL_law 145 = .ok (.iadd, 1) := by decide +kernel
theorem dL_law_146 : decode cL_law 146 = .ok (.iaload, 1) := by decide +kernel
theorem dL_law_147 : decode cL_law 147 = .ok (.aload_n 0, 1) := by decide +kernel
theorem dL_law_148 : decode cL_law 148 = .ok (.iload_n 3, 1) := by decide +kernel
theorem dL_law_149 : decode cL_law 149 = .ok (.iconst 3, 1) := by decide +kernel
theorem dL_law_150 : decode cL_law 150 = .ok (.iadd, 1) := by decide +kernel
theorem dL_law_151 : decode cL_law 151 = .ok (.iaload, 1) := by decide +kernel
theorem dL_law_152 : decode cL_law 152 = .ok (.ifCond .eq 7, 3) := by decide +kernel
theorem dL_law_155 : decode cL_law 155 = .ok (.iconst 1, 1) := by decide +kernel
theorem dL_law_156 : decode cL_law 156 = .ok (.goto 4, 3) := by decide +kernel
theorem dL_law_159 : decode cL_law 159 = .ok (.iconst 0, 1) := by decide +kernel
theorem dL_law_160 : decode cL_law 160 = .ok (.invokevirtual 13, 3) := by decide +kernel
theorem dL_law_163 : decode cL_law 163 = .ok (.aload_n 2, 1) := by decide +kernel
theorem dL_law_164 : decode cL_law 164 = .ok (.aload_n 0, 1) := by decide +kernel
theorem dL_law_165 : decode cL_law 165 = .ok (.iload_n 3, 1) := by decide +kernel
theorem dL_law_166 : decode cL_law 166 = .ok (.iconst 1, 1) := by decide +kernel
theorem dL_law_167 : decode cL_law 167 = .ok (.iadd, 1) := by decide +kernel
theorem dL_law_168 : decode cL_law 168 = .ok (.iaload, 1) := by decide +kernel
theorem dL_law_169 : decode cL_law 169 = .ok (.aload_n 0, 1) := by decide +kernel
theorem dL_law_170 : decode cL_law 170 = .ok (.iload_n 3, 1) := by decide +kernel
theorem dL_law_171 : decode cL_law 171 = .ok (.iconst 2, 1) := by decide +kernel
theorem dL_law_172 : decode cL_law 172 = .ok (.iadd, 1) := by decide +kernel
theorem dL_law_173 : decode cL_law 173 = .ok (.iaload, 1) := by decide +kernel
theorem dL_law_174 : decode cL_law 174 = .ok (.aload_n 0, 1) := by decide +kernel
theorem dL_law_175 : decode cL_law 175 = .ok (.iload_n 3, 1) := by decide +kernel
theorem dL_law_176 : decode cL_law 176 = .ok (.iconst 3, 1) := by decide +kernel
theorem dL_law_177 : decode cL_law 177 = .ok (.iadd, 1) := by decide +kernel
theorem dL_law_178 : decode cL_law 178 = .ok (.iaload, 1) := by decide +kernel
theorem dL_law_179 : decode cL_law 179 = .ok (.ifCond .eq 7, 3) := by decide +kernel
theorem dL_law_182 : decode cL_law 182 = .ok (.iconst 1, 1) := by decide +kernel
theorem dL_law_183 : decode cL_law 183 = .ok (.goto 4, 3) := by decide +kernel
theorem dL_law_186 : decode cL_law 186 = .ok (.iconst 0, 1) := by decide +kernel
theorem dL_law_187 : decode cL_law 187 = .ok (.invokevirtual 17, 3) := by decide +kernel
theorem dL_law_190 : decode cL_law 190 = .ok (.if_icmp .eq 550, 3) := by decide +kernel
theorem dL_law_193 : decode cL_law 193 = .ok (.iconst 0, 1) := by decide +kernel
theorem dL_law_194 : decode cL_law 194 = .ok (.ireturn, 1) := by decide +kernel
theorem dL_law_195 : decode cL_law 195 = .ok (.aload_n 1, 1) := by decide +kernel
theorem dL_law_196 : decode cL_law 196 = .ok (.aload_n 0, 1) := by decide +kernel
theorem dL_law_197 : decode cL_law 197 = .ok (.iload_n 3, 1) := by decide +kernel
theorem dL_law_198 : decode cL_law 198 = .ok (.iconst 1, 1) := by decide +kernel
theorem dL_law_199 : decode cL_law 199 = .ok (.iadd, 1) := by decide +kernel
theorem dL_law_200 : decode cL_law 200 = .ok (.iaload, 1) := by decide +kernel
theorem dL_law_201 : decode cL_law 201 = .ok (.aload_n 0, 1) := by decide +kernel
theorem dL_law_202 : decode cL_law 202 = .ok (.iload_n 3, 1) := by decide +kernel
theorem dL_law_203 : decode cL_law 203 = .ok (.iconst 2, 1) := by decide +kernel
theorem dL_law_204 : decode cL_law 204 = .ok (.iadd, 1) := by decide +kernel
theorem dL_law_205 : decode cL_law 205 = .ok (.iaload, 1) := by decide +kernel
theorem dL_law_206 : decode cL_law 206 = .ok (.aload_n 0, 1) := by decide +kernel
theorem dL_law_207 : decode cL_law 207 = .ok (.iload_n 3, 1) := by decide +kernel
theorem dL_law_208 : decode cL_law 208 = .ok (.iconst 3, 1) := by decide +kernel
theorem dL_law_209 : decode cL_law 209 = .ok (.iadd, 1) := by decide +kernel
theorem dL_law_210 : decode cL_law 210 = .ok (.iaload, 1) := by decide +kernel
theorem dL_law_211 : decode cL_law 211 = .ok (.invokevirtual 18, 3) := by decide +kernel
theorem dL_law_214 : decode cL_law 214 = .ok (.aload_n 2, 1) := by decide +kernel
theorem dL_law_215 : decode cL_law 215 = .ok (.aload_n 0, 1) := by decide +kernel
theorem dL_law_216 : decode cL_law 216 = .ok (.iload_n 3, 1) := by decide +kernel
theorem dL_law_217 : decode cL_law 217 = .ok (.iconst 1, 1) := by decide +kernel
theorem dL_law_218 : decode cL_law 218 = .ok (.iadd, 1) := by decide +kernel
theorem dL_law_219 : decode cL_law 219 = .ok (.iaload, 1) := by decide +kernel
theorem dL_law_220 : decode cL_law 220 = .ok (.aload_n 0, 1) := by decide +kernel
theorem dL_law_221 : decode cL_law 221 = .ok (.iload_n 3, 1) := by decide +kernel
theorem dL_law_222 : decode cL_law 222 = .ok (.iconst 2, 1) := by decide +kernel
theorem dL_law_223 : decode cL_law 223 = .ok (.iadd, 1) := by decide +kernel
theorem dL_law_224 : decode cL_law 224 = .ok (.iaload, 1) := by decide +kernel
theorem dL_law_225 : decode cL_law 225 = .ok (.aload_n 0, 1) := by decide +kernel
theorem dL_law_226 : decode cL_law 226 = .ok (.iload_n 3, 1) := by decide +kernel
theorem dL_law_227 : decode cL_law 227 = .ok (.iconst 3, 1) := by decide +kernel
theorem dL_law_228 : decode cL_law 228 = .ok (.iadd, 1) := by decide +kernel
theorem dL_law_229 : decode cL_law 229 = .ok (.iaload, 1) := by decide +kernel
theorem dL_law_230 : decode cL_law 230 = .ok (.invokevirtual 22, 3) := by decide +kernel
theorem dL_law_233 : decode cL_law 233 = .ok (.if_icmp .eq 507, 3) := by decide +kernel
theorem dL_law_236 : decode cL_law 236 = .ok (.iconst 0, 1) := by decide +kernel
theorem dL_law_237 : decode cL_law 237 = .ok (.ireturn, 1) := by decide +kernel
theorem dL_law_238 : decode cL_law 238 = .ok (.aload_n 1, 1) := by decide +kernel
theorem dL_law_239 : decode cL_law 239 = .ok (.aload_n 0, 1) := by decide +kernel
theorem dL_law_240 : decode cL_law 240 = .ok (.iload_n 3, 1) := by decide +kernel
theorem dL_law_241 : decode cL_law 241 = .ok (.iconst 1, 1) := by decide +kernel
theorem dL_law_242 : decode cL_law 242 = .ok (.iadd, 1) := by decide +kernel
theorem dL_law_243 : decode cL_law 243 = .ok (.iaload, 1) := by decide +kernel
theorem dL_law_244 : decode cL_law 244 = .ok (.aload_n 0, 1) := by decide +kernel
theorem dL_law_245 : decode cL_law 245 = .ok (.iload_n 3, 1) := by decide +kernel
theorem dL_law_246 : decode cL_law 246 = .ok (.iconst 2, 1) := by decide +kernel
theorem dL_law_247 : decode cL_law 247 = .ok (.iadd, 1) := by decide +kernel
theorem dL_law_248 : decode cL_law 248 = .ok (.iaload, 1) := by decide +kernel
theorem dL_law_249 : decode cL_law 249 = .ok (.invokevirtual 23, 3) := by decide +kernel
theorem dL_law_252 : decode cL_law 252 = .ok (.aload_n 2, 1) := by decide +kernel
theorem dL_law_253 : decode cL_law 253 = .ok (.aload_n 0, 1) := by decide +kernel
theorem dL_law_254 : decode cL_law 254 = .ok (.iload_n 3, 1) := by decide +kernel
theorem dL_law_255 : decode cL_law 255 = .ok (.iconst 1, 1) := by decide +kernel
theorem dL_law_256 : decode cL_law 256 = .ok (.iadd, 1) := by decide +kernel
theorem dL_law_257 : decode cL_law 257 = .ok (.iaload, 1) := by decide +kernel
theorem dL_law_258 : decode cL_law 258 = .ok (.aload_n 0, 1) := by decide +kernel
theorem dL_law_259 : decode cL_law 259 = .ok (.iload_n 3, 1) := by decide +kernel
theorem dL_law_260 : decode cL_law 260 = .ok (.iconst 2, 1) := by decide +kernel
theorem dL_law_261 : decode cL_law 261 = .ok (.iadd, 1) := by decide +kernel
theorem dL_law_262 : decode cL_law 262 = .ok (.iaload, 1) := by decide +kernel
theorem dL_law_263 : decode cL_law 263 = .ok (.invokevirtual 27, 3) := by decide +kernel
theorem dL_law_266 : decode cL_law 266 = .ok (.if_icmp .eq 474, 3) := by decide +kernel
theorem dL_law_269 : decode cL_law 269 = .ok (.iconst 0, 1) := by decide +kernel
theorem dL_law_270 : decode cL_law 270 = .ok (.ireturn, 1) := by decide +kernel
theorem dL_law_271 : decode cL_law 271 = .ok (.aload_n 1, 1) := by decide +kernel
theorem dL_law_272 : decode cL_law 272 = .ok (.aload_n 0, 1) := by decide +kernel
theorem dL_law_273 : decode cL_law 273 = .ok (.iload_n 3, 1) := by decide +kernel
theorem dL_law_274 : decode cL_law 274 = .ok (.iconst 1, 1) := by decide +kernel
theorem dL_law_275 : decode cL_law 275 = .ok (.iadd, 1) := by decide +kernel
theorem dL_law_276 : decode cL_law 276 = .ok (.iaload, 1) := by decide +kernel
theorem dL_law_277 : decode cL_law 277 = .ok (.aload_n 0, 1) := by decide +kernel
theorem dL_law_278 : decode cL_law 278 = .ok (.iload_n 3, 1) := by decide +kernel
theorem dL_law_279 : decode cL_law 279 = .ok (.iconst 2, 1) := by decide +kernel
theorem dL_law_280 : decode cL_law 280 = .ok (.iadd, 1) := by decide +kernel
theorem dL_law_281 : decode cL_law 281 = .ok (.iaload, 1) := by decide +kernel
theorem dL_law_282 : decode cL_law 282 = .ok (.aload_n 0, 1) := by decide +kernel
theorem dL_law_283 : decode cL_law 283 = .ok (.iload_n 3, 1) := by decide +kernel
theorem dL_law_284 : decode cL_law 284 = .ok (.iconst 3, 1) := by decide +kernel
theorem dL_law_285 : decode cL_law 285 = .ok (.iadd, 1) := by decide +kernel
theorem dL_law_286 : decode cL_law 286 = .ok (.iaload, 1) := by decide +kernel
theorem dL_law_287 : decode cL_law 287 = .ok (.invokevirtual 28, 3) := by decide +kernel
theorem dL_law_290 : decode cL_law 290 = .ok (.aload_n 2, 1) := by decide +kernel
theorem dL_law_291 : decode cL_law 291 = .ok (.aload_n 0, 1) := by decide +kernel
theorem dL_law_292 : decode cL_law 292 = .ok (.iload_n 3, 1) := by decide +kernel
theorem dL_law_293 : decode cL_law 293 = .ok (.iconst 1, 1) := by decide +kernel
theorem dL_law_294 : decode cL_law 294 = .ok (.iadd, 1) := by decide +kernel
theorem dL_law_295 : decode cL_law 295 = .ok (.iaload, 1) := by decide +kernel
theorem dL_law_296 : decode cL_law 296 = .ok (.aload_n 0, 1) := by decide +kernel
theorem dL_law_297 : decode cL_law 297 = .ok (.iload_n 3, 1) := by decide +kernel
theorem dL_law_298 : decode cL_law 298 = .ok (.iconst 2, 1) := by decide +kernel
theorem dL_law_299 : decode cL_law 299 = .ok (.iadd, 1) := by decide +kernel
theorem dL_law_300 : decode cL_law 300 = .ok (.iaload, 1) := by decide +kernel
theorem dL_law_301 : decode cL_law 301 = .ok (.aload_n 0, 1) := by decide +kernel
theorem dL_law_302 : decode cL_law 302 = .ok (.iload_n 3, 1) := by decide +kernel
theorem dL_law_303 : decode cL_law 303 = .ok (.iconst 3, 1) := by decide +kernel
theorem dL_law_304 : decode cL_law 304 = .ok (.iadd, 1) := by decide +kernel
theorem dL_law_305 : decode cL_law 305 = .ok (.iaload, 1) := by decide +kernel
theorem dL_law_306 : decode cL_law 306 = .ok (.invokevirtual 31, 3) := by decide +kernel
theorem dL_law_309 : decode cL_law 309 = .ok (.if_icmp .eq 431, 3) := by decide +kernel
theorem dL_law_312 : decode cL_law 312 = .ok (.iconst 0, 1) := by decide +kernel
theorem dL_law_313 : decode cL_law 313 = .ok (.ireturn, 1) := by decide +kernel
theorem dL_law_314 : decode cL_law 314 = .ok (.aload_n 1, 1) := by decide +kernel
theorem dL_law_315 : decode cL_law 315 = .ok (.invokevirtual 32, 3) := by decide +kernel
theorem dL_law_318 : decode cL_law 318 = .ok (.aload_n 2, 1) := by decide +kernel
theorem dL_law_319 : decode cL_law 319 = .ok (.invokevirtual 36, 3) := by decide +kernel
theorem dL_law_322 : decode cL_law 322 = .ok (.if_icmp .eq 418, 3) := by decide +kernel
theorem dL_law_325 : decode cL_law 325 = .ok (.iconst 0, 1) := by decide +kernel
theorem dL_law_326 : decode cL_law 326 = .ok (.ireturn, 1) := by decide +kernel
theorem dL_law_327 : decode cL_law 327 = .ok (.aload_n 1, 1) := by decide +kernel
theorem dL_law_328 : decode cL_law 328 = .ok (.aload_n 0, 1) := by decide +kernel
theorem dL_law_329 : decode cL_law 329 = .ok (.iload_n 3, 1) := by decide +kernel
theorem dL_law_330 : decode cL_law 330 = .ok (.iconst 1, 1) := by decide +kernel
theorem dL_law_331 : decode cL_law 331 = .ok (.iadd, 1) := by decide +kernel
theorem dL_law_332 : decode cL_law 332 = .ok (.iaload, 1) := by decide +kernel
theorem dL_law_333 : decode cL_law 333 = .ok (.i2c, 1) := by decide +kernel
theorem dL_law_334 : decode cL_law 334 = .ok (.invokevirtual 37, 3) := by decide +kernel
theorem dL_law_337 : decode cL_law 337 = .ok (.aload_n 2, 1) := by decide +kernel
theorem dL_law_338 : decode cL_law 338 = .ok (.aload_n 0, 1) := by decide +kernel
theorem dL_law_339 : decode cL_law 339 = .ok (.iload_n 3, 1) := by decide +kernel
theorem dL_law_340 : decode cL_law 340 = .ok (.iconst 1, 1) := by decide +kernel
theorem dL_law_341 : decode cL_law 341 = .ok (.iadd, 1) := by decide +kernel
theorem dL_law_342 : decode cL_law 342 = .ok (.iaload, 1) := by decide +kernel
theorem dL_law_343 : decode cL_law 343 = .ok (.i2c, 1) := by decide +kernel
theorem dL_law_344 : decode cL_law 344 = .ok (.invokevirtual 41, 3) := by decide +kernel
theorem dL_law_347 : decode cL_law 347 = .ok (.if_icmp .eq 393, 3) := by decide +kernel
theorem dL_law_350 : decode cL_law 350 = .ok (.iconst 0, 1) := by decide +kernel
theorem dL_law_351 : decode cL_law 351 = .ok (.ireturn, 1) := by decide +kernel
theorem dL_law_352 : decode cL_law 352 = .ok (.aload_n 1, 1) := by decide +kernel
theorem dL_law_353 : decode cL_law 353 = .ok (.invokevirtual 42, 3) := by decide +kernel
theorem dL_law_356 : decode cL_law 356 = .ok (.aload_n 2, 1) := by decide +kernel
theorem dL_law_357 : decode cL_law 357 = .ok (.invokevirtual 45, 3) := by decide +kernel
theorem dL_law_360 : decode cL_law 360 = .ok (.if_icmp .eq 380, 3) := by decide +kernel
theorem dL_law_363 : decode cL_law 363 = .ok (.iconst 0, 1) := by decide +kernel
theorem dL_law_364 : decode cL_law 364 = .ok (.ireturn, 1) := by decide +kernel
theorem dL_law_365 : decode cL_law 365 = .ok (.aload_n 1, 1) := by decide +kernel
theorem dL_law_366 : decode cL_law 366 = .ok (.invokevirtual 46, 3) := by decide +kernel
theorem dL_law_369 : decode cL_law 369 = .ok (.aload_n 2, 1) := by decide +kernel
theorem dL_law_370 : decode cL_law 370 = .ok (.invokevirtual 49, 3) := by decide +kernel
theorem dL_law_373 : decode cL_law 373 = .ok (.if_icmp .eq 367, 3) := by decide +kernel
theorem dL_law_376 : decode cL_law 376 = .ok (.iconst 0, 1) := by decide +kernel
theorem dL_law_377 : decode cL_law 377 = .ok (.ireturn, 1) := by decide +kernel
theorem dL_law_378 : decode cL_law 378 = .ok (.aload_n 1, 1) := by decide +kernel
theorem dL_law_379 : decode cL_law 379 = .ok (.invokevirtual 50, 3) := by decide +kernel
theorem dL_law_382 : decode cL_law 382 = .ok (.aload_n 2, 1) := by decide +kernel
theorem dL_law_383 : decode cL_law 383 = .ok (.invokevirtual 53, 3) := by decide +kernel
theorem dL_law_386 : decode cL_law 386 = .ok (.if_icmp .eq 354, 3) := by decide +kernel
theorem dL_law_389 : decode cL_law 389 = .ok (.iconst 0, 1) := by decide +kernel
theorem dL_law_390 : decode cL_law 390 = .ok (.ireturn, 1) := by decide +kernel
theorem dL_law_391 : decode cL_law 391 = .ok (.aload_n 1, 1) := by decide +kernel
theorem dL_law_392 : decode cL_law 392 = .ok (.invokevirtual 54, 3) := by decide +kernel
theorem dL_law_395 : decode cL_law 395 = .ok (.aload_n 2, 1) := by decide +kernel
theorem dL_law_396 : decode cL_law 396 = .ok (.invokevirtual 57, 3) := by decide +kernel
theorem dL_law_399 : decode cL_law 399 = .ok (.if_icmp .eq 341, 3) := by decide +kernel
theorem dL_law_402 : decode cL_law 402 = .ok (.iconst 0, 1) := by decide +kernel
theorem dL_law_403 : decode cL_law 403 = .ok (.ireturn, 1) := by decide +kernel
theorem dL_law_404 : decode cL_law 404 = .ok (.aload_n 1, 1) := by decide +kernel
theorem dL_law_405 : decode cL_law 405 = .ok (.invokevirtual 58, 3) := by decide +kernel
theorem dL_law_408 : decode cL_law 408 = .ok (.aload_n 2, 1) := by decide +kernel
theorem dL_law_409 : decode cL_law 409 = .ok (.invokevirtual 61, 3) := by decide +kernel
theorem dL_law_412 : decode cL_law 412 = .ok (.if_icmp .eq 328, 3) := by decide +kernel
theorem dL_law_415 : decode cL_law 415 = .ok (.iconst 0, 1) := by decide +kernel
theorem dL_law_416 : decode cL_law 416 = .ok (.ireturn, 1) := by decide +kernel
theorem dL_law_417 : decode cL_law 417 = .ok (.aload_n 1, 1) := by decide +kernel
theorem dL_law_418 : decode cL_law 418 = .ok (.invokevirtual 62, 3) := by decide +kernel
theorem dL_law_421 : decode cL_law 421 = .ok (.aload_n 2, 1) := by decide +kernel
theorem dL_law_422 : decode cL_law 422 = .ok (.invokevirtual 65, 3) := by decide +kernel
theorem dL_law_425 : decode cL_law 425 = .ok (.if_icmp .eq 315, 3) := by decide +kernel
theorem dL_law_428 : decode cL_law 428 = .ok (.iconst 0, 1) := by decide +kernel
theorem dL_law_429 : decode cL_law 429 = .ok (.ireturn, 1) := by decide +kernel
theorem dL_law_430 : decode cL_law 430 = .ok (.aload_n 1, 1) := by decide +kernel
theorem dL_law_431 : decode cL_law 431 = .ok (.aload_n 0, 1) := by decide +kernel
theorem dL_law_432 : decode cL_law 432 = .ok (.iload_n 3, 1) := by decide +kernel
theorem dL_law_433 : decode cL_law 433 = .ok (.iconst 1, 1) := by decide +kernel
theorem dL_law_434 : decode cL_law 434 = .ok (.iadd, 1) := by decide +kernel
theorem dL_law_435 : decode cL_law 435 = .ok (.iaload, 1) := by decide +kernel
theorem dL_law_436 : decode cL_law 436 = .ok (.aload_n 0, 1) := by decide +kernel
theorem dL_law_437 : decode cL_law 437 = .ok (.iload_n 3, 1) := by decide +kernel
theorem dL_law_438 : decode cL_law 438 = .ok (.iconst 2, 1) := by decide +kernel
theorem dL_law_439 : decode cL_law 439 = .ok (.iadd, 1) := by decide +kernel
theorem dL_law_440 : decode cL_law 440 = .ok (.iaload, 1) := by decide +kernel
theorem dL_law_441 : decode cL_law 441 = .ok (.invokevirtual 66, 3) := by decide +kernel
theorem dL_law_444 : decode cL_law 444 = .ok (.aload_n 2, 1) := by decide +kernel
theorem dL_law_445 : decode cL_law 445 = .ok (.aload_n 0, 1) := by decide +kernel
theorem dL_law_446 : decode cL_law 446 = .ok (.iload_n 3, 1) := by decide +kernel
theorem dL_law_447 : decode cL_law 447 = .ok (.iconst 1, 1) := by decide +kernel
theorem dL_law_448 : decode cL_law 448 = .ok (.iadd, 1) := by decide +kernel
theorem dL_law_449 : decode cL_law 449 = .ok (.iaload, 1) := by decide +kernel
theorem dL_law_450 : decode cL_law 450 = .ok (.aload_n 0, 1) := by decide +kernel
theorem dL_law_451 : decode cL_law 451 = .ok (.iload_n 3, 1) := by decide +kernel
theorem dL_law_452 : decode cL_law 452 = .ok (.iconst 2, 1) := by decide +kernel
theorem dL_law_453 : decode cL_law 453 = .ok (.iadd, 1) := by decide +kernel
theorem dL_law_454 : decode cL_law 454 = .ok (.iaload, 1) := by decide +kernel
theorem dL_law_455 : decode cL_law 455 = .ok (.invokevirtual 69, 3) := by decide +kernel
theorem dL_law_458 : decode cL_law 458 = .ok (.if_icmp .eq 282, 3) := by decide +kernel
theorem dL_law_461 : decode cL_law 461 = .ok (.iconst 0, 1) := by decide +kernel
theorem dL_law_462 : decode cL_law 462 = .ok (.ireturn, 1) := by decide +kernel
theorem dL_law_463 : decode cL_law 463 = .ok (.aload_n 1, 1) := by decide +kernel
theorem dL_law_464 : decode cL_law 464 = .ok (.aload_n 0, 1) := by decide +kernel
theorem dL_law_465 : decode cL_law 465 = .ok (.iload_n 3, 1) := by decide +kernel
theorem dL_law_466 : decode cL_law 466 = .ok (.iconst 1, 1) := by decide +kernel
theorem dL_law_467 : decode cL_law 467 = .ok (.iadd, 1) := by decide +kernel
theorem dL_law_468 : decode cL_law 468 = .ok (.iaload, 1) := by decide +kernel
theorem dL_law_469 : decode cL_law 469 = .ok (.aload_n 0, 1) := by decide +kernel
theorem dL_law_470 : decode cL_law 470 = .ok (.iload_n 3, 1) := by decide +kernel
theorem dL_law_471 : decode cL_law 471 = .ok (.iconst 2, 1) := by decide +kernel
theorem dL_law_472 : decode cL_law 472 = .ok (.iadd, 1) := by decide +kernel
theorem dL_law_473 : decode cL_law 473 = .ok (.iaload, 1) := by decide +kernel
theorem dL_law_474 : decode cL_law 474 = .ok (.invokevirtual 70, 3) := by decide +kernel
theorem dL_law_477 : decode cL_law 477 = .ok (.aload_n 2, 1) := by decide +kernel
theorem dL_law_478 : decode cL_law 478 = .ok (.aload_n 0, 1) := by decide +kernel
theorem dL_law_479 : decode cL_law 479 = .ok (.iload_n 3, 1) := by decide +kernel
theorem dL_law_480 : decode cL_law 480 = .ok (.iconst 1, 1) := by decide +kernel
theorem dL_law_481 : decode cL_law 481 = .ok (.iadd, 1) := by decide +kernel
theorem dL_law_482 : decode cL_law 482 = .ok (.iaload, 1) := by decide +kernel
theorem dL_law_483 : decode cL_law 483 = .ok (.aload_n 0, 1) := by decide +kernel
theorem dL_law_484 : decode cL_law 484 = .ok (.iload_n 3, 1) := by decide +kernel
theorem dL_law_485 : decode cL_law 485 = .ok (.iconst 2, 1) := by decide +kernel
theorem dL_law_486 : decode cL_law 486 = .ok (.iadd, 1) := by decide +kernel
theorem dL_law_487 : decode cL_law 487 = .ok (.iaload, 1) := by decide +kernel
theorem dL_law_488 : decode cL_law 488 = .ok (.invokevirtual 73, 3) := by decide +kernel
theorem dL_law_491 : decode cL_law 491 = .ok (.if_icmp .eq 249, 3) := by decide +kernel
theorem dL_law_494 : decode cL_law 494 = .ok (.iconst 0, 1) := by decide +kernel
theorem dL_law_495 : decode cL_law 495 = .ok (.ireturn, 1) := by decide +kernel
theorem dL_law_496 : decode cL_law 496 = .ok (.aload_n 1, 1) := by decide +kernel
theorem dL_law_497 : decode cL_law 497 = .ok (.aload_n 0, 1) := by decide +kernel
theorem dL_law_498 : decode cL_law 498 = .ok (.iload_n 3, 1) := by decide +kernel
theorem dL_law_499 : decode cL_law 499 = .ok (.iconst 1, 1) := by decide +kernel
theorem dL_law_500 : decode cL_law 500 = .ok (.iadd, 1) := by decide +kernel
theorem dL_law_501 : decode cL_law 501 = .ok (.iaload, 1) := by decide +kernel
theorem dL_law_502 : decode cL_law 502 = .ok (.invokevirtual 74, 3) := by decide +kernel
theorem dL_law_505 : decode cL_law 505 = .ok (.aload_n 2, 1) := by decide +kernel
theorem dL_law_506 : decode cL_law 506 = .ok (.aload_n 0, 1) := by decide +kernel
theorem dL_law_507 : decode cL_law 507 = .ok (.iload_n 3, 1) := by decide +kernel
theorem dL_law_508 : decode cL_law 508 = .ok (.iconst 1, 1) := by decide +kernel
theorem dL_law_509 : decode cL_law 509 = .ok (.iadd, 1) := by decide +kernel
theorem dL_law_510 : decode cL_law 510 = .ok (.iaload, 1) := by decide +kernel
theorem dL_law_511 : decode cL_law 511 = .ok (.invokevirtual 78, 3) := by decide +kernel
theorem dL_law_514 : decode cL_law 514 = .ok (.if_icmp .eq 226, 3) := by decide +kernel
theorem dL_law_517 : decode cL_law 517 = .ok (.iconst 0, 1) := by decide +kernel
theorem dL_law_518 : decode cL_law 518 = .ok (.ireturn, 1) := by decide +kernel
theorem dL_law_519 : decode cL_law 519 = .ok (.aload_n 1, 1) := by decide +kernel
theorem dL_law_520 : decode cL_law 520 = .ok (.aload_n 0, 1) := by decide +kernel
theorem dL_law_521 : decode cL_law 521 = .ok (.iload_n 3, 1) := by decide +kernel
theorem dL_law_522 : decode cL_law 522 = .ok (.iconst 1, 1) := by decide +kernel
theorem dL_law_523 : decode cL_law 523 = .ok (.iadd, 1) := by decide +kernel
theorem dL_law_524 : decode cL_law 524 = .ok (.iaload, 1) := by decide +kernel
theorem dL_law_525 : decode cL_law 525 = .ok (.aload_n 0, 1) := by decide +kernel
theorem dL_law_526 : decode cL_law 526 = .ok (.iload_n 3, 1) := by decide +kernel
theorem dL_law_527 : decode cL_law 527 = .ok (.iconst 2, 1) := by decide +kernel
theorem dL_law_528 : decode cL_law 528 = .ok (.iadd, 1) := by decide +kernel
theorem dL_law_529 : decode cL_law 529 = .ok (.iaload, 1) := by decide +kernel
theorem dL_law_530 : decode cL_law 530 = .ok (.aload_n 0, 1) := by decide +kernel
theorem dL_law_531 : decode cL_law 531 = .ok (.iload_n 3, 1) := by decide +kernel
theorem dL_law_532 : decode cL_law 532 = .ok (.iconst 3, 1) := by decide +kernel
theorem dL_law_533 : decode cL_law 533 = .ok (.iadd, 1) := by decide +kernel
theorem dL_law_534 : decode cL_law 534 = .ok (.iaload, 1) := by decide +kernel
theorem dL_law_535 : decode cL_law 535 = .ok (.invokevirtual 79, 3) := by decide +kernel
theorem dL_law_538 : decode cL_law 538 = .ok (.aload_n 2, 1) := by decide +kernel
theorem dL_law_539 : decode cL_law 539 = .ok (.aload_n 0, 1) := by decide +kernel
theorem dL_law_540 : decode cL_law 540 = .ok (.iload_n 3, 1) := by decide +kernel
theorem dL_law_541 : decode cL_law 541 = .ok (.iconst 1, 1) := by decide +kernel
theorem dL_law_542 : decode cL_law 542 = .ok (.iadd, 1) := by decide +kernel
theorem dL_law_543 : decode cL_law 543 = .ok (.iaload, 1) := by decide +kernel
theorem dL_law_544 : decode cL_law 544 = .ok (.aload_n 0, 1) := by decide +kernel
theorem dL_law_545 : decode cL_law 545 = .ok (.iload_n 3, 1) := by decide +kernel
theorem dL_law_546 : decode cL_law 546 = .ok (.iconst 2, 1) := by decide +kernel
theorem dL_law_547 : decode cL_law 547 = .ok (.iadd, 1) := by decide +kernel
theorem dL_law_548 : decode cL_law 548 = .ok (.iaload, 1) := by decide +kernel
theorem dL_law_549 : decode cL_law 549 = .ok (.aload_n 0, 1) := by decide +kernel
theorem dL_law_550 : decode cL_law 550 = .ok (.iload_n 3, 1) := by decide +kernel
theorem dL_law_551 : decode cL_law 551 = .ok (.iconst 3, 1) := by decide +kernel
theorem dL_law_552 : decode cL_law 552 = .ok (.iadd, 1) := by decide +kernel
theorem dL_law_553 : decode cL_law 553 = .ok (.iaload, 1) := by decide +kernel
theorem dL_law_554 : decode cL_law 554 = .ok (.invokevirtual 82, 3) := by decide +kernel
theorem dL_law_557 : decode cL_law 557 = .ok (.if_icmp .eq 183, 3) := by decide +kernel
theorem dL_law_560 : decode cL_law 560 = .ok (.iconst 0, 1) := by decide +kernel
theorem dL_law_561 : decode cL_law 561 = .ok (.ireturn, 1) := by decide +kernel
theorem dL_law_562 : decode cL_law 562 = .ok (.aload_n 1, 1) := by decide +kernel
theorem dL_law_563 : decode cL_law 563 = .ok (.aload_n 0, 1) := by decide +kernel
theorem dL_law_564 : decode cL_law 564 = .ok (.iload_n 3, 1) := by decide +kernel
theorem dL_law_565 : decode cL_law 565 = .ok (.iconst 1, 1) := by decide +kernel
theorem dL_law_566 : decode cL_law 566 = .ok (.iadd, 1) := by decide +kernel
theorem dL_law_567 : decode cL_law 567 = .ok (.iaload, 1) := by decide +kernel
theorem dL_law_568 : decode cL_law 568 = .ok (.invokevirtual 83, 3) := by decide +kernel
theorem dL_law_571 : decode cL_law 571 = .ok (.aload_n 2, 1) := by decide +kernel
theorem dL_law_572 : decode cL_law 572 = .ok (.aload_n 0, 1) := by decide +kernel
theorem dL_law_573 : decode cL_law 573 = .ok (.iload_n 3, 1) := by decide +kernel
theorem dL_law_574 : decode cL_law 574 = .ok (.iconst 1, 1) := by decide +kernel
theorem dL_law_575 : decode cL_law 575 = .ok (.iadd, 1) := by decide +kernel
theorem dL_law_576 : decode cL_law 576 = .ok (.iaload, 1) := by decide +kernel
theorem dL_law_577 : decode cL_law 577 = .ok (.invokevirtual 86, 3) := by decide +kernel
theorem dL_law_580 : decode cL_law 580 = .ok (.if_icmp .eq 160, 3) := by decide +kernel
theorem dL_law_583 : decode cL_law 583 = .ok (.iconst 0, 1) := by decide +kernel
theorem dL_law_584 : decode cL_law 584 = .ok (.ireturn, 1) := by decide +kernel
theorem dL_law_585 : decode cL_law 585 = .ok (.aload_n 1, 1) := by decide +kernel
theorem dL_law_586 : decode cL_law 586 = .ok (.aload_n 0, 1) := by decide +kernel
theorem dL_law_587 : decode cL_law 587 = .ok (.iload_n 3, 1) := by decide +kernel
theorem dL_law_588 : decode cL_law 588 = .ok (.iconst 1, 1) := by decide +kernel
theorem dL_law_589 : decode cL_law 589 = .ok (.iadd, 1) := by decide +kernel
theorem dL_law_590 : decode cL_law 590 = .ok (.iaload, 1) := by decide +kernel
theorem dL_law_591 : decode cL_law 591 = .ok (.aload_n 0, 1) := by decide +kernel
theorem dL_law_592 : decode cL_law 592 = .ok (.iload_n 3, 1) := by decide +kernel
theorem dL_law_593 : decode cL_law 593 = .ok (.iconst 2, 1) := by decide +kernel
theorem dL_law_594 : decode cL_law 594 = .ok (.iadd, 1) := by decide +kernel
theorem dL_law_595 : decode cL_law 595 = .ok (.iaload, 1) := by decide +kernel
theorem dL_law_596 : decode cL_law 596 = .ok (.invokevirtual 87, 3) := by decide +kernel
theorem dL_law_599 : decode cL_law 599 = .ok (.f2d, 1) := by decide +kernel
theorem dL_law_600 : decode cL_law 600 = .ok (.dstore 4, 2) := by decide +kernel
theorem dL_law_602 : decode cL_law 602 = .ok (.aload_n 2, 1) := by decide +kernel
theorem dL_law_603 : decode cL_law 603 = .ok (.aload_n 0, 1) := by decide +kernel
theorem dL_law_604 : decode cL_law 604 = .ok (.iload_n 3, 1) := by decide +kernel
theorem dL_law_605 : decode cL_law 605 = .ok (.iconst 1, 1) := by decide +kernel
theorem dL_law_606 : decode cL_law 606 = .ok (.iadd, 1) := by decide +kernel
theorem dL_law_607 : decode cL_law 607 = .ok (.iaload, 1) := by decide +kernel
theorem dL_law_608 : decode cL_law 608 = .ok (.aload_n 0, 1) := by decide +kernel
theorem dL_law_609 : decode cL_law 609 = .ok (.iload_n 3, 1) := by decide +kernel
theorem dL_law_610 : decode cL_law 610 = .ok (.iconst 2, 1) := by decide +kernel
theorem dL_law_611 : decode cL_law 611 = .ok (.iadd, 1) := by decide +kernel
theorem dL_law_612 : decode cL_law 612 = .ok (.iaload, 1) := by decide +kernel
theorem dL_law_613 : decode cL_law 613 = .ok (.invokevirtual 91, 3) := by decide +kernel
theorem dL_law_616 : decode cL_law 616 = .ok (.f2d, 1) := by decide +kernel
theorem dL_law_617 : decode cL_law 617 = .ok (.dstore 6, 2) := by decide +kernel
theorem dL_law_619 : decode cL_law 619 = .ok (.dload 4, 2) := by decide +kernel
theorem dL_law_621 : decode cL_law 621 = .ok (.dload 6, 2) := by decide +kernel
theorem dL_law_623 : decode cL_law 623 = .ok (.dcmp .l, 1) := by decide +kernel
theorem dL_law_624 : decode cL_law 624 = .ok (.ifCond .eq 21, 3) := by decide +kernel
theorem dL_law_627 : decode cL_law 627 = .ok (.dload 4, 2) := by decide +kernel
theorem dL_law_629 : decode cL_law 629 = .ok (.dload 4, 2) := by decide +kernel
theorem dL_law_631 : decode cL_law 631 = .ok (.dcmp .l, 1) := by decide +kernel
theorem dL_law_632 : decode cL_law 632 = .ok (.ifCond .eq 11, 3) := by decide +kernel
theorem dL_law_635 : decode cL_law 635 = .ok (.dload 6, 2) := by decide +kernel
theorem dL_law_637 : decode cL_law 637 = .ok (.dload 6, 2) := by decide +kernel
theorem dL_law_639 : decode cL_law 639 = .ok (.dcmp .l, 1) := by decide +kernel
theorem dL_law_640 : decode cL_law 640 = .ok (.ifCond .ne 5, 3) := by decide +kernel
theorem dL_law_643 : decode cL_law 643 = .ok (.iconst 0, 1) := by decide +kernel
theorem dL_law_644 : decode cL_law 644 = .ok (.ireturn, 1) := by decide +kernel
theorem dL_law_645 : decode cL_law 645 = .ok (.goto 95, 3) := by decide +kernel
theorem dL_law_648 : decode cL_law 648 = .ok (.aload_n 1, 1) := by decide +kernel
theorem dL_law_649 : decode cL_law 649 = .ok (.aload_n 0, 1) := by decide +kernel
theorem dL_law_650 : decode cL_law 650 = .ok (.iload_n 3, 1) := by decide +kernel
theorem dL_law_651 : decode cL_law 651 = .ok (.iconst 1, 1) := by decide +kernel
theorem dL_law_652 : decode cL_law 652 = .ok (.iadd, 1) := by decide +kernel
theorem dL_law_653 : decode cL_law 653 = .ok (.iaload, 1) := by decide +kernel
theorem dL_law_654 : decode cL_law 654 = .ok (.invokevirtual 92, 3) := by decide +kernel
theorem dL_law_657 : decode cL_law 657 = .ok (.aload_n 2, 1) := by decide +kernel
theorem dL_law_658 : decode cL_law 658 = .ok (.aload_n 0, 1) := by decide +kernel
theorem dL_law_659 : decode cL_law 659 = .ok (.iload_n 3, 1) := by decide +kernel
theorem dL_law_660 : decode cL_law 660 = .ok (.iconst 1, 1) := by decide +kernel
theorem dL_law_661 : decode cL_law 661 = .ok (.iadd, 1) := by decide +kernel
theorem dL_law_662 : decode cL_law 662 = .ok (.iaload, 1) := by decide +kernel
theorem dL_law_663 : decode cL_law 663 = .ok (.invokevirtual 95, 3) := by decide +kernel
theorem dL_law_666 : decode cL_law 666 = .ok (.if_icmp .eq 74, 3) := by decide +kernel
theorem dL_law_669 : decode cL_law 669 = .ok (.iconst 0, 1) := by decide +kernel
theorem dL_law_670 : decode cL_law 670 = .ok (.ireturn, 1) := by decide +kernel
theorem dL_law_671 : decode cL_law 671 = .ok (.aload_n 1, 1) := by decide +kernel
theorem dL_law_672 : decode cL_law 672 = .ok (.aload_n 0, 1) := by decide +kernel
theorem dL_law_673 : decode cL_law 673 = .ok (.iload_n 3, 1) := by decide +kernel
theorem dL_law_674 : decode cL_law 674 = .ok (.iconst 1, 1) := by decide +kernel
theorem dL_law_675 : decode cL_law 675 = .ok (.iadd, 1) := by decide +kernel
theorem dL_law_676 : decode cL_law 676 = .ok (.iaload, 1) := by decide +kernel
theorem dL_law_677 : decode cL_law 677 = .ok (.aload_n 0, 1) := by decide +kernel
theorem dL_law_678 : decode cL_law 678 = .ok (.iload_n 3, 1) := by decide +kernel
theorem dL_law_679 : decode cL_law 679 = .ok (.iconst 2, 1) := by decide +kernel
theorem dL_law_680 : decode cL_law 680 = .ok (.iadd, 1) := by decide +kernel
theorem dL_law_681 : decode cL_law 681 = .ok (.iaload, 1) := by decide +kernel
theorem dL_law_682 : decode cL_law 682 = .ok (.invokevirtual 96, 3) := by decide +kernel
theorem dL_law_685 : decode cL_law 685 = .ok (.aload_n 2, 1) := by decide +kernel
theorem dL_law_686 : decode cL_law 686 = .ok (.aload_n 0, 1) := by decide +kernel
theorem dL_law_687 : decode cL_law 687 = .ok (.iload_n 3, 1) := by decide +kernel
theorem dL_law_688 : decode cL_law 688 = .ok (.iconst 1, 1) := by decide +kernel
theorem dL_law_689 : decode cL_law 689 = .ok (.iadd, 1) := by decide +kernel
theorem dL_law_690 : decode cL_law 690 = .ok (.iaload, 1) := by decide +kernel
theorem dL_law_691 : decode cL_law 691 = .ok (.aload_n 0, 1) := by decide +kernel
theorem dL_law_692 : decode cL_law 692 = .ok (.iload_n 3, 1) := by decide +kernel
theorem dL_law_693 : decode cL_law 693 = .ok (.iconst 2, 1) := by decide +kernel
theorem dL_law_694 : decode cL_law 694 = .ok (.iadd, 1) := by decide +kernel
theorem dL_law_695 : decode cL_law 695 = .ok (.iaload, 1) := by decide +kernel
theorem dL_law_696 : decode cL_law 696 = .ok (.invokevirtual 99, 3) := by decide +kernel
theorem dL_law_699 : decode cL_law 699 = .ok (.if_icmp .eq 41, 3) := by decide +kernel
theorem dL_law_702 : decode cL_law 702 = .ok (.iconst 0, 1) := by decide +kernel
theorem dL_law_703 : decode cL_law 703 = .ok (.ireturn, 1) := by decide +kernel
theorem dL_law_704 : decode cL_law 704 = .ok (.aload_n 1, 1) := by decide +kernel
theorem dL_law_705 : decode cL_law 705 = .ok (.aload_n 0, 1) := by decide +kernel
theorem dL_law_706 : decode cL_law 706 = .ok (.iload_n 3, 1) := by decide +kernel
theorem dL_law_707 : decode cL_law 707 = .ok (.iconst 1, 1) := by decide +kernel
theorem dL_law_708 : decode cL_law 708 = .ok (.iadd, 1) := by decide +kernel
theorem dL_law_709 : decode cL_law 709 = .ok (.iaload, 1) := by decide +kernel
theorem dL_law_710 : decode cL_law 710 = .ok (.invokevirtual 100, 3) := by decide +kernel
theorem dL_law_713 : decode cL_law 713 = .ok (.aload_n 2, 1) := by decide +kernel
theorem dL_law_714 : decode cL_law 714 = .ok (.aload_n 0, 1) := by decide +kernel
theorem dL_law_715 : decode cL_law 715 = .ok (.iload_n 3, 1) := by decide +kernel
theorem dL_law_716 : decode cL_law 716 = .ok (.iconst 1, 1) := by decide +kernel
theorem dL_law_717 : decode cL_law 717 = .ok (.iadd, 1) := by decide +kernel
theorem dL_law_718 : decode cL_law 718 = .ok (.iaload, 1) := by decide +kernel
theorem dL_law_719 : decode cL_law 719 = .ok (.invokevirtual 103, 3) := by decide +kernel
theorem dL_law_722 : decode cL_law 722 = .ok (.if_icmp .eq 18, 3) := by decide +kernel
theorem dL_law_725 : decode cL_law 725 = .ok (.iconst 0, 1) := by decide +kernel
theorem dL_law_726 : decode cL_law 726 = .ok (.ireturn, 1) := by decide +kernel
theorem dL_law_727 : decode cL_law 727 = .ok (.aload_n 1, 1) := by decide +kernel
theorem dL_law_728 : decode cL_law 728 = .ok (.invokevirtual 104, 3) := by decide +kernel
theorem dL_law_731 : decode cL_law 731 = .ok (.aload_n 2, 1) := by decide +kernel
theorem dL_law_732 : decode cL_law 732 = .ok (.invokevirtual 107, 3) := by decide +kernel
theorem dL_law_735 : decode cL_law 735 = .ok (.if_icmp .eq 5, 3) := by decide +kernel
theorem dL_law_738 : decode cL_law 738 = .ok (.iconst 0, 1) := by decide +kernel
theorem dL_law_739 : decode cL_law 739 = .ok (.ireturn, 1) := by decide +kernel
theorem dL_law_740 : decode cL_law 740 = .ok (.iinc 3 4, 3) := by decide +kernel
theorem dL_law_743 : decode cL_law 743 = .ok (.goto (-725), 3) := by decide +kernel
theorem dL_law_746 : decode cL_law 746 = .ok (.iconst 1, 1) := by decide +kernel
theorem dL_law_747 : decode cL_law 747 = .ok (.ireturn, 1) := by decide +kernel
end
section

def isNest : Cond → Bool
  | .fieldLinkNest .. => true
  | .methodLinkNest .. => true
  | _ => false
/-- all good words of the tables, the private methods' selections ahead -/
def lw_all : List Cond := lw_tbl.filter goodWord
/-- the words of links between nest mates -/
def lw_nst : List Cond := tables_1.filter isNest
theorem all_mem {w : Cond} (i : Nat) (h : tables_1[i]? = some w) (g : goodWord w = true) : w ∈ lw_all := List.mem_filter.mpr ⟨List.mem_append_right _ (List.mem_of_getElem? h), g⟩
theorem all_memS {w : Cond} (i : Nat) (h : (k2_sels lw_privs)[i]? = some w) (g : goodWord w = true) : w ∈ lw_all := List.mem_filter.mpr ⟨List.mem_append_left _ (List.mem_of_getElem? h), g⟩
theorem nst_mem {w : Cond} (i : Nat) (h : tables_1[i]? = some w) (g : isNest w = true) : w ∈ lw_nst := List.mem_filter.mpr ⟨List.mem_of_getElem? h, g⟩
theorem all_tbl {w : Cond} (h : w ∈ lw_all) : w ∈ lw_tbl := (List.mem_filter.mp h).1
theorem good_all : GoodIn lw_all lw_all := fun w h => ⟨h, good_of_word (List.mem_filter.mp h).2⟩
def ws_ (y : MethodName) (cc : ByteArray) (n : Nat) (ret : Option FieldType) : List Cond := .code y cc n ret :: lw_all
theorem good_ws {y : MethodName} {cc : ByteArray} {n : Nat} {ret : Option FieldType} (h : Cond.code y cc n ret ∈ lw_all) : GoodIn lw_all (ws_ y cc n ret) := fun w hw => (List.mem_cons.mp hw).elim (fun e => e ▸ good_all _ h) (fun q => good_all w q)
abbrev okd (y : MethodName) (k : Nat) : Prop := y.cls ≠ "java/lang/invoke/MethodHandle" ∧ y.cls ≠ "java/lang/invoke/VarHandle" ∧ (parseMethodDescriptor y.desc).map (fun d => d.parameters.length) = some k
/-- a virtual call's words -/
def CWV (own : String) (idx : Nat) (C : String) (y : MethodName) (cc : ByteArray) (n : Nat) (ret : Option FieldType) (k : Nat) : Prop :=
  GoodIn lw_all (wsV own idx C y (ws_ y cc n ret)) ∧ (y.cls = C ∧ okd y k)
theorem cwv_mk {own C : String} {idx n k : Nat} {y : MethodName} {cc : ByteArray} {ret : Option FieldType} (h1 : Cond.methodLink own idx y ∈ lw_all) (h2 : Cond.instanceMethod y ∈ lw_all) (h3 : Cond.selects C y y ∈ lw_all) (h4 : Cond.initialized C ∈ lw_all) (h5 : Cond.code y cc n ret ∈ lw_all) (hd : y.cls = C ∧ okd y k) : CWV own idx C y cc n ret k := by
  refine ⟨fun w hw => ?_, hd⟩
  rcases List.mem_append.mp hw with h | h
  · simp only [List.mem_cons, List.not_mem_nil, or_false] at h
    rcases h with rfl | rfl | rfl | rfl
    · exact good_all _ h1
    · exact good_all _ h2
    · exact good_all _ h3
    · exact good_all _ h4
  · exact good_ws h5 w h
/-- a static call's words -/
def CWS (own : String) (idx : Nat) (y : MethodName) (cc : ByteArray) (n : Nat) (ret : Option FieldType) (k : Nat) : Prop :=
  GoodIn lw_all (va_wsS own idx y (ws_ y cc n ret)) ∧ okd y k
theorem cws_mk {own : String} {idx n k : Nat} {y : MethodName} {cc : ByteArray} {ret : Option FieldType} (h1 : Cond.methodLink own idx y ∈ lw_all) (h2 : Cond.static y ∈ lw_all) (h4 : Cond.initialized y.cls ∈ lw_all) (h5 : Cond.code y cc n ret ∈ lw_all) (hd : okd y k) : CWS own idx y cc n ret k := by
  refine ⟨fun w hw => ?_, hd⟩
  rcases List.mem_append.mp hw with h | h
  · simp only [List.mem_cons, List.not_mem_nil, or_false] at h
    rcases h with rfl | rfl | rfl
    · exact good_all _ h1
    · exact good_all _ h2
    · exact good_all _ h4
  · exact good_ws h5 w h
/-- a static call's words, of a nest mate's private method -/
def CWN (own : String) (idx : Nat) (y : MethodName) (cc : ByteArray) (n : Nat) (ret : Option FieldType) (k : Nat) : Prop :=
  (∃ host, Cond.methodLinkNest own idx y host ∈ lw_nst) ∧ Cond.static y ∈ lw_all ∧ Cond.initialized y.cls ∈ lw_all ∧ Cond.code y cc n ret ∈ lw_all ∧ okd y k
/-- a constructor's words -/
def CWI (own : String) (idx : Nat) (y : MethodName) (cc : ByteArray) (n : Nat) (k : Nat) : Prop :=
  Cond.methodLink own idx y ∈ lw_all ∧ Cond.instanceMethod y ∈ lw_all ∧ Cond.initialized y.cls ∈ lw_all ∧ Cond.code y cc n none ∈ lw_all ∧ y.name = "<init>" ∧ okd y k
def CWIN (own : String) (idx : Nat) (y : MethodName) (cc : ByteArray) (n : Nat) (k : Nat) : Prop :=
  (∃ host, Cond.methodLinkNest own idx y host ∈ lw_nst) ∧ Cond.instanceMethod y ∈ lw_all ∧ Cond.initialized y.cls ∈ lw_all ∧ Cond.code y cc n none ∈ lw_all ∧ y.name = "<init>" ∧ okd y k
/-- a field that is read: its link and its class's words -/
def FLD (own : String) (idx ci k : Nat) : Prop := ∃ (C : String) (T : u_T) (N : Nat), vwCl[ci]? = some (C, T, N) ∧ k < N ∧ (∀ w ∈ u_ws C T N, w ∈ lw_all) ∧ Cond.fieldLink own idx (T k).1 (T k).2.1 (T k).2.2.1 ∈ lw_all
def FLN (own : String) (idx ci k : Nat) : Prop := ∃ (C : String) (T : u_T) (N : Nat), vwCl[ci]? = some (C, T, N) ∧ k < N ∧ (∀ w ∈ u_ws C T N, w ∈ lw_all) ∧ ∃ host, Cond.fieldLinkNest own idx (T k).1 (T k).2.1 (T k).2.2.1 host ∈ lw_nst
/-- a class's fields: types, names apart -/
def FCL (ci k : Nat) (fin : Bool) (ty : FieldType) : Prop := ∃ (C : String) (T : u_T) (N : Nat) (ty0 : Nat → FieldType), vwCl[ci]? = some (C, T, N) ∧ (∀ k, k < N → parseFieldDescriptor (T k).2.2.1 = some (ty0 k)) ∧ (∀ a, a < N → ∀ b, b < N → a ≠ b → (T a).2.1 ≠ (T b).2.1) ∧ (T k).2.2.2 = fin ∧ parseFieldDescriptor (T k).2.2.1 = some ty ∧ (T k).1 = C

theorem in_tX0 : ∀ w ∈ u_ws RX0 TX0 4, w ∈ tables_1 := by decide +kernel
theorem gd_X0 : (u_ws RX0 TX0 4).all goodWord = true := by decide +kernel
theorem in_X0 : ∀ w ∈ u_ws RX0 TX0 4, w ∈ lw_all := fun w h => List.mem_filter.mpr ⟨List.mem_append_right _ (in_tX0 w h), List.all_eq_true.mp gd_X0 w h⟩
theorem in_tX1 : ∀ w ∈ u_ws RX1 TX1 7, w ∈ tables_1 := by decide +kernel
theorem gd_X1 : (u_ws RX1 TX1 7).all goodWord = true := by decide +kernel
theorem in_X1 : ∀ w ∈ u_ws RX1 TX1 7, w ∈ lw_all := fun w h => List.mem_filter.mpr ⟨List.mem_append_right _ (in_tX1 w h), List.all_eq_true.mp gd_X1 w h⟩
theorem in_tX2 : ∀ w ∈ u_ws RX2 TX2 2, w ∈ tables_1 := by decide +kernel
theorem gd_X2 : (u_ws RX2 TX2 2).all goodWord = true := by decide +kernel
theorem in_X2 : ∀ w ∈ u_ws RX2 TX2 2, w ∈ lw_all := fun w h => List.mem_filter.mpr ⟨List.mem_append_right _ (in_tX2 w h), List.all_eq_true.mp gd_X2 w h⟩
theorem in_tX3 : ∀ w ∈ u_ws RX3 TX3 1, w ∈ tables_1 := by decide +kernel
theorem gd_X3 : (u_ws RX3 TX3 1).all goodWord = true := by decide +kernel
theorem in_X3 : ∀ w ∈ u_ws RX3 TX3 1, w ∈ lw_all := fun w h => List.mem_filter.mpr ⟨List.mem_append_right _ (in_tX3 w h), List.all_eq_true.mp gd_X3 w h⟩
theorem in_tX4 : ∀ w ∈ u_ws RX4 TX4 14, w ∈ tables_1 := by decide +kernel
theorem gd_X4 : (u_ws RX4 TX4 14).all goodWord = true := by decide +kernel
theorem in_X4 : ∀ w ∈ u_ws RX4 TX4 14, w ∈ lw_all := fun w h => List.mem_filter.mpr ⟨List.mem_append_right _ (in_tX4 w h), List.all_eq_true.mp gd_X4 w h⟩
theorem in_tX5 : ∀ w ∈ u_ws RX5 TX5 6, w ∈ tables_1 := by decide +kernel
theorem gd_X5 : (u_ws RX5 TX5 6).all goodWord = true := by decide +kernel
theorem in_X5 : ∀ w ∈ u_ws RX5 TX5 6, w ∈ lw_all := fun w h => List.mem_filter.mpr ⟨List.mem_append_right _ (in_tX5 w h), List.all_eq_true.mp gd_X5 w h⟩
theorem in_tX6 : ∀ w ∈ u_ws RX6 TX6 11, w ∈ tables_1 := by decide +kernel
theorem gd_X6 : (u_ws RX6 TX6 11).all goodWord = true := by decide +kernel
theorem in_X6 : ∀ w ∈ u_ws RX6 TX6 11, w ∈ lw_all := fun w h => List.mem_filter.mpr ⟨List.mem_append_right _ (in_tX6 w h), List.all_eq_true.mp gd_X6 w h⟩
theorem fc_X0_0 : FCL 0 0 true (.array (.object "TideBoats$State")) := ⟨RX0, TX0, 4, tyX0, rfl, tyX0_ok, nmX0, rfl, by decide +kernel, rfl⟩
theorem fc_X0_1 : FCL 0 1 true (.object "TideBoats$State") := ⟨RX0, TX0, 4, tyX0, rfl, tyX0_ok, nmX0, rfl, by decide +kernel, rfl⟩
theorem fc_X0_2 : FCL 0 2 false (.int) := ⟨RX0, TX0, 4, tyX0, rfl, tyX0_ok, nmX0, rfl, by decide +kernel, rfl⟩
theorem fc_X0_3 : FCL 0 3 false (.boolean) := ⟨RX0, TX0, 4, tyX0, rfl, tyX0_ok, nmX0, rfl, by decide +kernel, rfl⟩
theorem fc_X1_0 : FCL 1 0 true (.object "TideBoats$State") := ⟨RX1, TX1, 7, tyX1, rfl, tyX1_ok, nmX1, rfl, by decide +kernel, rfl⟩
theorem fc_X1_1 : FCL 1 1 true (.array .long) := ⟨RX1, TX1, 7, tyX1, rfl, tyX1_ok, nmX1, rfl, by decide +kernel, rfl⟩
theorem fc_X1_2 : FCL 1 2 false (.long) := ⟨RX1, TX1, 7, tyX1, rfl, tyX1_ok, nmX1, rfl, by decide +kernel, rfl⟩
theorem fc_X1_3 : FCL 1 3 false (.long) := ⟨RX1, TX1, 7, tyX1, rfl, tyX1_ok, nmX1, rfl, by decide +kernel, rfl⟩
theorem fc_X1_4 : FCL 1 4 false (.long) := ⟨RX1, TX1, 7, tyX1, rfl, tyX1_ok, nmX1, rfl, by decide +kernel, rfl⟩
theorem fc_X1_5 : FCL 1 5 false (.int) := ⟨RX1, TX1, 7, tyX1, rfl, tyX1_ok, nmX1, rfl, by decide +kernel, rfl⟩
theorem fc_X1_6 : FCL 1 6 false (.int) := ⟨RX1, TX1, 7, tyX1, rfl, tyX1_ok, nmX1, rfl, by decide +kernel, rfl⟩
theorem fc_X2_0 : FCL 2 0 true (.array .char) := ⟨RX2, TX2, 2, tyX2, rfl, tyX2_ok, nmX2, rfl, by decide +kernel, rfl⟩
theorem fc_X2_1 : FCL 2 1 false (.int) := ⟨RX2, TX2, 2, tyX2, rfl, tyX2_ok, nmX2, rfl, by decide +kernel, rfl⟩
theorem fc_X3_0 : FCL 3 0 true (.object "TideBoats$State") := ⟨RX3, TX3, 1, tyX3, rfl, tyX3_ok, nmX3, rfl, by decide +kernel, rfl⟩
theorem fc_X4_0 : FCL 4 0 true (.array .int) := ⟨RX4, TX4, 14, tyX4, rfl, tyX4_ok, nmX4, rfl, by decide +kernel, rfl⟩
theorem fc_X4_1 : FCL 4 1 true (.array .int) := ⟨RX4, TX4, 14, tyX4, rfl, tyX4_ok, nmX4, rfl, by decide +kernel, rfl⟩
theorem fc_X4_2 : FCL 4 2 true (.array .int) := ⟨RX4, TX4, 14, tyX4, rfl, tyX4_ok, nmX4, rfl, by decide +kernel, rfl⟩
theorem fc_X4_3 : FCL 4 3 true (.array .int) := ⟨RX4, TX4, 14, tyX4, rfl, tyX4_ok, nmX4, rfl, by decide +kernel, rfl⟩
theorem fc_X4_4 : FCL 4 4 true (.array .int) := ⟨RX4, TX4, 14, tyX4, rfl, tyX4_ok, nmX4, rfl, by decide +kernel, rfl⟩
theorem fc_X4_5 : FCL 4 5 true (.array .int) := ⟨RX4, TX4, 14, tyX4, rfl, tyX4_ok, nmX4, rfl, by decide +kernel, rfl⟩
theorem fc_X4_6 : FCL 4 6 true (.array .int) := ⟨RX4, TX4, 14, tyX4, rfl, tyX4_ok, nmX4, rfl, by decide +kernel, rfl⟩
theorem fc_X4_7 : FCL 4 7 false (.int) := ⟨RX4, TX4, 14, tyX4, rfl, tyX4_ok, nmX4, rfl, by decide +kernel, rfl⟩
theorem fc_X4_8 : FCL 4 8 false (.int) := ⟨RX4, TX4, 14, tyX4, rfl, tyX4_ok, nmX4, rfl, by decide +kernel, rfl⟩
theorem fc_X4_9 : FCL 4 9 false (.int) := ⟨RX4, TX4, 14, tyX4, rfl, tyX4_ok, nmX4, rfl, by decide +kernel, rfl⟩
theorem fc_X4_10 : FCL 4 10 false (.int) := ⟨RX4, TX4, 14, tyX4, rfl, tyX4_ok, nmX4, rfl, by decide +kernel, rfl⟩
theorem fc_X4_11 : FCL 4 11 false (.int) := ⟨RX4, TX4, 14, tyX4, rfl, tyX4_ok, nmX4, rfl, by decide +kernel, rfl⟩
theorem fc_X4_12 : FCL 4 12 false (.int) := ⟨RX4, TX4, 14, tyX4, rfl, tyX4_ok, nmX4, rfl, by decide +kernel, rfl⟩
theorem fc_X4_13 : FCL 4 13 false (.int) := ⟨RX4, TX4, 14, tyX4, rfl, tyX4_ok, nmX4, rfl, by decide +kernel, rfl⟩
theorem fc_X5_0 : FCL 5 0 true (.object "TideBoats$State") := ⟨RX5, TX5, 6, tyX5, rfl, tyX5_ok, nmX5, rfl, by decide +kernel, rfl⟩
theorem fc_X5_1 : FCL 5 1 true (.object "TideBoats$State") := ⟨RX5, TX5, 6, tyX5, rfl, tyX5_ok, nmX5, rfl, by decide +kernel, rfl⟩
theorem fc_X5_2 : FCL 5 2 true (.object "TideBoats$Rules") := ⟨RX5, TX5, 6, tyX5, rfl, tyX5_ok, nmX5, rfl, by decide +kernel, rfl⟩
theorem fc_X5_3 : FCL 5 3 true (.object "TideBoats$HomeSearch") := ⟨RX5, TX5, 6, tyX5, rfl, tyX5_ok, nmX5, rfl, by decide +kernel, rfl⟩
theorem fc_X5_4 : FCL 5 4 true (.object "TideBoats$History") := ⟨RX5, TX5, 6, tyX5, rfl, tyX5_ok, nmX5, rfl, by decide +kernel, rfl⟩
theorem fc_X5_5 : FCL 5 5 true (.object "TideBoats$Orders") := ⟨RX5, TX5, 6, tyX5, rfl, tyX5_ok, nmX5, rfl, by decide +kernel, rfl⟩
theorem fc_X6_0 : FCL 6 0 true (.array .int) := ⟨RX6, TX6, 11, tyX6, rfl, tyX6_ok, nmX6, rfl, by decide +kernel, rfl⟩
theorem fc_X6_1 : FCL 6 1 true (.array .int) := ⟨RX6, TX6, 11, tyX6, rfl, tyX6_ok, nmX6, rfl, by decide +kernel, rfl⟩
theorem fc_X6_2 : FCL 6 2 false (.int) := ⟨RX6, TX6, 11, tyX6, rfl, tyX6_ok, nmX6, rfl, by decide +kernel, rfl⟩
theorem fc_X6_3 : FCL 6 3 true (.array .int) := ⟨RX6, TX6, 11, tyX6, rfl, tyX6_ok, nmX6, rfl, by decide +kernel, rfl⟩
theorem fc_X6_4 : FCL 6 4 false (.boolean) := ⟨RX6, TX6, 11, tyX6, rfl, tyX6_ok, nmX6, rfl, by decide +kernel, rfl⟩
theorem fc_X6_5 : FCL 6 5 true (.array .int) := ⟨RX6, TX6, 11, tyX6, rfl, tyX6_ok, nmX6, rfl, by decide +kernel, rfl⟩
theorem fc_X6_6 : FCL 6 6 false (.int) := ⟨RX6, TX6, 11, tyX6, rfl, tyX6_ok, nmX6, rfl, by decide +kernel, rfl⟩
theorem fc_X6_7 : FCL 6 7 true (.array .boolean) := ⟨RX6, TX6, 11, tyX6, rfl, tyX6_ok, nmX6, rfl, by decide +kernel, rfl⟩
theorem fc_X6_8 : FCL 6 8 true (.array .boolean) := ⟨RX6, TX6, 11, tyX6, rfl, tyX6_ok, nmX6, rfl, by decide +kernel, rfl⟩
theorem fc_X6_9 : FCL 6 9 true (.array .int) := ⟨RX6, TX6, 11, tyX6, rfl, tyX6_ok, nmX6, rfl, by decide +kernel, rfl⟩
theorem fc_X6_10 : FCL 6 10 true (.array .int) := ⟨RX6, TX6, 11, tyX6, rfl, tyX6_ok, nmX6, rfl, by decide +kernel, rfl⟩
theorem q156 : (Jvm.Cond.fieldLink "TideBoats$History" (11 : Nat) "TideBoats$History" "past" "[LTideBoats$State;") ∈ lw_all := all_mem 156 (by decide +kernel) (by decide +kernel)
theorem fl_X0_11 : FLD RX0 11 0 0 := ⟨RX0, TX0, 4, rfl, Nat.le_of_ble_eq_true rfl, in_X0, q156⟩
theorem q26 : (Jvm.Cond.code ({ cls := "TideBoats$State", name := "<init>", desc := "()V" } : Jvm.MethodName) prog_6_method_1_code (2 : Nat) (Option.none : Option Jvm.ClassFile.FieldType)) ∈ lw_all := all_mem 26 (by decide +kernel) (by decide +kernel)
theorem q25 : (Jvm.Cond.instanceMethod ({ cls := "TideBoats$State", name := "<init>", desc := "()V" } : Jvm.MethodName)) ∈ lw_all := all_mem 25 (by decide +kernel) (by decide +kernel)
theorem q155 : (Jvm.Cond.methodLink "TideBoats$History" (17 : Nat) ({ cls := "TideBoats$State", name := "<init>", desc := "()V" } : Jvm.MethodName)) ∈ lw_all := all_mem 155 (by decide +kernel) (by decide +kernel)
theorem q2 : (Jvm.Cond.initialized "TideBoats$State") ∈ lw_all := all_mem 2 (by decide +kernel) (by decide +kernel)
theorem kI_X0_17 : CWI RX0 17 yX4_init cX4_init 2 0 := ⟨q155, q25, q2, q26, rfl, ⟨by decide +kernel, by decide +kernel, by decide +kernel⟩⟩
theorem q157 : (Jvm.Cond.fieldLink "TideBoats$History" (18 : Nat) "TideBoats$History" "snapshot" "LTideBoats$State;") ∈ lw_all := all_mem 157 (by decide +kernel) (by decide +kernel)
theorem fl_X0_18 : FLD RX0 18 0 1 := ⟨RX0, TX0, 4, rfl, Nat.le_of_ble_eq_true rfl, in_X0, q157⟩
theorem q158 : (Jvm.Cond.fieldLink "TideBoats$History" (22 : Nat) "TideBoats$History" "size" "I") ∈ lw_all := all_mem 158 (by decide +kernel) (by decide +kernel)
theorem fl_X0_22 : FLD RX0 22 0 2 := ⟨RX0, TX0, 4, rfl, Nat.le_of_ble_eq_true rfl, in_X0, q158⟩
theorem q238 : (Jvm.Cond.code ({ cls := "TideBoats$History", name := "dropOldest", desc := "()V" } : Jvm.MethodName) prog_2_method_7_code (3 : Nat) (Option.none : Option Jvm.ClassFile.FieldType)) ∈ lw_all := all_mem 238 (by decide +kernel) (by decide +kernel)
theorem q235 : (Jvm.Cond.methodLink "TideBoats$History" (26 : Nat) ({ cls := "TideBoats$History", name := "dropOldest", desc := "()V" } : Jvm.MethodName)) ∈ lw_all := all_mem 235 (by decide +kernel) (by decide +kernel)
theorem q237 : (Jvm.Cond.instanceMethod ({ cls := "TideBoats$History", name := "dropOldest", desc := "()V" } : Jvm.MethodName)) ∈ lw_all := all_mem 237 (by decide +kernel) (by decide +kernel)
theorem qs1 : (Jvm.Cond.selects "TideBoats$History" ({ cls := "TideBoats$History", name := "dropOldest", desc := "()V" } : Jvm.MethodName) ({ cls := "TideBoats$History", name := "dropOldest", desc := "()V" } : Jvm.MethodName)) ∈ lw_all := all_memS 1 (by decide +kernel) (by decide +kernel)
theorem q5 : (Jvm.Cond.initialized "TideBoats$History") ∈ lw_all := all_mem 5 (by decide +kernel) (by decide +kernel)
theorem kV_X0_26 : CWV RX0 26 RX0 yX0_dropOldest cX0_dropOldest 3 (none) 0 := cwv_mk q235 q237 qs1 q5 q238 ⟨rfl, ⟨by decide +kernel, by decide +kernel, by decide +kernel⟩⟩
theorem q242 : (Jvm.Cond.code ({ cls := "TideBoats$History", name := "slotAt", desc := "(I)LTideBoats$State;" } : Jvm.MethodName) prog_2_method_6_code (2 : Nat) (Option.some (Jvm.ClassFile.FieldType.object "TideBoats$State"))) ∈ lw_all := all_mem 242 (by decide +kernel) (by decide +kernel)
theorem q239 : (Jvm.Cond.methodLink "TideBoats$History" (29 : Nat) ({ cls := "TideBoats$History", name := "slotAt", desc := "(I)LTideBoats$State;" } : Jvm.MethodName)) ∈ lw_all := all_mem 239 (by decide +kernel) (by decide +kernel)
theorem q241 : (Jvm.Cond.instanceMethod ({ cls := "TideBoats$History", name := "slotAt", desc := "(I)LTideBoats$State;" } : Jvm.MethodName)) ∈ lw_all := all_mem 241 (by decide +kernel) (by decide +kernel)
theorem qs2 : (Jvm.Cond.selects "TideBoats$History" ({ cls := "TideBoats$History", name := "slotAt", desc := "(I)LTideBoats$State;" } : Jvm.MethodName) ({ cls := "TideBoats$History", name := "slotAt", desc := "(I)LTideBoats$State;" } : Jvm.MethodName)) ∈ lw_all := all_memS 2 (by decide +kernel) (by decide +kernel)
theorem kV_X0_29 : CWV RX0 29 RX0 yX0_slotAt cX0_slotAt 2 (some (.object "TideBoats$State")) 1 := cwv_mk q239 q241 qs2 q5 q242 ⟨rfl, ⟨by decide +kernel, by decide +kernel, by decide +kernel⟩⟩
theorem q211 : (Jvm.Cond.code ({ cls := "TideBoats$State", name := "copyFrom", desc := "(LTideBoats$State;)V" } : Jvm.MethodName) prog_6_method_2_code (2 : Nat) (Option.none : Option Jvm.ClassFile.FieldType)) ∈ lw_all := all_mem 211 (by decide +kernel) (by decide +kernel)
theorem q243 : (Jvm.Cond.methodLink "TideBoats$History" (33 : Nat) ({ cls := "TideBoats$State", name := "copyFrom", desc := "(LTideBoats$State;)V" } : Jvm.MethodName)) ∈ lw_all := all_mem 243 (by decide +kernel) (by decide +kernel)
theorem q209 : (Jvm.Cond.instanceMethod ({ cls := "TideBoats$State", name := "copyFrom", desc := "(LTideBoats$State;)V" } : Jvm.MethodName)) ∈ lw_all := all_mem 209 (by decide +kernel) (by decide +kernel)
theorem q210 : (Jvm.Cond.selects "TideBoats$State" ({ cls := "TideBoats$State", name := "copyFrom", desc := "(LTideBoats$State;)V" } : Jvm.MethodName) ({ cls := "TideBoats$State", name := "copyFrom", desc := "(LTideBoats$State;)V" } : Jvm.MethodName)) ∈ lw_all := all_mem 210 (by decide +kernel) (by decide +kernel)
theorem kV_X0_33 : CWV RX0 33 RX4 yX4_copyFrom cX4_copyFrom 2 (none) 1 := cwv_mk q243 q209 q210 q2 q211 ⟨rfl, ⟨by decide +kernel, by decide +kernel, by decide +kernel⟩⟩
theorem q160 : (Jvm.Cond.fieldLink "TideBoats$History" (37 : Nat) "TideBoats$History" "hasSnapshot" "Z") ∈ lw_all := all_mem 160 (by decide +kernel) (by decide +kernel)
theorem fl_X0_37 : FLD RX0 37 0 3 := ⟨RX0, TX0, 4, rfl, Nat.le_of_ble_eq_true rfl, in_X0, q160⟩
theorem q67 : (Jvm.Cond.fieldLinkNest "TideBoats$History" (41 : Nat) "TideBoats$State" "turn" "I" "TideBoats") ∈ lw_nst := nst_mem 67 (by decide +kernel) (by decide +kernel)
theorem fl_X0_41 : FLN RX0 41 4 9 := ⟨RX4, TX4, 14, rfl, Nat.le_of_ble_eq_true rfl, in_X4, _, q67⟩
theorem q125 : (Jvm.Cond.fieldLink "TideBoats$HomeSearch" (9 : Nat) "TideBoats$HomeSearch" "cellsUpTo" "[J") ∈ lw_all := all_mem 125 (by decide +kernel) (by decide +kernel)
theorem fl_X1_9 : FLD RX1 9 1 1 := ⟨RX1, TX1, 7, rfl, Nat.le_of_ble_eq_true rfl, in_X1, q125⟩
theorem q124 : (Jvm.Cond.fieldLink "TideBoats$HomeSearch" (15 : Nat) "TideBoats$HomeSearch" "sea" "LTideBoats$State;") ∈ lw_all := all_mem 124 (by decide +kernel) (by decide +kernel)
theorem fl_X1_15 : FLD RX1 15 1 0 := ⟨RX1, TX1, 7, rfl, Nat.le_of_ble_eq_true rfl, in_X1, q124⟩
theorem q43 : (Jvm.Cond.fieldLinkNest "TideBoats$HomeSearch" (19 : Nat) "TideBoats$State" "owners" "[I" "TideBoats") ∈ lw_nst := nst_mem 43 (by decide +kernel) (by decide +kernel)
theorem fl_X1_19 : FLN RX1 19 4 2 := ⟨RX4, TX4, 14, rfl, Nat.le_of_ble_eq_true rfl, in_X4, _, q43⟩
theorem q225 : (Jvm.Cond.code ({ cls := "TideBoats", name := "read", desc := "([II)I" } : Jvm.MethodName) prog_1_method_35_code (2 : Nat) (Option.some Jvm.ClassFile.FieldType.int)) ∈ lw_all := all_mem 225 (by decide +kernel) (by decide +kernel)
theorem q224 : (Jvm.Cond.static ({ cls := "TideBoats", name := "read", desc := "([II)I" } : Jvm.MethodName)) ∈ lw_all := all_mem 224 (by decide +kernel) (by decide +kernel)
theorem q686 : (Jvm.Cond.methodLinkNest "TideBoats$HomeSearch" (25 : Nat) ({ cls := "TideBoats", name := "read", desc := "([II)I" } : Jvm.MethodName) "TideBoats") ∈ lw_nst := nst_mem 686 (by decide +kernel) (by decide +kernel)
theorem q1 : (Jvm.Cond.initialized "TideBoats") ∈ lw_all := all_mem 1 (by decide +kernel) (by decide +kernel)
theorem kN_X1_25 : CWN RX1 25 yX5_read cX5_read 2 (some .int) 2 := ⟨⟨_, q686⟩, q224, q1, q225, ⟨by decide +kernel, by decide +kernel, by decide +kernel⟩⟩
theorem q129 : (Jvm.Cond.fieldLink "TideBoats$HomeSearch" (29 : Nat) "TideBoats$HomeSearch" "player" "I") ∈ lw_all := all_mem 129 (by decide +kernel) (by decide +kernel)
theorem fl_X1_29 : FLD RX1 29 1 5 := ⟨RX1, TX1, 7, rfl, Nat.le_of_ble_eq_true rfl, in_X1, q129⟩
theorem q47 : (Jvm.Cond.fieldLinkNest "TideBoats$HomeSearch" (33 : Nat) "TideBoats$State" "drafts" "[I" "TideBoats") ∈ lw_nst := nst_mem 47 (by decide +kernel) (by decide +kernel)
theorem fl_X1_33 : FLN RX1 33 4 3 := ⟨RX4, TX4, 14, rfl, Nat.le_of_ble_eq_true rfl, in_X4, _, q47⟩
theorem q130 : (Jvm.Cond.fieldLink "TideBoats$HomeSearch" (36 : Nat) "TideBoats$HomeSearch" "draft" "I") ∈ lw_all := all_mem 130 (by decide +kernel) (by decide +kernel)
theorem fl_X1_36 : FLD RX1 36 1 6 := ⟨RX1, TX1, 7, rfl, Nat.le_of_ble_eq_true rfl, in_X1, q130⟩
theorem q338 : (Jvm.Cond.code ({ cls := "TideBoats", name := "harbourOf", desc := "(I)I" } : Jvm.MethodName) prog_1_method_32_code (1 : Nat) (Option.some Jvm.ClassFile.FieldType.int)) ∈ lw_all := all_mem 338 (by decide +kernel) (by decide +kernel)
theorem q337 : (Jvm.Cond.static ({ cls := "TideBoats", name := "harbourOf", desc := "(I)I" } : Jvm.MethodName)) ∈ lw_all := all_mem 337 (by decide +kernel) (by decide +kernel)
theorem q687 : (Jvm.Cond.methodLinkNest "TideBoats$HomeSearch" (39 : Nat) ({ cls := "TideBoats", name := "harbourOf", desc := "(I)I" } : Jvm.MethodName) "TideBoats") ∈ lw_nst := nst_mem 687 (by decide +kernel) (by decide +kernel)
theorem kN_X1_39 : CWN RX1 39 yX5_harbourOf cX5_harbourOf 1 (some .int) 1 := ⟨⟨_, q687⟩, q337, q1, q338, ⟨by decide +kernel, by decide +kernel, by decide +kernel⟩⟩
theorem q690 : (Jvm.Cond.code ({ cls := "TideBoats$HomeSearch", name := "setOf", desc := "(I)J" } : Jvm.MethodName) prog_3_method_11_code (1 : Nat) (Option.some Jvm.ClassFile.FieldType.long)) ∈ lw_all := all_mem 690 (by decide +kernel) (by decide +kernel)
theorem q689 : (Jvm.Cond.static ({ cls := "TideBoats$HomeSearch", name := "setOf", desc := "(I)J" } : Jvm.MethodName)) ∈ lw_all := all_mem 689 (by decide +kernel) (by decide +kernel)
theorem q688 : (Jvm.Cond.methodLink "TideBoats$HomeSearch" (43 : Nat) ({ cls := "TideBoats$HomeSearch", name := "setOf", desc := "(I)J" } : Jvm.MethodName)) ∈ lw_all := all_mem 688 (by decide +kernel) (by decide +kernel)
theorem q4 : (Jvm.Cond.initialized "TideBoats$HomeSearch") ∈ lw_all := all_mem 4 (by decide +kernel) (by decide +kernel)
theorem kS_X1_43 : CWS RX1 43 yX1_setOf cX1_setOf 1 (some .long) 1 := cws_mk q688 q689 q4 q690 ⟨by decide +kernel, by decide +kernel, by decide +kernel⟩
theorem q127 : (Jvm.Cond.fieldLink "TideBoats$HomeSearch" (47 : Nat) "TideBoats$HomeSearch" "ownHarbour" "J") ∈ lw_all := all_mem 127 (by decide +kernel) (by decide +kernel)
theorem fl_X1_47 : FLD RX1 47 1 3 := ⟨RX1, TX1, 7, rfl, Nat.le_of_ble_eq_true rfl, in_X1, q127⟩
theorem q128 : (Jvm.Cond.fieldLink "TideBoats$HomeSearch" (51 : Nat) "TideBoats$HomeSearch" "otherHarbour" "J") ∈ lw_all := all_mem 128 (by decide +kernel) (by decide +kernel)
theorem fl_X1_51 : FLD RX1 51 1 4 := ⟨RX1, TX1, 7, rfl, Nat.le_of_ble_eq_true rfl, in_X1, q128⟩
theorem q126 : (Jvm.Cond.fieldLink "TideBoats$HomeSearch" (54 : Nat) "TideBoats$HomeSearch" "rockCells" "J") ∈ lw_all := all_mem 126 (by decide +kernel) (by decide +kernel)
theorem fl_X1_54 : FLD RX1 54 1 2 := ⟨RX1, TX1, 7, rfl, Nat.le_of_ble_eq_true rfl, in_X1, q126⟩
theorem q40 : (Jvm.Cond.fieldLinkNest "TideBoats$HomeSearch" (57 : Nat) "TideBoats$State" "rocks" "[I" "TideBoats") ∈ lw_nst := nst_mem 40 (by decide +kernel) (by decide +kernel)
theorem fl_X1_57 : FLN RX1 57 4 1 := ⟨RX4, TX4, 14, rfl, Nat.le_of_ble_eq_true rfl, in_X4, _, q40⟩
theorem q36 : (Jvm.Cond.fieldLinkNest "TideBoats$HomeSearch" (60 : Nat) "TideBoats$State" "heights" "[I" "TideBoats") ∈ lw_nst := nst_mem 36 (by decide +kernel) (by decide +kernel)
theorem fl_X1_60 : FLN RX1 60 4 0 := ⟨RX4, TX4, 14, rfl, Nat.le_of_ble_eq_true rfl, in_X4, _, q36⟩
theorem q443 : (Jvm.Cond.code ({ cls := "java/lang/Math", name := "max", desc := "(II)I" } : Jvm.MethodName) prog_10_method_65_code (2 : Nat) (Option.some Jvm.ClassFile.FieldType.int)) ∈ lw_all := all_mem 443 (by decide +kernel) (by decide +kernel)
theorem q442 : (Jvm.Cond.static ({ cls := "java/lang/Math", name := "max", desc := "(II)I" } : Jvm.MethodName)) ∈ lw_all := all_mem 442 (by decide +kernel) (by decide +kernel)
theorem q692 : (Jvm.Cond.methodLink "TideBoats$HomeSearch" (63 : Nat) ({ cls := "java/lang/Math", name := "max", desc := "(II)I" } : Jvm.MethodName)) ∈ lw_all := all_mem 692 (by decide +kernel) (by decide +kernel)
theorem q10 : (Jvm.Cond.initialized "java/lang/Math") ∈ lw_all := all_mem 10 (by decide +kernel) (by decide +kernel)
theorem kS_X1_63 : CWS RX1 63 yJ9_max_7cf53 cJ9_max_7cf53 2 (some .int) 2 := cws_mk q692 q442 q10 q443 ⟨by decide +kernel, by decide +kernel, by decide +kernel⟩
theorem q76 : (Jvm.Cond.fieldLinkNest "TideBoats$HomeSearch" (69 : Nat) "TideBoats$State" "lastTurn" "I" "TideBoats") ∈ lw_nst := nst_mem 76 (by decide +kernel) (by decide +kernel)
theorem fl_X1_69 : FLN RX1 69 4 13 := ⟨RX4, TX4, 14, rfl, Nat.le_of_ble_eq_true rfl, in_X4, _, q76⟩
theorem q700 : (Jvm.Cond.code ({ cls := "TideBoats$HomeSearch", name := "wetCells", desc := "(I)J" } : Jvm.MethodName) prog_3_method_9_code (3 : Nat) (Option.some Jvm.ClassFile.FieldType.long)) ∈ lw_all := all_mem 700 (by decide +kernel) (by decide +kernel)
theorem q697 : (Jvm.Cond.methodLink "TideBoats$HomeSearch" (72 : Nat) ({ cls := "TideBoats$HomeSearch", name := "wetCells", desc := "(I)J" } : Jvm.MethodName)) ∈ lw_all := all_mem 697 (by decide +kernel) (by decide +kernel)
theorem q699 : (Jvm.Cond.instanceMethod ({ cls := "TideBoats$HomeSearch", name := "wetCells", desc := "(I)J" } : Jvm.MethodName)) ∈ lw_all := all_mem 699 (by decide +kernel) (by decide +kernel)
theorem qs9 : (Jvm.Cond.selects "TideBoats$HomeSearch" ({ cls := "TideBoats$HomeSearch", name := "wetCells", desc := "(I)J" } : Jvm.MethodName) ({ cls := "TideBoats$HomeSearch", name := "wetCells", desc := "(I)J" } : Jvm.MethodName)) ∈ lw_all := all_memS 9 (by decide +kernel) (by decide +kernel)
theorem kV_X1_72 : CWV RX1 72 RX1 yX1_wetCells cX1_wetCells 3 (some .long) 1 := cwv_mk q697 q699 qs9 q4 q700 ⟨rfl, ⟨by decide +kernel, by decide +kernel, by decide +kernel⟩⟩
theorem q706 : (Jvm.Cond.code ({ cls := "TideBoats$HomeSearch", name := "goalsOf", desc := "(JJ)J" } : Jvm.MethodName) prog_3_method_7_code (11 : Nat) (Option.some Jvm.ClassFile.FieldType.long)) ∈ lw_all := all_mem 706 (by decide +kernel) (by decide +kernel)
theorem q703 : (Jvm.Cond.methodLink "TideBoats$HomeSearch" (75 : Nat) ({ cls := "TideBoats$HomeSearch", name := "goalsOf", desc := "(JJ)J" } : Jvm.MethodName)) ∈ lw_all := all_mem 703 (by decide +kernel) (by decide +kernel)
theorem q705 : (Jvm.Cond.instanceMethod ({ cls := "TideBoats$HomeSearch", name := "goalsOf", desc := "(JJ)J" } : Jvm.MethodName)) ∈ lw_all := all_mem 705 (by decide +kernel) (by decide +kernel)
theorem qs10 : (Jvm.Cond.selects "TideBoats$HomeSearch" ({ cls := "TideBoats$HomeSearch", name := "goalsOf", desc := "(JJ)J" } : Jvm.MethodName) ({ cls := "TideBoats$HomeSearch", name := "goalsOf", desc := "(JJ)J" } : Jvm.MethodName)) ∈ lw_all := all_memS 10 (by decide +kernel) (by decide +kernel)
theorem kV_X1_75 : CWV RX1 75 RX1 yX1_goalsOf cX1_goalsOf 11 (some .long) 2 := cwv_mk q703 q705 qs10 q4 q706 ⟨rfl, ⟨by decide +kernel, by decide +kernel, by decide +kernel⟩⟩
theorem q717 : (Jvm.Cond.code ({ cls := "TideBoats$HomeSearch", name := "wreckingCells", desc := "(I)J" } : Jvm.MethodName) prog_3_method_10_code (2 : Nat) (Option.some Jvm.ClassFile.FieldType.long)) ∈ lw_all := all_mem 717 (by decide +kernel) (by decide +kernel)
theorem q714 : (Jvm.Cond.methodLink "TideBoats$HomeSearch" (79 : Nat) ({ cls := "TideBoats$HomeSearch", name := "wreckingCells", desc := "(I)J" } : Jvm.MethodName)) ∈ lw_all := all_mem 714 (by decide +kernel) (by decide +kernel)
theorem q716 : (Jvm.Cond.instanceMethod ({ cls := "TideBoats$HomeSearch", name := "wreckingCells", desc := "(I)J" } : Jvm.MethodName)) ∈ lw_all := all_mem 716 (by decide +kernel) (by decide +kernel)
theorem qs11 : (Jvm.Cond.selects "TideBoats$HomeSearch" ({ cls := "TideBoats$HomeSearch", name := "wreckingCells", desc := "(I)J" } : Jvm.MethodName) ({ cls := "TideBoats$HomeSearch", name := "wreckingCells", desc := "(I)J" } : Jvm.MethodName)) ∈ lw_all := all_memS 11 (by decide +kernel) (by decide +kernel)
theorem kV_X1_79 : CWV RX1 79 RX1 yX1_wreckingCells cX1_wreckingCells 2 (some .long) 1 := cwv_mk q714 q716 qs11 q4 q717 ⟨rfl, ⟨by decide +kernel, by decide +kernel, by decide +kernel⟩⟩
theorem q725 : (Jvm.Cond.code ({ cls := "TideBoats$HomeSearch", name := "cellsThatLeadHome", desc := "(II)J" } : Jvm.MethodName) prog_3_method_6_code (6 : Nat) (Option.some Jvm.ClassFile.FieldType.long)) ∈ lw_all := all_mem 725 (by decide +kernel) (by decide +kernel)
theorem q722 : (Jvm.Cond.methodLink "TideBoats$HomeSearch" (84 : Nat) ({ cls := "TideBoats$HomeSearch", name := "cellsThatLeadHome", desc := "(II)J" } : Jvm.MethodName)) ∈ lw_all := all_mem 722 (by decide +kernel) (by decide +kernel)
theorem q724 : (Jvm.Cond.instanceMethod ({ cls := "TideBoats$HomeSearch", name := "cellsThatLeadHome", desc := "(II)J" } : Jvm.MethodName)) ∈ lw_all := all_mem 724 (by decide +kernel) (by decide +kernel)
theorem qs12 : (Jvm.Cond.selects "TideBoats$HomeSearch" ({ cls := "TideBoats$HomeSearch", name := "cellsThatLeadHome", desc := "(II)J" } : Jvm.MethodName) ({ cls := "TideBoats$HomeSearch", name := "cellsThatLeadHome", desc := "(II)J" } : Jvm.MethodName)) ∈ lw_all := all_memS 12 (by decide +kernel) (by decide +kernel)
theorem kV_X1_84 : CWV RX1 84 RX1 yX1_cellsThatLeadHome cX1_cellsThatLeadHome 6 (some .long) 2 := cwv_mk q722 q724 qs12 q4 q725 ⟨rfl, ⟨by decide +kernel, by decide +kernel, by decide +kernel⟩⟩
theorem q696 : (Jvm.Cond.code ({ cls := "TideBoats$HomeSearch", name := "turnsForwards", desc := "(II)I" } : Jvm.MethodName) prog_3_method_3_code (6 : Nat) (Option.some Jvm.ClassFile.FieldType.int)) ∈ lw_all := all_mem 696 (by decide +kernel) (by decide +kernel)
theorem q750 : (Jvm.Cond.methodLink "TideBoats$HomeSearch" (88 : Nat) ({ cls := "TideBoats$HomeSearch", name := "turnsForwards", desc := "(II)I" } : Jvm.MethodName)) ∈ lw_all := all_mem 750 (by decide +kernel) (by decide +kernel)
theorem q694 : (Jvm.Cond.instanceMethod ({ cls := "TideBoats$HomeSearch", name := "turnsForwards", desc := "(II)I" } : Jvm.MethodName)) ∈ lw_all := all_mem 694 (by decide +kernel) (by decide +kernel)
theorem q695 : (Jvm.Cond.selects "TideBoats$HomeSearch" ({ cls := "TideBoats$HomeSearch", name := "turnsForwards", desc := "(II)I" } : Jvm.MethodName) ({ cls := "TideBoats$HomeSearch", name := "turnsForwards", desc := "(II)I" } : Jvm.MethodName)) ∈ lw_all := all_mem 695 (by decide +kernel) (by decide +kernel)
theorem kV_X1_88 : CWV RX1 88 RX1 yX1_turnsForwards cX1_turnsForwards 6 (some .int) 2 := cwv_mk q750 q694 q695 q4 q696 ⟨rfl, ⟨by decide +kernel, by decide +kernel, by decide +kernel⟩⟩
theorem q729 : (Jvm.Cond.code ({ cls := "TideBoats$HomeSearch", name := "startsFor", desc := "(JJ)J" } : Jvm.MethodName) prog_3_method_8_code (13 : Nat) (Option.some Jvm.ClassFile.FieldType.long)) ∈ lw_all := all_mem 729 (by decide +kernel) (by decide +kernel)
theorem q726 : (Jvm.Cond.methodLink "TideBoats$HomeSearch" (91 : Nat) ({ cls := "TideBoats$HomeSearch", name := "startsFor", desc := "(JJ)J" } : Jvm.MethodName)) ∈ lw_all := all_mem 726 (by decide +kernel) (by decide +kernel)
theorem q728 : (Jvm.Cond.instanceMethod ({ cls := "TideBoats$HomeSearch", name := "startsFor", desc := "(JJ)J" } : Jvm.MethodName)) ∈ lw_all := all_mem 728 (by decide +kernel) (by decide +kernel)
theorem qs13 : (Jvm.Cond.selects "TideBoats$HomeSearch" ({ cls := "TideBoats$HomeSearch", name := "startsFor", desc := "(JJ)J" } : Jvm.MethodName) ({ cls := "TideBoats$HomeSearch", name := "startsFor", desc := "(JJ)J" } : Jvm.MethodName)) ∈ lw_all := all_memS 13 (by decide +kernel) (by decide +kernel)
theorem kV_X1_91 : CWV RX1 91 RX1 yX1_startsFor cX1_startsFor 13 (some .long) 2 := cwv_mk q726 q728 qs13 q4 q729 ⟨rfl, ⟨by decide +kernel, by decide +kernel, by decide +kernel⟩⟩
theorem q710 : (Jvm.Cond.code ({ cls := "TideBoats$HomeSearch", name := "beside", desc := "(JI)J" } : Jvm.MethodName) prog_3_method_12_code (3 : Nat) (Option.some Jvm.ClassFile.FieldType.long)) ∈ lw_all := all_mem 710 (by decide +kernel) (by decide +kernel)
theorem q709 : (Jvm.Cond.static ({ cls := "TideBoats$HomeSearch", name := "beside", desc := "(JI)J" } : Jvm.MethodName)) ∈ lw_all := all_mem 709 (by decide +kernel) (by decide +kernel)
theorem q708 : (Jvm.Cond.methodLink "TideBoats$HomeSearch" (94 : Nat) ({ cls := "TideBoats$HomeSearch", name := "beside", desc := "(JI)J" } : Jvm.MethodName)) ∈ lw_all := all_mem 708 (by decide +kernel) (by decide +kernel)
theorem kS_X1_94 : CWS RX1 94 yX1_beside cX1_beside 3 (some .long) 2 := cws_mk q708 q709 q4 q710 ⟨by decide +kernel, by decide +kernel, by decide +kernel⟩
theorem q331 : (Jvm.Cond.code ({ cls := "TideBoats$State", name := "tideIn", desc := "(I)I" } : Jvm.MethodName) prog_6_method_6_code (4 : Nat) (Option.some Jvm.ClassFile.FieldType.int)) ∈ lw_all := all_mem 331 (by decide +kernel) (by decide +kernel)
theorem q701 : (Jvm.Cond.methodLink "TideBoats$HomeSearch" (98 : Nat) ({ cls := "TideBoats$State", name := "tideIn", desc := "(I)I" } : Jvm.MethodName)) ∈ lw_all := all_mem 701 (by decide +kernel) (by decide +kernel)
theorem q329 : (Jvm.Cond.instanceMethod ({ cls := "TideBoats$State", name := "tideIn", desc := "(I)I" } : Jvm.MethodName)) ∈ lw_all := all_mem 329 (by decide +kernel) (by decide +kernel)
theorem q330 : (Jvm.Cond.selects "TideBoats$State" ({ cls := "TideBoats$State", name := "tideIn", desc := "(I)I" } : Jvm.MethodName) ({ cls := "TideBoats$State", name := "tideIn", desc := "(I)I" } : Jvm.MethodName)) ∈ lw_all := all_mem 330 (by decide +kernel) (by decide +kernel)
theorem kV_X1_98 : CWV RX1 98 RX4 yX4_tideIn cX4_tideIn 4 (some .int) 1 := cwv_mk q701 q329 q330 q2 q331 ⟨rfl, ⟨by decide +kernel, by decide +kernel, by decide +kernel⟩⟩
theorem q446 : (Jvm.Cond.code ({ cls := "java/lang/Math", name := "min", desc := "(II)I" } : Jvm.MethodName) prog_10_method_69_code (2 : Nat) (Option.some Jvm.ClassFile.FieldType.int)) ∈ lw_all := all_mem 446 (by decide +kernel) (by decide +kernel)
theorem q445 : (Jvm.Cond.static ({ cls := "java/lang/Math", name := "min", desc := "(II)I" } : Jvm.MethodName)) ∈ lw_all := all_mem 445 (by decide +kernel) (by decide +kernel)
theorem q702 : (Jvm.Cond.methodLink "TideBoats$HomeSearch" (101 : Nat) ({ cls := "java/lang/Math", name := "min", desc := "(II)I" } : Jvm.MethodName)) ∈ lw_all := all_mem 702 (by decide +kernel) (by decide +kernel)
theorem kS_X1_101 : CWS RX1 101 yJ9_min_7cf53 cJ9_min_7cf53 2 (some .int) 2 := cws_mk q702 q445 q10 q446 ⟨by decide +kernel, by decide +kernel, by decide +kernel⟩
theorem q221 : (Jvm.Cond.code ({ cls := "TideBoats", name := "isCell", desc := "(I)Z" } : Jvm.MethodName) prog_1_method_28_code (1 : Nat) (Option.some Jvm.ClassFile.FieldType.boolean)) ∈ lw_all := all_mem 221 (by decide +kernel) (by decide +kernel)
theorem q220 : (Jvm.Cond.static ({ cls := "TideBoats", name := "isCell", desc := "(I)Z" } : Jvm.MethodName)) ∈ lw_all := all_mem 220 (by decide +kernel) (by decide +kernel)
theorem q691 : (Jvm.Cond.methodLinkNest "TideBoats$HomeSearch" (104 : Nat) ({ cls := "TideBoats", name := "isCell", desc := "(I)Z" } : Jvm.MethodName) "TideBoats") ∈ lw_nst := nst_mem 691 (by decide +kernel) (by decide +kernel)
theorem kN_X1_104 : CWN RX1 104 yX5_isCell cX5_isCell 1 (some .boolean) 1 := ⟨⟨_, q691⟩, q220, q1, q221, ⟨by decide +kernel, by decide +kernel, by decide +kernel⟩⟩
theorem q176 : (Jvm.Cond.fieldLink "TideBoats$Orders" (9 : Nat) "TideBoats$Orders" "signs" "[C") ∈ lw_all := all_mem 176 (by decide +kernel) (by decide +kernel)
theorem fl_X2_9 : FLD RX2 9 2 0 := ⟨RX2, TX2, 2, rfl, Nat.le_of_ble_eq_true rfl, in_X2, q176⟩
theorem q177 : (Jvm.Cond.fieldLink "TideBoats$Orders" (15 : Nat) "TideBoats$Orders" "length" "I") ∈ lw_all := all_mem 177 (by decide +kernel) (by decide +kernel)
theorem fl_X2_15 : FLD RX2 15 2 1 := ⟨RX2, TX2, 2, rfl, Nat.le_of_ble_eq_true rfl, in_X2, q177⟩
theorem q401 : (Jvm.Cond.code ({ cls := "TideBoats$Orders", name := "endOfOrder", desc := "(I)I" } : Jvm.MethodName) prog_4_method_5_code (5 : Nat) (Option.some Jvm.ClassFile.FieldType.int)) ∈ lw_all := all_mem 401 (by decide +kernel) (by decide +kernel)
theorem q398 : (Jvm.Cond.methodLink "TideBoats$Orders" (19 : Nat) ({ cls := "TideBoats$Orders", name := "endOfOrder", desc := "(I)I" } : Jvm.MethodName)) ∈ lw_all := all_mem 398 (by decide +kernel) (by decide +kernel)
theorem q399 : (Jvm.Cond.instanceMethod ({ cls := "TideBoats$Orders", name := "endOfOrder", desc := "(I)I" } : Jvm.MethodName)) ∈ lw_all := all_mem 399 (by decide +kernel) (by decide +kernel)
theorem q400 : (Jvm.Cond.selects "TideBoats$Orders" ({ cls := "TideBoats$Orders", name := "endOfOrder", desc := "(I)I" } : Jvm.MethodName) ({ cls := "TideBoats$Orders", name := "endOfOrder", desc := "(I)I" } : Jvm.MethodName)) ∈ lw_all := all_mem 400 (by decide +kernel) (by decide +kernel)
theorem q6 : (Jvm.Cond.initialized "TideBoats$Orders") ∈ lw_all := all_mem 6 (by decide +kernel) (by decide +kernel)
theorem kV_X2_19 : CWV RX2 19 RX2 yX2_endOfOrder cX2_endOfOrder 5 (some .int) 1 := cwv_mk q398 q399 q400 q6 q401 ⟨rfl, ⟨by decide +kernel, by decide +kernel, by decide +kernel⟩⟩
theorem q405 : (Jvm.Cond.code ({ cls := "TideBoats$Orders", name := "signAt", desc := "(I)C" } : Jvm.MethodName) prog_4_method_6_code (2 : Nat) (Option.some Jvm.ClassFile.FieldType.char)) ∈ lw_all := all_mem 405 (by decide +kernel) (by decide +kernel)
theorem q402 : (Jvm.Cond.methodLink "TideBoats$Orders" (23 : Nat) ({ cls := "TideBoats$Orders", name := "signAt", desc := "(I)C" } : Jvm.MethodName)) ∈ lw_all := all_mem 402 (by decide +kernel) (by decide +kernel)
theorem q403 : (Jvm.Cond.instanceMethod ({ cls := "TideBoats$Orders", name := "signAt", desc := "(I)C" } : Jvm.MethodName)) ∈ lw_all := all_mem 403 (by decide +kernel) (by decide +kernel)
theorem q404 : (Jvm.Cond.selects "TideBoats$Orders" ({ cls := "TideBoats$Orders", name := "signAt", desc := "(I)C" } : Jvm.MethodName) ({ cls := "TideBoats$Orders", name := "signAt", desc := "(I)C" } : Jvm.MethodName)) ∈ lw_all := all_mem 404 (by decide +kernel) (by decide +kernel)
theorem kV_X2_23 : CWV RX2 23 RX2 yX2_signAt cX2_signAt 2 (some .char) 1 := cwv_mk q402 q403 q404 q6 q405 ⟨rfl, ⟨by decide +kernel, by decide +kernel, by decide +kernel⟩⟩
theorem q408 : (Jvm.Cond.code ({ cls := "TideBoats$Orders", name := "placesOfOrder", desc := "(C)Ljava/lang/String;" } : Jvm.MethodName) prog_4_method_16_code (1 : Nat) (Option.some (Jvm.ClassFile.FieldType.object "java/lang/String"))) ∈ lw_all := all_mem 408 (by decide +kernel) (by decide +kernel)
theorem q407 : (Jvm.Cond.static ({ cls := "TideBoats$Orders", name := "placesOfOrder", desc := "(C)Ljava/lang/String;" } : Jvm.MethodName)) ∈ lw_all := all_mem 407 (by decide +kernel) (by decide +kernel)
theorem q406 : (Jvm.Cond.methodLink "TideBoats$Orders" (27 : Nat) ({ cls := "TideBoats$Orders", name := "placesOfOrder", desc := "(C)Ljava/lang/String;" } : Jvm.MethodName)) ∈ lw_all := all_mem 406 (by decide +kernel) (by decide +kernel)
theorem kS_X2_27 : CWS RX2 27 yX2_placesOfOrder cX2_placesOfOrder 1 (some (.object "java/lang/String")) 1 := cws_mk q406 q407 q6 q408 ⟨by decide +kernel, by decide +kernel, by decide +kernel⟩
theorem q430 : (Jvm.Cond.code ({ cls := "java/lang/String", name := "length", desc := "()I" } : Jvm.MethodName) prog_11_method_54_code (1 : Nat) (Option.some Jvm.ClassFile.FieldType.int)) ∈ lw_all := all_mem 430 (by decide +kernel) (by decide +kernel)
theorem q504 : (Jvm.Cond.methodLink "TideBoats$Orders" (31 : Nat) ({ cls := "java/lang/String", name := "length", desc := "()I" } : Jvm.MethodName)) ∈ lw_all := all_mem 504 (by decide +kernel) (by decide +kernel)
theorem q428 : (Jvm.Cond.instanceMethod ({ cls := "java/lang/String", name := "length", desc := "()I" } : Jvm.MethodName)) ∈ lw_all := all_mem 428 (by decide +kernel) (by decide +kernel)
theorem q429 : (Jvm.Cond.selects "java/lang/String" ({ cls := "java/lang/String", name := "length", desc := "()I" } : Jvm.MethodName) ({ cls := "java/lang/String", name := "length", desc := "()I" } : Jvm.MethodName)) ∈ lw_all := all_mem 429 (by decide +kernel) (by decide +kernel)
theorem q8 : (Jvm.Cond.initialized "java/lang/String") ∈ lw_all := all_mem 8 (by decide +kernel) (by decide +kernel)
theorem kV_X2_31 : CWV RX2 31 RJ0 yJ0_length_8abf5 cJ0_length_8abf5 1 (some .int) 0 := cwv_mk q504 q428 q429 q8 q430 ⟨rfl, ⟨by decide +kernel, by decide +kernel, by decide +kernel⟩⟩
theorem q508 : (Jvm.Cond.code ({ cls := "java/lang/String", name := "charAt", desc := "(I)C" } : Jvm.MethodName) prog_11_method_56_code (2 : Nat) (Option.some Jvm.ClassFile.FieldType.char)) ∈ lw_all := all_mem 508 (by decide +kernel) (by decide +kernel)
theorem q505 : (Jvm.Cond.methodLink "TideBoats$Orders" (36 : Nat) ({ cls := "java/lang/String", name := "charAt", desc := "(I)C" } : Jvm.MethodName)) ∈ lw_all := all_mem 505 (by decide +kernel) (by decide +kernel)
theorem q506 : (Jvm.Cond.instanceMethod ({ cls := "java/lang/String", name := "charAt", desc := "(I)C" } : Jvm.MethodName)) ∈ lw_all := all_mem 506 (by decide +kernel) (by decide +kernel)
theorem q507 : (Jvm.Cond.selects "java/lang/String" ({ cls := "java/lang/String", name := "charAt", desc := "(I)C" } : Jvm.MethodName) ({ cls := "java/lang/String", name := "charAt", desc := "(I)C" } : Jvm.MethodName)) ∈ lw_all := all_mem 507 (by decide +kernel) (by decide +kernel)
theorem kV_X2_36 : CWV RX2 36 RJ0 yJ0_charAt_5068e cJ0_charAt_5068e 2 (some .char) 1 := cwv_mk q505 q506 q507 q8 q508 ⟨rfl, ⟨by decide +kernel, by decide +kernel, by decide +kernel⟩⟩
theorem q527 : (Jvm.Cond.code ({ cls := "TideBoats$Orders", name := "fits", desc := "(CC)Z" } : Jvm.MethodName) prog_4_method_17_code (3 : Nat) (Option.some Jvm.ClassFile.FieldType.boolean)) ∈ lw_all := all_mem 527 (by decide +kernel) (by decide +kernel)
theorem q526 : (Jvm.Cond.static ({ cls := "TideBoats$Orders", name := "fits", desc := "(CC)Z" } : Jvm.MethodName)) ∈ lw_all := all_mem 526 (by decide +kernel) (by decide +kernel)
theorem q525 : (Jvm.Cond.methodLink "TideBoats$Orders" (39 : Nat) ({ cls := "TideBoats$Orders", name := "fits", desc := "(CC)Z" } : Jvm.MethodName)) ∈ lw_all := all_mem 525 (by decide +kernel) (by decide +kernel)
theorem kS_X2_39 : CWS RX2 39 yX2_fits cX2_fits 3 (some .boolean) 2 := cws_mk q525 q526 q6 q527 ⟨by decide +kernel, by decide +kernel, by decide +kernel⟩
theorem q411 : (Jvm.Cond.code ({ cls := "TideBoats$Orders", name := "isColumn", desc := "(C)Z" } : Jvm.MethodName) prog_4_method_15_code (1 : Nat) (Option.some Jvm.ClassFile.FieldType.boolean)) ∈ lw_all := all_mem 411 (by decide +kernel) (by decide +kernel)
theorem q410 : (Jvm.Cond.static ({ cls := "TideBoats$Orders", name := "isColumn", desc := "(C)Z" } : Jvm.MethodName)) ∈ lw_all := all_mem 410 (by decide +kernel) (by decide +kernel)
theorem q409 : (Jvm.Cond.methodLink "TideBoats$Orders" (43 : Nat) ({ cls := "TideBoats$Orders", name := "isColumn", desc := "(C)Z" } : Jvm.MethodName)) ∈ lw_all := all_mem 409 (by decide +kernel) (by decide +kernel)
theorem kS_X2_43 : CWS RX2 43 yX2_isColumn cX2_isColumn 1 (some .boolean) 1 := cws_mk q409 q410 q6 q411 ⟨by decide +kernel, by decide +kernel, by decide +kernel⟩
theorem q544 : (Jvm.Cond.code ({ cls := "TideBoats$Orders", name := "isRockAt", desc := "(I)Z" } : Jvm.MethodName) prog_4_method_7_code (2 : Nat) (Option.some Jvm.ClassFile.FieldType.boolean)) ∈ lw_all := all_mem 544 (by decide +kernel) (by decide +kernel)
theorem q541 : (Jvm.Cond.methodLink "TideBoats$Orders" (47 : Nat) ({ cls := "TideBoats$Orders", name := "isRockAt", desc := "(I)Z" } : Jvm.MethodName)) ∈ lw_all := all_mem 541 (by decide +kernel) (by decide +kernel)
theorem q542 : (Jvm.Cond.instanceMethod ({ cls := "TideBoats$Orders", name := "isRockAt", desc := "(I)Z" } : Jvm.MethodName)) ∈ lw_all := all_mem 542 (by decide +kernel) (by decide +kernel)
theorem q543 : (Jvm.Cond.selects "TideBoats$Orders" ({ cls := "TideBoats$Orders", name := "isRockAt", desc := "(I)Z" } : Jvm.MethodName) ({ cls := "TideBoats$Orders", name := "isRockAt", desc := "(I)Z" } : Jvm.MethodName)) ∈ lw_all := all_mem 543 (by decide +kernel) (by decide +kernel)
theorem kV_X2_47 : CWV RX2 47 RX2 yX2_isRockAt cX2_isRockAt 2 (some .boolean) 1 := cwv_mk q541 q542 q543 q6 q544 ⟨rfl, ⟨by decide +kernel, by decide +kernel, by decide +kernel⟩⟩
theorem q416 : (Jvm.Cond.code ({ cls := "java/lang/String", name := "indexOf", desc := "(I)I" } : Jvm.MethodName) prog_11_method_79_code (2 : Nat) (Option.some Jvm.ClassFile.FieldType.int)) ∈ lw_all := all_mem 416 (by decide +kernel) (by decide +kernel)
theorem q413 : (Jvm.Cond.methodLink "TideBoats$Orders" (53 : Nat) ({ cls := "java/lang/String", name := "indexOf", desc := "(I)I" } : Jvm.MethodName)) ∈ lw_all := all_mem 413 (by decide +kernel) (by decide +kernel)
theorem q414 : (Jvm.Cond.instanceMethod ({ cls := "java/lang/String", name := "indexOf", desc := "(I)I" } : Jvm.MethodName)) ∈ lw_all := all_mem 414 (by decide +kernel) (by decide +kernel)
theorem q415 : (Jvm.Cond.selects "java/lang/String" ({ cls := "java/lang/String", name := "indexOf", desc := "(I)I" } : Jvm.MethodName) ({ cls := "java/lang/String", name := "indexOf", desc := "(I)I" } : Jvm.MethodName)) ∈ lw_all := all_mem 415 (by decide +kernel) (by decide +kernel)
theorem kV_X2_53 : CWV RX2 53 RJ0 yJ0_indexOf_0f7a4 cJ0_indexOf_0f7a4 2 (some .int) 1 := cwv_mk q413 q414 q415 q8 q416 ⟨rfl, ⟨by decide +kernel, by decide +kernel, by decide +kernel⟩⟩
theorem q530 : (Jvm.Cond.code ({ cls := "TideBoats$Orders", name := "allowedAt", desc := "(C)Ljava/lang/String;" } : Jvm.MethodName) prog_4_method_18_code (1 : Nat) (Option.some (Jvm.ClassFile.FieldType.object "java/lang/String"))) ∈ lw_all := all_mem 530 (by decide +kernel) (by decide +kernel)
theorem q529 : (Jvm.Cond.static ({ cls := "TideBoats$Orders", name := "allowedAt", desc := "(C)Ljava/lang/String;" } : Jvm.MethodName)) ∈ lw_all := all_mem 529 (by decide +kernel) (by decide +kernel)
theorem q528 : (Jvm.Cond.methodLink "TideBoats$Orders" (76 : Nat) ({ cls := "TideBoats$Orders", name := "allowedAt", desc := "(C)Ljava/lang/String;" } : Jvm.MethodName)) ∈ lw_all := all_mem 528 (by decide +kernel) (by decide +kernel)
theorem kS_X2_76 : CWS RX2 76 yX2_allowedAt cX2_allowedAt 1 (some (.object "java/lang/String")) 1 := cws_mk q528 q529 q6 q530 ⟨by decide +kernel, by decide +kernel, by decide +kernel⟩
theorem q540 : (Jvm.Cond.code ({ cls := "java/lang/String", name := "isEmpty", desc := "()Z" } : Jvm.MethodName) prog_11_method_55_code (1 : Nat) (Option.some Jvm.ClassFile.FieldType.boolean)) ∈ lw_all := all_mem 540 (by decide +kernel) (by decide +kernel)
theorem q537 : (Jvm.Cond.methodLink "TideBoats$Orders" (79 : Nat) ({ cls := "java/lang/String", name := "isEmpty", desc := "()Z" } : Jvm.MethodName)) ∈ lw_all := all_mem 537 (by decide +kernel) (by decide +kernel)
theorem q538 : (Jvm.Cond.instanceMethod ({ cls := "java/lang/String", name := "isEmpty", desc := "()Z" } : Jvm.MethodName)) ∈ lw_all := all_mem 538 (by decide +kernel) (by decide +kernel)
theorem q539 : (Jvm.Cond.selects "java/lang/String" ({ cls := "java/lang/String", name := "isEmpty", desc := "()Z" } : Jvm.MethodName) ({ cls := "java/lang/String", name := "isEmpty", desc := "()Z" } : Jvm.MethodName)) ∈ lw_all := all_mem 539 (by decide +kernel) (by decide +kernel)
theorem kV_X2_79 : CWV RX2 79 RJ0 yJ0_isEmpty_aae02 cJ0_isEmpty_aae02 1 (some .boolean) 0 := cwv_mk q537 q538 q539 q8 q540 ⟨rfl, ⟨by decide +kernel, by decide +kernel, by decide +kernel⟩⟩
theorem q114 : (Jvm.Cond.fieldLink "TideBoats$Rules" (9 : Nat) "TideBoats$Rules" "sea" "LTideBoats$State;") ∈ lw_all := all_mem 114 (by decide +kernel) (by decide +kernel)
theorem fl_X3_9 : FLD RX3 9 3 0 := ⟨RX3, TX3, 1, rfl, Nat.le_of_ble_eq_true rfl, in_X3, q114⟩
theorem q219 : (Jvm.Cond.methodLinkNest "TideBoats$Rules" (15 : Nat) ({ cls := "TideBoats", name := "isCell", desc := "(I)Z" } : Jvm.MethodName) "TideBoats") ∈ lw_nst := nst_mem 219 (by decide +kernel) (by decide +kernel)
theorem kN_X3_15 : CWN RX3 15 yX5_isCell cX5_isCell 1 (some .boolean) 1 := ⟨⟨_, q219⟩, q220, q1, q221, ⟨by decide +kernel, by decide +kernel, by decide +kernel⟩⟩
theorem q30 : (Jvm.Cond.code ({ cls := "TideBoats", name := "isHarbour", desc := "(I)Z" } : Jvm.MethodName) prog_1_method_31_code (1 : Nat) (Option.some Jvm.ClassFile.FieldType.boolean)) ∈ lw_all := all_mem 30 (by decide +kernel) (by decide +kernel)
theorem q29 : (Jvm.Cond.static ({ cls := "TideBoats", name := "isHarbour", desc := "(I)Z" } : Jvm.MethodName)) ∈ lw_all := all_mem 29 (by decide +kernel) (by decide +kernel)
theorem q222 : (Jvm.Cond.methodLinkNest "TideBoats$Rules" (19 : Nat) ({ cls := "TideBoats", name := "isHarbour", desc := "(I)Z" } : Jvm.MethodName) "TideBoats") ∈ lw_nst := nst_mem 222 (by decide +kernel) (by decide +kernel)
theorem kN_X3_19 : CWN RX3 19 yX5_isHarbour cX5_isHarbour 1 (some .boolean) 1 := ⟨⟨_, q222⟩, q29, q1, q30, ⟨by decide +kernel, by decide +kernel, by decide +kernel⟩⟩
theorem q65 : (Jvm.Cond.fieldLinkNest "TideBoats$Rules" (22 : Nat) "TideBoats$State" "turn" "I" "TideBoats") ∈ lw_nst := nst_mem 65 (by decide +kernel) (by decide +kernel)
theorem fl_X3_22 : FLN RX3 22 4 9 := ⟨RX4, TX4, 14, rfl, Nat.le_of_ble_eq_true rfl, in_X4, _, q65⟩
theorem q35 : (Jvm.Cond.fieldLinkNest "TideBoats$Rules" (28 : Nat) "TideBoats$State" "heights" "[I" "TideBoats") ∈ lw_nst := nst_mem 35 (by decide +kernel) (by decide +kernel)
theorem fl_X3_28 : FLN RX3 28 4 0 := ⟨RX4, TX4, 14, rfl, Nat.le_of_ble_eq_true rfl, in_X4, _, q35⟩
theorem q223 : (Jvm.Cond.methodLinkNest "TideBoats$Rules" (32 : Nat) ({ cls := "TideBoats", name := "read", desc := "([II)I" } : Jvm.MethodName) "TideBoats") ∈ lw_nst := nst_mem 223 (by decide +kernel) (by decide +kernel)
theorem kN_X3_32 : CWN RX3 32 yX5_read cX5_read 2 (some .int) 2 := ⟨⟨_, q223⟩, q224, q1, q225, ⟨by decide +kernel, by decide +kernel, by decide +kernel⟩⟩
theorem q39 : (Jvm.Cond.fieldLinkNest "TideBoats$Rules" (36 : Nat) "TideBoats$State" "rocks" "[I" "TideBoats") ∈ lw_nst := nst_mem 39 (by decide +kernel) (by decide +kernel)
theorem fl_X3_36 : FLN RX3 36 4 1 := ⟨RX4, TX4, 14, rfl, Nat.le_of_ble_eq_true rfl, in_X4, _, q39⟩
theorem q33 : (Jvm.Cond.code ({ cls := "TideBoats", name := "write", desc := "([III)V" } : Jvm.MethodName) prog_1_method_36_code (3 : Nat) (Option.none : Option Jvm.ClassFile.FieldType)) ∈ lw_all := all_mem 33 (by decide +kernel) (by decide +kernel)
theorem q32 : (Jvm.Cond.static ({ cls := "TideBoats", name := "write", desc := "([III)V" } : Jvm.MethodName)) ∈ lw_all := all_mem 32 (by decide +kernel) (by decide +kernel)
theorem q226 : (Jvm.Cond.methodLinkNest "TideBoats$Rules" (39 : Nat) ({ cls := "TideBoats", name := "write", desc := "([III)V" } : Jvm.MethodName) "TideBoats") ∈ lw_nst := nst_mem 226 (by decide +kernel) (by decide +kernel)
theorem kN_X3_39 : CWN RX3 39 yX5_write cX5_write 3 (none) 3 := ⟨⟨_, q226⟩, q32, q1, q33, ⟨by decide +kernel, by decide +kernel, by decide +kernel⟩⟩
theorem q254 : (Jvm.Cond.code ({ cls := "TideBoats", name := "isPlayer", desc := "(I)Z" } : Jvm.MethodName) prog_1_method_29_code (1 : Nat) (Option.some Jvm.ClassFile.FieldType.boolean)) ∈ lw_all := all_mem 254 (by decide +kernel) (by decide +kernel)
theorem q253 : (Jvm.Cond.static ({ cls := "TideBoats", name := "isPlayer", desc := "(I)Z" } : Jvm.MethodName)) ∈ lw_all := all_mem 253 (by decide +kernel) (by decide +kernel)
theorem q252 : (Jvm.Cond.methodLinkNest "TideBoats$Rules" (43 : Nat) ({ cls := "TideBoats", name := "isPlayer", desc := "(I)Z" } : Jvm.MethodName) "TideBoats") ∈ lw_nst := nst_mem 252 (by decide +kernel) (by decide +kernel)
theorem kN_X3_43 : CWN RX3 43 yX5_isPlayer cX5_isPlayer 1 (some .boolean) 1 := ⟨⟨_, q252⟩, q253, q1, q254, ⟨by decide +kernel, by decide +kernel, by decide +kernel⟩⟩
theorem q257 : (Jvm.Cond.code ({ cls := "TideBoats", name := "isDraft", desc := "(I)Z" } : Jvm.MethodName) prog_1_method_30_code (1 : Nat) (Option.some Jvm.ClassFile.FieldType.boolean)) ∈ lw_all := all_mem 257 (by decide +kernel) (by decide +kernel)
theorem q256 : (Jvm.Cond.static ({ cls := "TideBoats", name := "isDraft", desc := "(I)Z" } : Jvm.MethodName)) ∈ lw_all := all_mem 256 (by decide +kernel) (by decide +kernel)
theorem q255 : (Jvm.Cond.methodLinkNest "TideBoats$Rules" (46 : Nat) ({ cls := "TideBoats", name := "isDraft", desc := "(I)Z" } : Jvm.MethodName) "TideBoats") ∈ lw_nst := nst_mem 255 (by decide +kernel) (by decide +kernel)
theorem kN_X3_46 : CWN RX3 46 yX5_isDraft cX5_isDraft 1 (some .boolean) 1 := ⟨⟨_, q255⟩, q256, q1, q257, ⟨by decide +kernel, by decide +kernel, by decide +kernel⟩⟩
theorem q261 : (Jvm.Cond.code ({ cls := "TideBoats$State", name := "boatAt", desc := "(I)I" } : Jvm.MethodName) prog_6_method_13_code (3 : Nat) (Option.some Jvm.ClassFile.FieldType.int)) ∈ lw_all := all_mem 261 (by decide +kernel) (by decide +kernel)
theorem q258 : (Jvm.Cond.methodLink "TideBoats$Rules" (49 : Nat) ({ cls := "TideBoats$State", name := "boatAt", desc := "(I)I" } : Jvm.MethodName)) ∈ lw_all := all_mem 258 (by decide +kernel) (by decide +kernel)
theorem q259 : (Jvm.Cond.instanceMethod ({ cls := "TideBoats$State", name := "boatAt", desc := "(I)I" } : Jvm.MethodName)) ∈ lw_all := all_mem 259 (by decide +kernel) (by decide +kernel)
theorem q260 : (Jvm.Cond.selects "TideBoats$State" ({ cls := "TideBoats$State", name := "boatAt", desc := "(I)I" } : Jvm.MethodName) ({ cls := "TideBoats$State", name := "boatAt", desc := "(I)I" } : Jvm.MethodName)) ∈ lw_all := all_mem 260 (by decide +kernel) (by decide +kernel)
theorem kV_X3_49 : CWV RX3 49 RX4 yX4_boatAt cX4_boatAt 3 (some .int) 1 := cwv_mk q258 q259 q260 q2 q261 ⟨rfl, ⟨by decide +kernel, by decide +kernel, by decide +kernel⟩⟩
theorem q60 : (Jvm.Cond.fieldLinkNest "TideBoats$Rules" (53 : Nat) "TideBoats$State" "boats" "I" "TideBoats") ∈ lw_nst := nst_mem 60 (by decide +kernel) (by decide +kernel)
theorem fl_X3_53 : FLN RX3 53 4 7 := ⟨RX4, TX4, 14, rfl, Nat.le_of_ble_eq_true rfl, in_X4, _, q60⟩
theorem q44 : (Jvm.Cond.fieldLinkNest "TideBoats$Rules" (56 : Nat) "TideBoats$State" "owners" "[I" "TideBoats") ∈ lw_nst := nst_mem 44 (by decide +kernel) (by decide +kernel)
theorem fl_X3_56 : FLN RX3 56 4 2 := ⟨RX4, TX4, 14, rfl, Nat.le_of_ble_eq_true rfl, in_X4, _, q44⟩
theorem q48 : (Jvm.Cond.fieldLinkNest "TideBoats$Rules" (59 : Nat) "TideBoats$State" "drafts" "[I" "TideBoats") ∈ lw_nst := nst_mem 48 (by decide +kernel) (by decide +kernel)
theorem fl_X3_59 : FLN RX3 59 4 3 := ⟨RX4, TX4, 14, rfl, Nat.le_of_ble_eq_true rfl, in_X4, _, q48⟩
theorem q51 : (Jvm.Cond.fieldLinkNest "TideBoats$Rules" (62 : Nat) "TideBoats$State" "conditions" "[I" "TideBoats") ∈ lw_nst := nst_mem 51 (by decide +kernel) (by decide +kernel)
theorem fl_X3_62 : FLN RX3 62 4 4 := ⟨RX4, TX4, 14, rfl, Nat.le_of_ble_eq_true rfl, in_X4, _, q51⟩
theorem q54 : (Jvm.Cond.fieldLinkNest "TideBoats$Rules" (65 : Nat) "TideBoats$State" "places" "[I" "TideBoats") ∈ lw_nst := nst_mem 54 (by decide +kernel) (by decide +kernel)
theorem fl_X3_65 : FLN RX3 65 4 5 := ⟨RX4, TX4, 14, rfl, Nat.le_of_ble_eq_true rfl, in_X4, _, q54⟩
theorem q57 : (Jvm.Cond.fieldLinkNest "TideBoats$Rules" (68 : Nat) "TideBoats$State" "stepsGone" "[I" "TideBoats") ∈ lw_nst := nst_mem 57 (by decide +kernel) (by decide +kernel)
theorem fl_X3_68 : FLN RX3 68 4 6 := ⟨RX4, TX4, 14, rfl, Nat.le_of_ble_eq_true rfl, in_X4, _, q57⟩
theorem q278 : (Jvm.Cond.code ({ cls := "TideBoats$State", name := "settingOf", desc := "(I)I" } : Jvm.MethodName) prog_6_method_3_code (2 : Nat) (Option.some Jvm.ClassFile.FieldType.int)) ∈ lw_all := all_mem 278 (by decide +kernel) (by decide +kernel)
theorem q275 : (Jvm.Cond.methodLink "TideBoats$Rules" (77 : Nat) ({ cls := "TideBoats$State", name := "settingOf", desc := "(I)I" } : Jvm.MethodName)) ∈ lw_all := all_mem 275 (by decide +kernel) (by decide +kernel)
theorem q276 : (Jvm.Cond.instanceMethod ({ cls := "TideBoats$State", name := "settingOf", desc := "(I)I" } : Jvm.MethodName)) ∈ lw_all := all_mem 276 (by decide +kernel) (by decide +kernel)
theorem q277 : (Jvm.Cond.selects "TideBoats$State" ({ cls := "TideBoats$State", name := "settingOf", desc := "(I)I" } : Jvm.MethodName) ({ cls := "TideBoats$State", name := "settingOf", desc := "(I)I" } : Jvm.MethodName)) ∈ lw_all := all_mem 277 (by decide +kernel) (by decide +kernel)
theorem kV_X3_77 : CWV RX3 77 RX4 yX4_settingOf cX4_settingOf 2 (some .int) 1 := cwv_mk q275 q276 q277 q2 q278 ⟨rfl, ⟨by decide +kernel, by decide +kernel, by decide +kernel⟩⟩
theorem q282 : (Jvm.Cond.code ({ cls := "TideBoats$State", name := "changeSetting", desc := "(II)V" } : Jvm.MethodName) prog_6_method_4_code (3 : Nat) (Option.none : Option Jvm.ClassFile.FieldType)) ∈ lw_all := all_mem 282 (by decide +kernel) (by decide +kernel)
theorem q279 : (Jvm.Cond.methodLink "TideBoats$Rules" (80 : Nat) ({ cls := "TideBoats$State", name := "changeSetting", desc := "(II)V" } : Jvm.MethodName)) ∈ lw_all := all_mem 279 (by decide +kernel) (by decide +kernel)
theorem q280 : (Jvm.Cond.instanceMethod ({ cls := "TideBoats$State", name := "changeSetting", desc := "(II)V" } : Jvm.MethodName)) ∈ lw_all := all_mem 280 (by decide +kernel) (by decide +kernel)
theorem q281 : (Jvm.Cond.selects "TideBoats$State" ({ cls := "TideBoats$State", name := "changeSetting", desc := "(II)V" } : Jvm.MethodName) ({ cls := "TideBoats$State", name := "changeSetting", desc := "(II)V" } : Jvm.MethodName)) ∈ lw_all := all_mem 281 (by decide +kernel) (by decide +kernel)
theorem kV_X3_80 : CWV RX3 80 RX4 yX4_changeSetting cX4_changeSetting 3 (none) 2 := cwv_mk q279 q280 q281 q2 q282 ⟨rfl, ⟨by decide +kernel, by decide +kernel, by decide +kernel⟩⟩
theorem q294 : (Jvm.Cond.code ({ cls := "TideBoats$Rules", name := "errorOfMove", desc := "(III)I" } : Jvm.MethodName) prog_5_method_7_code (4 : Nat) (Option.some Jvm.ClassFile.FieldType.int)) ∈ lw_all := all_mem 294 (by decide +kernel) (by decide +kernel)
theorem q291 : (Jvm.Cond.methodLink "TideBoats$Rules" (84 : Nat) ({ cls := "TideBoats$Rules", name := "errorOfMove", desc := "(III)I" } : Jvm.MethodName)) ∈ lw_all := all_mem 291 (by decide +kernel) (by decide +kernel)
theorem q292 : (Jvm.Cond.instanceMethod ({ cls := "TideBoats$Rules", name := "errorOfMove", desc := "(III)I" } : Jvm.MethodName)) ∈ lw_all := all_mem 292 (by decide +kernel) (by decide +kernel)
theorem q293 : (Jvm.Cond.selects "TideBoats$Rules" ({ cls := "TideBoats$Rules", name := "errorOfMove", desc := "(III)I" } : Jvm.MethodName) ({ cls := "TideBoats$Rules", name := "errorOfMove", desc := "(III)I" } : Jvm.MethodName)) ∈ lw_all := all_mem 293 (by decide +kernel) (by decide +kernel)
theorem q3 : (Jvm.Cond.initialized "TideBoats$Rules") ∈ lw_all := all_mem 3 (by decide +kernel) (by decide +kernel)
theorem kV_X3_84 : CWV RX3 84 RX3 yX3_errorOfMove cX3_errorOfMove 4 (some .int) 3 := cwv_mk q291 q292 q293 q3 q294 ⟨rfl, ⟨by decide +kernel, by decide +kernel, by decide +kernel⟩⟩
theorem q302 : (Jvm.Cond.code ({ cls := "TideBoats$Rules", name := "reasonAgainst", desc := "(IIIZ)I" } : Jvm.MethodName) prog_5_method_8_code (5 : Nat) (Option.some Jvm.ClassFile.FieldType.int)) ∈ lw_all := all_mem 302 (by decide +kernel) (by decide +kernel)
theorem q299 : (Jvm.Cond.methodLink "TideBoats$Rules" (88 : Nat) ({ cls := "TideBoats$Rules", name := "reasonAgainst", desc := "(IIIZ)I" } : Jvm.MethodName)) ∈ lw_all := all_mem 299 (by decide +kernel) (by decide +kernel)
theorem q300 : (Jvm.Cond.instanceMethod ({ cls := "TideBoats$Rules", name := "reasonAgainst", desc := "(IIIZ)I" } : Jvm.MethodName)) ∈ lw_all := all_mem 300 (by decide +kernel) (by decide +kernel)
theorem q301 : (Jvm.Cond.selects "TideBoats$Rules" ({ cls := "TideBoats$Rules", name := "reasonAgainst", desc := "(IIIZ)I" } : Jvm.MethodName) ({ cls := "TideBoats$Rules", name := "reasonAgainst", desc := "(IIIZ)I" } : Jvm.MethodName)) ∈ lw_all := all_mem 301 (by decide +kernel) (by decide +kernel)
theorem kV_X3_88 : CWV RX3 88 RX3 yX3_reasonAgainst cX3_reasonAgainst 5 (some .int) 4 := cwv_mk q299 q300 q301 q3 q302 ⟨rfl, ⟨by decide +kernel, by decide +kernel, by decide +kernel⟩⟩
theorem q350 : (Jvm.Cond.code ({ cls := "TideBoats", name := "cellFrom", desc := "(III)I" } : Jvm.MethodName) prog_1_method_34_code (5 : Nat) (Option.some Jvm.ClassFile.FieldType.int)) ∈ lw_all := all_mem 350 (by decide +kernel) (by decide +kernel)
theorem q349 : (Jvm.Cond.static ({ cls := "TideBoats", name := "cellFrom", desc := "(III)I" } : Jvm.MethodName)) ∈ lw_all := all_mem 349 (by decide +kernel) (by decide +kernel)
theorem q348 : (Jvm.Cond.methodLinkNest "TideBoats$Rules" (92 : Nat) ({ cls := "TideBoats", name := "cellFrom", desc := "(III)I" } : Jvm.MethodName) "TideBoats") ∈ lw_nst := nst_mem 348 (by decide +kernel) (by decide +kernel)
theorem kN_X3_92 : CWN RX3 92 yX5_cellFrom cX5_cellFrom 5 (some .int) 3 := ⟨⟨_, q348⟩, q349, q1, q350, ⟨by decide +kernel, by decide +kernel, by decide +kernel⟩⟩
theorem q355 : (Jvm.Cond.code ({ cls := "TideBoats$Rules", name := "ram", desc := "(I)I" } : Jvm.MethodName) prog_5_method_12_code (2 : Nat) (Option.some Jvm.ClassFile.FieldType.int)) ∈ lw_all := all_mem 355 (by decide +kernel) (by decide +kernel)
theorem q352 : (Jvm.Cond.methodLink "TideBoats$Rules" (95 : Nat) ({ cls := "TideBoats$Rules", name := "ram", desc := "(I)I" } : Jvm.MethodName)) ∈ lw_all := all_mem 352 (by decide +kernel) (by decide +kernel)
theorem q354 : (Jvm.Cond.instanceMethod ({ cls := "TideBoats$Rules", name := "ram", desc := "(I)I" } : Jvm.MethodName)) ∈ lw_all := all_mem 354 (by decide +kernel) (by decide +kernel)
theorem qs5 : (Jvm.Cond.selects "TideBoats$Rules" ({ cls := "TideBoats$Rules", name := "ram", desc := "(I)I" } : Jvm.MethodName) ({ cls := "TideBoats$Rules", name := "ram", desc := "(I)I" } : Jvm.MethodName)) ∈ lw_all := all_memS 5 (by decide +kernel) (by decide +kernel)
theorem kV_X3_95 : CWV RX3 95 RX3 yX3_ram cX3_ram 2 (some .int) 1 := cwv_mk q352 q354 qs5 q3 q355 ⟨rfl, ⟨by decide +kernel, by decide +kernel, by decide +kernel⟩⟩
theorem q336 : (Jvm.Cond.methodLinkNest "TideBoats$Rules" (98 : Nat) ({ cls := "TideBoats", name := "harbourOf", desc := "(I)I" } : Jvm.MethodName) "TideBoats") ∈ lw_nst := nst_mem 336 (by decide +kernel) (by decide +kernel)
theorem kN_X3_98 : CWN RX3 98 yX5_harbourOf cX5_harbourOf 1 (some .int) 1 := ⟨⟨_, q336⟩, q337, q1, q338, ⟨by decide +kernel, by decide +kernel, by decide +kernel⟩⟩
theorem q359 : (Jvm.Cond.code ({ cls := "TideBoats$Rules", name := "endTurn", desc := "()V" } : Jvm.MethodName) prog_5_method_13_code (2 : Nat) (Option.none : Option Jvm.ClassFile.FieldType)) ∈ lw_all := all_mem 359 (by decide +kernel) (by decide +kernel)
theorem q356 : (Jvm.Cond.methodLink "TideBoats$Rules" (101 : Nat) ({ cls := "TideBoats$Rules", name := "endTurn", desc := "()V" } : Jvm.MethodName)) ∈ lw_all := all_mem 356 (by decide +kernel) (by decide +kernel)
theorem q358 : (Jvm.Cond.instanceMethod ({ cls := "TideBoats$Rules", name := "endTurn", desc := "()V" } : Jvm.MethodName)) ∈ lw_all := all_mem 358 (by decide +kernel) (by decide +kernel)
theorem qs6 : (Jvm.Cond.selects "TideBoats$Rules" ({ cls := "TideBoats$Rules", name := "endTurn", desc := "()V" } : Jvm.MethodName) ({ cls := "TideBoats$Rules", name := "endTurn", desc := "()V" } : Jvm.MethodName)) ∈ lw_all := all_memS 6 (by decide +kernel) (by decide +kernel)
theorem kV_X3_101 : CWV RX3 101 RX3 yX3_endTurn cX3_endTurn 2 (none) 0 := cwv_mk q356 q358 qs6 q3 q359 ⟨rfl, ⟨by decide +kernel, by decide +kernel, by decide +kernel⟩⟩
theorem q306 : (Jvm.Cond.code ({ cls := "TideBoats$State", name := "isOver", desc := "()Z" } : Jvm.MethodName) prog_6_method_18_code (1 : Nat) (Option.some Jvm.ClassFile.FieldType.boolean)) ∈ lw_all := all_mem 306 (by decide +kernel) (by decide +kernel)
theorem q303 : (Jvm.Cond.methodLink "TideBoats$Rules" (104 : Nat) ({ cls := "TideBoats$State", name := "isOver", desc := "()Z" } : Jvm.MethodName)) ∈ lw_all := all_mem 303 (by decide +kernel) (by decide +kernel)
theorem q304 : (Jvm.Cond.instanceMethod ({ cls := "TideBoats$State", name := "isOver", desc := "()Z" } : Jvm.MethodName)) ∈ lw_all := all_mem 304 (by decide +kernel) (by decide +kernel)
theorem q305 : (Jvm.Cond.selects "TideBoats$State" ({ cls := "TideBoats$State", name := "isOver", desc := "()Z" } : Jvm.MethodName) ({ cls := "TideBoats$State", name := "isOver", desc := "()Z" } : Jvm.MethodName)) ∈ lw_all := all_mem 305 (by decide +kernel) (by decide +kernel)
theorem kV_X3_104 : CWV RX3 104 RX4 yX4_isOver cX4_isOver 1 (some .boolean) 0 := cwv_mk q303 q304 q305 q2 q306 ⟨rfl, ⟨by decide +kernel, by decide +kernel, by decide +kernel⟩⟩
theorem q373 : (Jvm.Cond.methodLink "TideBoats$Rules" (108 : Nat) ({ cls := "TideBoats$State", name := "tideIn", desc := "(I)I" } : Jvm.MethodName)) ∈ lw_all := all_mem 373 (by decide +kernel) (by decide +kernel)
theorem kV_X3_108 : CWV RX3 108 RX4 yX4_tideIn cX4_tideIn 4 (some .int) 1 := cwv_mk q373 q329 q330 q2 q331 ⟨rfl, ⟨by decide +kernel, by decide +kernel, by decide +kernel⟩⟩
theorem q298 : (Jvm.Cond.code ({ cls := "TideBoats$State", name := "isBoat", desc := "(I)Z" } : Jvm.MethodName) prog_6_method_9_code (2 : Nat) (Option.some Jvm.ClassFile.FieldType.boolean)) ∈ lw_all := all_mem 298 (by decide +kernel) (by decide +kernel)
theorem q295 : (Jvm.Cond.methodLink "TideBoats$Rules" (111 : Nat) ({ cls := "TideBoats$State", name := "isBoat", desc := "(I)Z" } : Jvm.MethodName)) ∈ lw_all := all_mem 295 (by decide +kernel) (by decide +kernel)
theorem q296 : (Jvm.Cond.instanceMethod ({ cls := "TideBoats$State", name := "isBoat", desc := "(I)Z" } : Jvm.MethodName)) ∈ lw_all := all_mem 296 (by decide +kernel) (by decide +kernel)
theorem q297 : (Jvm.Cond.selects "TideBoats$State" ({ cls := "TideBoats$State", name := "isBoat", desc := "(I)Z" } : Jvm.MethodName) ({ cls := "TideBoats$State", name := "isBoat", desc := "(I)Z" } : Jvm.MethodName)) ∈ lw_all := all_mem 297 (by decide +kernel) (by decide +kernel)
theorem kV_X3_111 : CWV RX3 111 RX4 yX4_isBoat cX4_isBoat 2 (some .boolean) 1 := cwv_mk q295 q296 q297 q2 q298 ⟨rfl, ⟨by decide +kernel, by decide +kernel, by decide +kernel⟩⟩
theorem q314 : (Jvm.Cond.code ({ cls := "TideBoats$State", name := "isOnBoard", desc := "(I)Z" } : Jvm.MethodName) prog_6_method_10_code (2 : Nat) (Option.some Jvm.ClassFile.FieldType.boolean)) ∈ lw_all := all_mem 314 (by decide +kernel) (by decide +kernel)
theorem q311 : (Jvm.Cond.methodLink "TideBoats$Rules" (114 : Nat) ({ cls := "TideBoats$State", name := "isOnBoard", desc := "(I)Z" } : Jvm.MethodName)) ∈ lw_all := all_mem 311 (by decide +kernel) (by decide +kernel)
theorem q312 : (Jvm.Cond.instanceMethod ({ cls := "TideBoats$State", name := "isOnBoard", desc := "(I)Z" } : Jvm.MethodName)) ∈ lw_all := all_mem 312 (by decide +kernel) (by decide +kernel)
theorem q313 : (Jvm.Cond.selects "TideBoats$State" ({ cls := "TideBoats$State", name := "isOnBoard", desc := "(I)Z" } : Jvm.MethodName) ({ cls := "TideBoats$State", name := "isOnBoard", desc := "(I)Z" } : Jvm.MethodName)) ∈ lw_all := all_mem 313 (by decide +kernel) (by decide +kernel)
theorem kV_X3_114 : CWV RX3 114 RX4 yX4_isOnBoard cX4_isOnBoard 2 (some .boolean) 1 := cwv_mk q311 q312 q313 q2 q314 ⟨rfl, ⟨by decide +kernel, by decide +kernel, by decide +kernel⟩⟩
theorem q319 : (Jvm.Cond.code ({ cls := "TideBoats$State", name := "mover", desc := "()I" } : Jvm.MethodName) prog_6_method_17_code (1 : Nat) (Option.some Jvm.ClassFile.FieldType.int)) ∈ lw_all := all_mem 319 (by decide +kernel) (by decide +kernel)
theorem q316 : (Jvm.Cond.methodLink "TideBoats$Rules" (117 : Nat) ({ cls := "TideBoats$State", name := "mover", desc := "()I" } : Jvm.MethodName)) ∈ lw_all := all_mem 316 (by decide +kernel) (by decide +kernel)
theorem q317 : (Jvm.Cond.instanceMethod ({ cls := "TideBoats$State", name := "mover", desc := "()I" } : Jvm.MethodName)) ∈ lw_all := all_mem 317 (by decide +kernel) (by decide +kernel)
theorem q318 : (Jvm.Cond.selects "TideBoats$State" ({ cls := "TideBoats$State", name := "mover", desc := "()I" } : Jvm.MethodName) ({ cls := "TideBoats$State", name := "mover", desc := "()I" } : Jvm.MethodName)) ∈ lw_all := all_mem 318 (by decide +kernel) (by decide +kernel)
theorem kV_X3_117 : CWV RX3 117 RX4 yX4_mover cX4_mover 1 (some .int) 0 := cwv_mk q316 q317 q318 q2 q319 ⟨rfl, ⟨by decide +kernel, by decide +kernel, by decide +kernel⟩⟩
theorem q323 : (Jvm.Cond.code ({ cls := "TideBoats$State", name := "floats", desc := "(I)Z" } : Jvm.MethodName) prog_6_method_11_code (2 : Nat) (Option.some Jvm.ClassFile.FieldType.boolean)) ∈ lw_all := all_mem 323 (by decide +kernel) (by decide +kernel)
theorem q320 : (Jvm.Cond.methodLink "TideBoats$Rules" (121 : Nat) ({ cls := "TideBoats$State", name := "floats", desc := "(I)Z" } : Jvm.MethodName)) ∈ lw_all := all_mem 320 (by decide +kernel) (by decide +kernel)
theorem q321 : (Jvm.Cond.instanceMethod ({ cls := "TideBoats$State", name := "floats", desc := "(I)Z" } : Jvm.MethodName)) ∈ lw_all := all_mem 321 (by decide +kernel) (by decide +kernel)
theorem q322 : (Jvm.Cond.selects "TideBoats$State" ({ cls := "TideBoats$State", name := "floats", desc := "(I)Z" } : Jvm.MethodName) ({ cls := "TideBoats$State", name := "floats", desc := "(I)Z" } : Jvm.MethodName)) ∈ lw_all := all_mem 322 (by decide +kernel) (by decide +kernel)
theorem kV_X3_121 : CWV RX3 121 RX4 yX4_floats cX4_floats 2 (some .boolean) 1 := cwv_mk q320 q321 q322 q2 q323 ⟨rfl, ⟨by decide +kernel, by decide +kernel, by decide +kernel⟩⟩
theorem q335 : (Jvm.Cond.code ({ cls := "TideBoats$Rules", name := "isWayOpen", desc := "(III)Z" } : Jvm.MethodName) prog_5_method_10_code (9 : Nat) (Option.some Jvm.ClassFile.FieldType.boolean)) ∈ lw_all := all_mem 335 (by decide +kernel) (by decide +kernel)
theorem q332 : (Jvm.Cond.methodLink "TideBoats$Rules" (124 : Nat) ({ cls := "TideBoats$Rules", name := "isWayOpen", desc := "(III)Z" } : Jvm.MethodName)) ∈ lw_all := all_mem 332 (by decide +kernel) (by decide +kernel)
theorem q334 : (Jvm.Cond.instanceMethod ({ cls := "TideBoats$Rules", name := "isWayOpen", desc := "(III)Z" } : Jvm.MethodName)) ∈ lw_all := all_mem 334 (by decide +kernel) (by decide +kernel)
theorem qs3 : (Jvm.Cond.selects "TideBoats$Rules" ({ cls := "TideBoats$Rules", name := "isWayOpen", desc := "(III)Z" } : Jvm.MethodName) ({ cls := "TideBoats$Rules", name := "isWayOpen", desc := "(III)Z" } : Jvm.MethodName)) ∈ lw_all := all_memS 3 (by decide +kernel) (by decide +kernel)
theorem kV_X3_124 : CWV RX3 124 RX3 yX3_isWayOpen cX3_isWayOpen 9 (some .boolean) 3 := cwv_mk q332 q334 qs3 q3 q335 ⟨rfl, ⟨by decide +kernel, by decide +kernel, by decide +kernel⟩⟩
theorem q347 : (Jvm.Cond.code ({ cls := "TideBoats$Rules", name := "isBoatInWay", desc := "(III)Z" } : Jvm.MethodName) prog_5_method_11_code (8 : Nat) (Option.some Jvm.ClassFile.FieldType.boolean)) ∈ lw_all := all_mem 347 (by decide +kernel) (by decide +kernel)
theorem q344 : (Jvm.Cond.methodLink "TideBoats$Rules" (128 : Nat) ({ cls := "TideBoats$Rules", name := "isBoatInWay", desc := "(III)Z" } : Jvm.MethodName)) ∈ lw_all := all_mem 344 (by decide +kernel) (by decide +kernel)
theorem q346 : (Jvm.Cond.instanceMethod ({ cls := "TideBoats$Rules", name := "isBoatInWay", desc := "(III)Z" } : Jvm.MethodName)) ∈ lw_all := all_mem 346 (by decide +kernel) (by decide +kernel)
theorem qs4 : (Jvm.Cond.selects "TideBoats$Rules" ({ cls := "TideBoats$Rules", name := "isBoatInWay", desc := "(III)Z" } : Jvm.MethodName) ({ cls := "TideBoats$Rules", name := "isBoatInWay", desc := "(III)Z" } : Jvm.MethodName)) ∈ lw_all := all_memS 4 (by decide +kernel) (by decide +kernel)
theorem kV_X3_128 : CWV RX3 128 RX3 yX3_isBoatInWay cX3_isBoatInWay 8 (some .boolean) 3 := cwv_mk q344 q346 qs4 q3 q347 ⟨rfl, ⟨by decide +kernel, by decide +kernel, by decide +kernel⟩⟩
theorem q341 : (Jvm.Cond.code ({ cls := "TideBoats", name := "cellBeside", desc := "(II)I" } : Jvm.MethodName) prog_1_method_33_code (3 : Nat) (Option.some Jvm.ClassFile.FieldType.int)) ∈ lw_all := all_mem 341 (by decide +kernel) (by decide +kernel)
theorem q340 : (Jvm.Cond.static ({ cls := "TideBoats", name := "cellBeside", desc := "(II)I" } : Jvm.MethodName)) ∈ lw_all := all_mem 340 (by decide +kernel) (by decide +kernel)
theorem q339 : (Jvm.Cond.methodLinkNest "TideBoats$Rules" (131 : Nat) ({ cls := "TideBoats", name := "cellBeside", desc := "(II)I" } : Jvm.MethodName) "TideBoats") ∈ lw_nst := nst_mem 339 (by decide +kernel) (by decide +kernel)
theorem kN_X3_131 : CWN RX3 131 yX5_cellBeside cX5_cellBeside 3 (some .int) 2 := ⟨⟨_, q339⟩, q340, q1, q341, ⟨by decide +kernel, by decide +kernel, by decide +kernel⟩⟩
theorem q327 : (Jvm.Cond.code ({ cls := "TideBoats$State", name := "isWet", desc := "(III)Z" } : Jvm.MethodName) prog_6_method_8_code (4 : Nat) (Option.some Jvm.ClassFile.FieldType.boolean)) ∈ lw_all := all_mem 327 (by decide +kernel) (by decide +kernel)
theorem q343 : (Jvm.Cond.methodLink "TideBoats$Rules" (135 : Nat) ({ cls := "TideBoats$State", name := "isWet", desc := "(III)Z" } : Jvm.MethodName)) ∈ lw_all := all_mem 343 (by decide +kernel) (by decide +kernel)
theorem q325 : (Jvm.Cond.instanceMethod ({ cls := "TideBoats$State", name := "isWet", desc := "(III)Z" } : Jvm.MethodName)) ∈ lw_all := all_mem 325 (by decide +kernel) (by decide +kernel)
theorem q326 : (Jvm.Cond.selects "TideBoats$State" ({ cls := "TideBoats$State", name := "isWet", desc := "(III)Z" } : Jvm.MethodName) ({ cls := "TideBoats$State", name := "isWet", desc := "(III)Z" } : Jvm.MethodName)) ∈ lw_all := all_mem 326 (by decide +kernel) (by decide +kernel)
theorem kV_X3_135 : CWV RX3 135 RX4 yX4_isWet cX4_isWet 4 (some .boolean) 3 := cwv_mk q343 q325 q326 q2 q327 ⟨rfl, ⟨by decide +kernel, by decide +kernel, by decide +kernel⟩⟩
theorem q63 : (Jvm.Cond.fieldLinkNest "TideBoats$Rules" (138 : Nat) "TideBoats$State" "boatsRammed" "I" "TideBoats") ∈ lw_nst := nst_mem 63 (by decide +kernel) (by decide +kernel)
theorem fl_X3_138 : FLN RX3 138 4 8 := ⟨RX4, TX4, 14, rfl, Nat.le_of_ble_eq_true rfl, in_X4, _, q63⟩
theorem q363 : (Jvm.Cond.code ({ cls := "TideBoats$State", name := "isWreckedAhead", desc := "(I)Z" } : Jvm.MethodName) prog_6_method_12_code (3 : Nat) (Option.some Jvm.ClassFile.FieldType.boolean)) ∈ lw_all := all_mem 363 (by decide +kernel) (by decide +kernel)
theorem q360 : (Jvm.Cond.methodLink "TideBoats$Rules" (141 : Nat) ({ cls := "TideBoats$State", name := "isWreckedAhead", desc := "(I)Z" } : Jvm.MethodName)) ∈ lw_all := all_mem 360 (by decide +kernel) (by decide +kernel)
theorem q361 : (Jvm.Cond.instanceMethod ({ cls := "TideBoats$State", name := "isWreckedAhead", desc := "(I)Z" } : Jvm.MethodName)) ∈ lw_all := all_mem 361 (by decide +kernel) (by decide +kernel)
theorem q362 : (Jvm.Cond.selects "TideBoats$State" ({ cls := "TideBoats$State", name := "isWreckedAhead", desc := "(I)Z" } : Jvm.MethodName) ({ cls := "TideBoats$State", name := "isWreckedAhead", desc := "(I)Z" } : Jvm.MethodName)) ∈ lw_all := all_mem 362 (by decide +kernel) (by decide +kernel)
theorem kV_X3_141 : CWV RX3 141 RX4 yX4_isWreckedAhead cX4_isWreckedAhead 3 (some .boolean) 1 := cwv_mk q360 q361 q362 q2 q363 ⟨rfl, ⟨by decide +kernel, by decide +kernel, by decide +kernel⟩⟩
theorem q34 : (Jvm.Cond.fieldLink "TideBoats$State" (9 : Nat) "TideBoats$State" "heights" "[I") ∈ lw_all := all_mem 34 (by decide +kernel) (by decide +kernel)
theorem fl_X4_9 : FLD RX4 9 4 0 := ⟨RX4, TX4, 14, rfl, Nat.le_of_ble_eq_true rfl, in_X4, q34⟩
theorem q38 : (Jvm.Cond.fieldLink "TideBoats$State" (15 : Nat) "TideBoats$State" "rocks" "[I") ∈ lw_all := all_mem 38 (by decide +kernel) (by decide +kernel)
theorem fl_X4_15 : FLD RX4 15 4 1 := ⟨RX4, TX4, 14, rfl, Nat.le_of_ble_eq_true rfl, in_X4, q38⟩
theorem q42 : (Jvm.Cond.fieldLink "TideBoats$State" (18 : Nat) "TideBoats$State" "owners" "[I") ∈ lw_all := all_mem 42 (by decide +kernel) (by decide +kernel)
theorem fl_X4_18 : FLD RX4 18 4 2 := ⟨RX4, TX4, 14, rfl, Nat.le_of_ble_eq_true rfl, in_X4, q42⟩
theorem q46 : (Jvm.Cond.fieldLink "TideBoats$State" (21 : Nat) "TideBoats$State" "drafts" "[I") ∈ lw_all := all_mem 46 (by decide +kernel) (by decide +kernel)
theorem fl_X4_21 : FLD RX4 21 4 3 := ⟨RX4, TX4, 14, rfl, Nat.le_of_ble_eq_true rfl, in_X4, q46⟩
theorem q50 : (Jvm.Cond.fieldLink "TideBoats$State" (24 : Nat) "TideBoats$State" "conditions" "[I") ∈ lw_all := all_mem 50 (by decide +kernel) (by decide +kernel)
theorem fl_X4_24 : FLD RX4 24 4 4 := ⟨RX4, TX4, 14, rfl, Nat.le_of_ble_eq_true rfl, in_X4, q50⟩
theorem q53 : (Jvm.Cond.fieldLink "TideBoats$State" (27 : Nat) "TideBoats$State" "places" "[I") ∈ lw_all := all_mem 53 (by decide +kernel) (by decide +kernel)
theorem fl_X4_27 : FLD RX4 27 4 5 := ⟨RX4, TX4, 14, rfl, Nat.le_of_ble_eq_true rfl, in_X4, q53⟩
theorem q56 : (Jvm.Cond.fieldLink "TideBoats$State" (30 : Nat) "TideBoats$State" "stepsGone" "[I") ∈ lw_all := all_mem 56 (by decide +kernel) (by decide +kernel)
theorem fl_X4_30 : FLD RX4 30 4 6 := ⟨RX4, TX4, 14, rfl, Nat.le_of_ble_eq_true rfl, in_X4, q56⟩
theorem q69 : (Jvm.Cond.fieldLink "TideBoats$State" (33 : Nat) "TideBoats$State" "lowWater" "I") ∈ lw_all := all_mem 69 (by decide +kernel) (by decide +kernel)
theorem fl_X4_33 : FLD RX4 33 4 10 := ⟨RX4, TX4, 14, rfl, Nat.le_of_ble_eq_true rfl, in_X4, q69⟩
theorem q71 : (Jvm.Cond.fieldLink "TideBoats$State" (37 : Nat) "TideBoats$State" "riseSteps" "I") ∈ lw_all := all_mem 71 (by decide +kernel) (by decide +kernel)
theorem fl_X4_37 : FLD RX4 37 4 11 := ⟨RX4, TX4, 14, rfl, Nat.le_of_ble_eq_true rfl, in_X4, q71⟩
theorem q73 : (Jvm.Cond.fieldLink "TideBoats$State" (40 : Nat) "TideBoats$State" "stepTurns" "I") ∈ lw_all := all_mem 73 (by decide +kernel) (by decide +kernel)
theorem fl_X4_40 : FLD RX4 40 4 12 := ⟨RX4, TX4, 14, rfl, Nat.le_of_ble_eq_true rfl, in_X4, q73⟩
theorem q75 : (Jvm.Cond.fieldLink "TideBoats$State" (43 : Nat) "TideBoats$State" "lastTurn" "I") ∈ lw_all := all_mem 75 (by decide +kernel) (by decide +kernel)
theorem fl_X4_43 : FLD RX4 43 4 13 := ⟨RX4, TX4, 14, rfl, Nat.le_of_ble_eq_true rfl, in_X4, q75⟩
theorem q28 : (Jvm.Cond.methodLinkNest "TideBoats$State" (46 : Nat) ({ cls := "TideBoats", name := "isHarbour", desc := "(I)Z" } : Jvm.MethodName) "TideBoats") ∈ lw_nst := nst_mem 28 (by decide +kernel) (by decide +kernel)
theorem kN_X4_46 : CWN RX4 46 yX5_isHarbour cX5_isHarbour 1 (some .boolean) 1 := ⟨⟨_, q28⟩, q29, q1, q30, ⟨by decide +kernel, by decide +kernel, by decide +kernel⟩⟩
theorem q31 : (Jvm.Cond.methodLinkNest "TideBoats$State" (50 : Nat) ({ cls := "TideBoats", name := "write", desc := "([III)V" } : Jvm.MethodName) "TideBoats") ∈ lw_nst := nst_mem 31 (by decide +kernel) (by decide +kernel)
theorem kN_X4_50 : CWN RX4 50 yX5_write cX5_write 3 (none) 3 := ⟨⟨_, q31⟩, q32, q1, q33, ⟨by decide +kernel, by decide +kernel, by decide +kernel⟩⟩
theorem q214 : (Jvm.Cond.code ({ cls := "TideBoats", name := "copy", desc := "([I[I)V" } : Jvm.MethodName) prog_1_method_37_code (3 : Nat) (Option.none : Option Jvm.ClassFile.FieldType)) ∈ lw_all := all_mem 214 (by decide +kernel) (by decide +kernel)
theorem q213 : (Jvm.Cond.static ({ cls := "TideBoats", name := "copy", desc := "([I[I)V" } : Jvm.MethodName)) ∈ lw_all := all_mem 213 (by decide +kernel) (by decide +kernel)
theorem q212 : (Jvm.Cond.methodLinkNest "TideBoats$State" (54 : Nat) ({ cls := "TideBoats", name := "copy", desc := "([I[I)V" } : Jvm.MethodName) "TideBoats") ∈ lw_nst := nst_mem 212 (by decide +kernel) (by decide +kernel)
theorem kN_X4_54 : CWN RX4 54 yX5_copy cX5_copy 3 (none) 2 := ⟨⟨_, q212⟩, q213, q1, q214, ⟨by decide +kernel, by decide +kernel, by decide +kernel⟩⟩
theorem q59 : (Jvm.Cond.fieldLink "TideBoats$State" (58 : Nat) "TideBoats$State" "boats" "I") ∈ lw_all := all_mem 59 (by decide +kernel) (by decide +kernel)
theorem fl_X4_58 : FLD RX4 58 4 7 := ⟨RX4, TX4, 14, rfl, Nat.le_of_ble_eq_true rfl, in_X4, q59⟩
theorem q62 : (Jvm.Cond.fieldLink "TideBoats$State" (61 : Nat) "TideBoats$State" "boatsRammed" "I") ∈ lw_all := all_mem 62 (by decide +kernel) (by decide +kernel)
theorem fl_X4_61 : FLD RX4 61 4 8 := ⟨RX4, TX4, 14, rfl, Nat.le_of_ble_eq_true rfl, in_X4, q62⟩
theorem q66 : (Jvm.Cond.fieldLink "TideBoats$State" (64 : Nat) "TideBoats$State" "turn" "I") ∈ lw_all := all_mem 66 (by decide +kernel) (by decide +kernel)
theorem fl_X4_64 : FLD RX4 64 4 9 := ⟨RX4, TX4, 14, rfl, Nat.le_of_ble_eq_true rfl, in_X4, q66⟩
theorem q328 : (Jvm.Cond.methodLink "TideBoats$State" (67 : Nat) ({ cls := "TideBoats$State", name := "tideIn", desc := "(I)I" } : Jvm.MethodName)) ∈ lw_all := all_mem 328 (by decide +kernel) (by decide +kernel)
theorem kV_X4_67 : CWV RX4 67 RX4 yX4_tideIn cX4_tideIn 4 (some .int) 1 := cwv_mk q328 q329 q330 q2 q331 ⟨rfl, ⟨by decide +kernel, by decide +kernel, by decide +kernel⟩⟩
theorem q262 : (Jvm.Cond.methodLinkNest "TideBoats$State" (71 : Nat) ({ cls := "TideBoats", name := "read", desc := "([II)I" } : Jvm.MethodName) "TideBoats") ∈ lw_nst := nst_mem 262 (by decide +kernel) (by decide +kernel)
theorem kN_X4_71 : CWN RX4 71 yX5_read cX5_read 2 (some .int) 2 := ⟨⟨_, q262⟩, q224, q1, q225, ⟨by decide +kernel, by decide +kernel, by decide +kernel⟩⟩
theorem q619 : (Jvm.Cond.methodLink "TideBoats$State" (75 : Nat) ({ cls := "java/lang/Math", name := "max", desc := "(II)I" } : Jvm.MethodName)) ∈ lw_all := all_mem 619 (by decide +kernel) (by decide +kernel)
theorem kS_X4_75 : CWS RX4 75 yJ9_max_7cf53 cJ9_max_7cf53 2 (some .int) 2 := cws_mk q619 q442 q10 q443 ⟨by decide +kernel, by decide +kernel, by decide +kernel⟩
theorem q315 : (Jvm.Cond.methodLink "TideBoats$State" (81 : Nat) ({ cls := "TideBoats$State", name := "isBoat", desc := "(I)Z" } : Jvm.MethodName)) ∈ lw_all := all_mem 315 (by decide +kernel) (by decide +kernel)
theorem kV_X4_81 : CWV RX4 81 RX4 yX4_isBoat cX4_isBoat 2 (some .boolean) 1 := cwv_mk q315 q296 q297 q2 q298 ⟨rfl, ⟨by decide +kernel, by decide +kernel, by decide +kernel⟩⟩
theorem q324 : (Jvm.Cond.methodLink "TideBoats$State" (84 : Nat) ({ cls := "TideBoats$State", name := "isWet", desc := "(III)Z" } : Jvm.MethodName)) ∈ lw_all := all_mem 324 (by decide +kernel) (by decide +kernel)
theorem kV_X4_84 : CWV RX4 84 RX4 yX4_isWet cX4_isWet 4 (some .boolean) 3 := cwv_mk q324 q325 q326 q2 q327 ⟨rfl, ⟨by decide +kernel, by decide +kernel, by decide +kernel⟩⟩
theorem q364 : (Jvm.Cond.methodLink "TideBoats$State" (88 : Nat) ({ cls := "TideBoats$State", name := "isOnBoard", desc := "(I)Z" } : Jvm.MethodName)) ∈ lw_all := all_mem 364 (by decide +kernel) (by decide +kernel)
theorem kV_X4_88 : CWV RX4 88 RX4 yX4_isOnBoard cX4_isOnBoard 2 (some .boolean) 1 := cwv_mk q364 q312 q313 q2 q314 ⟨rfl, ⟨by decide +kernel, by decide +kernel, by decide +kernel⟩⟩
theorem q657 : (Jvm.Cond.methodLink "TideBoats$State" (91 : Nat) ({ cls := "TideBoats$State", name := "floats", desc := "(I)Z" } : Jvm.MethodName)) ∈ lw_all := all_mem 657 (by decide +kernel) (by decide +kernel)
theorem kV_X4_91 : CWV RX4 91 RX4 yX4_floats cX4_floats 2 (some .boolean) 1 := cwv_mk q657 q321 q322 q2 q323 ⟨rfl, ⟨by decide +kernel, by decide +kernel, by decide +kernel⟩⟩
theorem q310 : (Jvm.Cond.code ({ cls := "TideBoats$State", name := "boatsThatAre", desc := "(I)I" } : Jvm.MethodName) prog_6_method_14_code (4 : Nat) (Option.some Jvm.ClassFile.FieldType.int)) ∈ lw_all := all_mem 310 (by decide +kernel) (by decide +kernel)
theorem q307 : (Jvm.Cond.methodLink "TideBoats$State" (94 : Nat) ({ cls := "TideBoats$State", name := "boatsThatAre", desc := "(I)I" } : Jvm.MethodName)) ∈ lw_all := all_mem 307 (by decide +kernel) (by decide +kernel)
theorem q308 : (Jvm.Cond.instanceMethod ({ cls := "TideBoats$State", name := "boatsThatAre", desc := "(I)I" } : Jvm.MethodName)) ∈ lw_all := all_mem 308 (by decide +kernel) (by decide +kernel)
theorem q309 : (Jvm.Cond.selects "TideBoats$State" ({ cls := "TideBoats$State", name := "boatsThatAre", desc := "(I)I" } : Jvm.MethodName) ({ cls := "TideBoats$State", name := "boatsThatAre", desc := "(I)I" } : Jvm.MethodName)) ∈ lw_all := all_mem 309 (by decide +kernel) (by decide +kernel)
theorem kV_X4_94 : CWV RX4 94 RX4 yX4_boatsThatAre cX4_boatsThatAre 4 (some .int) 1 := cwv_mk q307 q308 q309 q2 q310 ⟨rfl, ⟨by decide +kernel, by decide +kernel, by decide +kernel⟩⟩
theorem q24 : (Jvm.Cond.methodLink "TideBoats" (9 : Nat) ({ cls := "TideBoats$State", name := "<init>", desc := "()V" } : Jvm.MethodName)) ∈ lw_all := all_mem 24 (by decide +kernel) (by decide +kernel)
theorem kI_X5_9 : CWI RX5 9 yX4_init cX4_init 2 0 := ⟨q24, q25, q2, q26, rfl, ⟨by decide +kernel, by decide +kernel, by decide +kernel⟩⟩
theorem q185 : (Jvm.Cond.fieldLink "TideBoats" (10 : Nat) "TideBoats" "now" "LTideBoats$State;") ∈ lw_all := all_mem 185 (by decide +kernel) (by decide +kernel)
theorem fl_X5_10 : FLD RX5 10 5 0 := ⟨RX5, TX5, 6, rfl, Nat.le_of_ble_eq_true rfl, in_X5, q185⟩
theorem q186 : (Jvm.Cond.fieldLink "TideBoats" (16 : Nat) "TideBoats" "before" "LTideBoats$State;") ∈ lw_all := all_mem 186 (by decide +kernel) (by decide +kernel)
theorem fl_X5_16 : FLD RX5 16 5 1 := ⟨RX5, TX5, 6, rfl, Nat.le_of_ble_eq_true rfl, in_X5, q186⟩
theorem q112 : (Jvm.Cond.code ({ cls := "TideBoats$Rules", name := "<init>", desc := "(LTideBoats$State;)V" } : Jvm.MethodName) prog_5_method_1_code (2 : Nat) (Option.none : Option Jvm.ClassFile.FieldType)) ∈ lw_all := all_mem 112 (by decide +kernel) (by decide +kernel)
theorem q111 : (Jvm.Cond.instanceMethod ({ cls := "TideBoats$Rules", name := "<init>", desc := "(LTideBoats$State;)V" } : Jvm.MethodName)) ∈ lw_all := all_mem 111 (by decide +kernel) (by decide +kernel)
theorem q110 : (Jvm.Cond.methodLink "TideBoats" (21 : Nat) ({ cls := "TideBoats$Rules", name := "<init>", desc := "(LTideBoats$State;)V" } : Jvm.MethodName)) ∈ lw_all := all_mem 110 (by decide +kernel) (by decide +kernel)
theorem kI_X5_21 : CWI RX5 21 yX3_init cX3_init 2 1 := ⟨q110, q111, q3, q112, rfl, ⟨by decide +kernel, by decide +kernel, by decide +kernel⟩⟩
theorem q187 : (Jvm.Cond.fieldLink "TideBoats" (24 : Nat) "TideBoats" "rules" "LTideBoats$Rules;") ∈ lw_all := all_mem 187 (by decide +kernel) (by decide +kernel)
theorem fl_X5_24 : FLD RX5 24 5 2 := ⟨RX5, TX5, 6, rfl, Nat.le_of_ble_eq_true rfl, in_X5, q187⟩
theorem q122 : (Jvm.Cond.code ({ cls := "TideBoats$HomeSearch", name := "<init>", desc := "(LTideBoats$State;)V" } : Jvm.MethodName) prog_3_method_1_code (2 : Nat) (Option.none : Option Jvm.ClassFile.FieldType)) ∈ lw_all := all_mem 122 (by decide +kernel) (by decide +kernel)
theorem q121 : (Jvm.Cond.instanceMethod ({ cls := "TideBoats$HomeSearch", name := "<init>", desc := "(LTideBoats$State;)V" } : Jvm.MethodName)) ∈ lw_all := all_mem 121 (by decide +kernel) (by decide +kernel)
theorem q120 : (Jvm.Cond.methodLink "TideBoats" (30 : Nat) ({ cls := "TideBoats$HomeSearch", name := "<init>", desc := "(LTideBoats$State;)V" } : Jvm.MethodName)) ∈ lw_all := all_mem 120 (by decide +kernel) (by decide +kernel)
theorem kI_X5_30 : CWI RX5 30 yX1_init cX1_init 2 1 := ⟨q120, q121, q4, q122, rfl, ⟨by decide +kernel, by decide +kernel, by decide +kernel⟩⟩
theorem q188 : (Jvm.Cond.fieldLink "TideBoats" (31 : Nat) "TideBoats" "search" "LTideBoats$HomeSearch;") ∈ lw_all := all_mem 188 (by decide +kernel) (by decide +kernel)
theorem fl_X5_31 : FLD RX5 31 5 3 := ⟨RX5, TX5, 6, rfl, Nat.le_of_ble_eq_true rfl, in_X5, q188⟩
theorem q151 : (Jvm.Cond.code ({ cls := "TideBoats$History", name := "<init>", desc := "()V" } : Jvm.MethodName) prog_2_method_1_code (2 : Nat) (Option.none : Option Jvm.ClassFile.FieldType)) ∈ lw_all := all_mem 151 (by decide +kernel) (by decide +kernel)
theorem q150 : (Jvm.Cond.instanceMethod ({ cls := "TideBoats$History", name := "<init>", desc := "()V" } : Jvm.MethodName)) ∈ lw_all := all_mem 150 (by decide +kernel) (by decide +kernel)
theorem q149 : (Jvm.Cond.methodLink "TideBoats" (37 : Nat) ({ cls := "TideBoats$History", name := "<init>", desc := "()V" } : Jvm.MethodName)) ∈ lw_all := all_mem 149 (by decide +kernel) (by decide +kernel)
theorem kI_X5_37 : CWI RX5 37 yX0_init cX0_init 2 0 := ⟨q149, q150, q5, q151, rfl, ⟨by decide +kernel, by decide +kernel, by decide +kernel⟩⟩
theorem q189 : (Jvm.Cond.fieldLink "TideBoats" (38 : Nat) "TideBoats" "history" "LTideBoats$History;") ∈ lw_all := all_mem 189 (by decide +kernel) (by decide +kernel)
theorem fl_X5_38 : FLD RX5 38 5 4 := ⟨RX5, TX5, 6, rfl, Nat.le_of_ble_eq_true rfl, in_X5, q189⟩
theorem q174 : (Jvm.Cond.code ({ cls := "TideBoats$Orders", name := "<init>", desc := "()V" } : Jvm.MethodName) prog_4_method_1_code (1 : Nat) (Option.none : Option Jvm.ClassFile.FieldType)) ∈ lw_all := all_mem 174 (by decide +kernel) (by decide +kernel)
theorem q173 : (Jvm.Cond.instanceMethod ({ cls := "TideBoats$Orders", name := "<init>", desc := "()V" } : Jvm.MethodName)) ∈ lw_all := all_mem 173 (by decide +kernel) (by decide +kernel)
theorem q172 : (Jvm.Cond.methodLinkNest "TideBoats" (44 : Nat) ({ cls := "TideBoats$Orders", name := "<init>", desc := "()V" } : Jvm.MethodName) "TideBoats") ∈ lw_nst := nst_mem 172 (by decide +kernel) (by decide +kernel)
theorem kIN_X5_44 : CWIN RX5 44 yX2_init cX2_init 1 0 := ⟨⟨_, q172⟩, q173, q6, q174, rfl, ⟨by decide +kernel, by decide +kernel, by decide +kernel⟩⟩
theorem q190 : (Jvm.Cond.fieldLink "TideBoats" (45 : Nat) "TideBoats" "text" "LTideBoats$Orders;") ∈ lw_all := all_mem 190 (by decide +kernel) (by decide +kernel)
theorem fl_X5_45 : FLD RX5 45 5 5 := ⟨RX5, TX5, 6, rfl, Nat.le_of_ble_eq_true rfl, in_X5, q190⟩
theorem q208 : (Jvm.Cond.methodLink "TideBoats" (49 : Nat) ({ cls := "TideBoats$State", name := "copyFrom", desc := "(LTideBoats$State;)V" } : Jvm.MethodName)) ∈ lw_all := all_mem 208 (by decide +kernel) (by decide +kernel)
theorem kV_X5_49 : CWV RX5 49 RX4 yX4_copyFrom cX4_copyFrom 2 (none) 1 := cwv_mk q208 q209 q210 q2 q211 ⟨rfl, ⟨by decide +kernel, by decide +kernel, by decide +kernel⟩⟩
theorem q218 : (Jvm.Cond.code ({ cls := "TideBoats$Rules", name := "laySand", desc := "(IIZ)I" } : Jvm.MethodName) prog_5_method_2_code (6 : Nat) (Option.some Jvm.ClassFile.FieldType.int)) ∈ lw_all := all_mem 218 (by decide +kernel) (by decide +kernel)
theorem q215 : (Jvm.Cond.methodLink "TideBoats" (52 : Nat) ({ cls := "TideBoats$Rules", name := "laySand", desc := "(IIZ)I" } : Jvm.MethodName)) ∈ lw_all := all_mem 215 (by decide +kernel) (by decide +kernel)
theorem q216 : (Jvm.Cond.instanceMethod ({ cls := "TideBoats$Rules", name := "laySand", desc := "(IIZ)I" } : Jvm.MethodName)) ∈ lw_all := all_mem 216 (by decide +kernel) (by decide +kernel)
theorem q217 : (Jvm.Cond.selects "TideBoats$Rules" ({ cls := "TideBoats$Rules", name := "laySand", desc := "(IIZ)I" } : Jvm.MethodName) ({ cls := "TideBoats$Rules", name := "laySand", desc := "(IIZ)I" } : Jvm.MethodName)) ∈ lw_all := all_mem 217 (by decide +kernel) (by decide +kernel)
theorem kV_X5_52 : CWV RX5 52 RX3 yX3_laySand cX3_laySand 6 (some .int) 3 := cwv_mk q215 q216 q217 q3 q218 ⟨rfl, ⟨by decide +kernel, by decide +kernel, by decide +kernel⟩⟩
theorem q230 : (Jvm.Cond.code ({ cls := "TideBoats", name := "recorded", desc := "(I)I" } : Jvm.MethodName) prog_1_method_24_code (2 : Nat) (Option.some Jvm.ClassFile.FieldType.int)) ∈ lw_all := all_mem 230 (by decide +kernel) (by decide +kernel)
theorem q227 : (Jvm.Cond.methodLink "TideBoats" (56 : Nat) ({ cls := "TideBoats", name := "recorded", desc := "(I)I" } : Jvm.MethodName)) ∈ lw_all := all_mem 227 (by decide +kernel) (by decide +kernel)
theorem q229 : (Jvm.Cond.instanceMethod ({ cls := "TideBoats", name := "recorded", desc := "(I)I" } : Jvm.MethodName)) ∈ lw_all := all_mem 229 (by decide +kernel) (by decide +kernel)
theorem qs0 : (Jvm.Cond.selects "TideBoats" ({ cls := "TideBoats", name := "recorded", desc := "(I)I" } : Jvm.MethodName) ({ cls := "TideBoats", name := "recorded", desc := "(I)I" } : Jvm.MethodName)) ∈ lw_all := all_memS 0 (by decide +kernel) (by decide +kernel)
theorem kV_X5_56 : CWV RX5 56 RX5 yX5_recorded cX5_recorded 2 (some .int) 1 := cwv_mk q227 q229 qs0 q1 q230 ⟨rfl, ⟨by decide +kernel, by decide +kernel, by decide +kernel⟩⟩
theorem q251 : (Jvm.Cond.code ({ cls := "TideBoats$Rules", name := "addBoat", desc := "(III)I" } : Jvm.MethodName) prog_5_method_3_code (5 : Nat) (Option.some Jvm.ClassFile.FieldType.int)) ∈ lw_all := all_mem 251 (by decide +kernel) (by decide +kernel)
theorem q248 : (Jvm.Cond.methodLink "TideBoats" (60 : Nat) ({ cls := "TideBoats$Rules", name := "addBoat", desc := "(III)I" } : Jvm.MethodName)) ∈ lw_all := all_mem 248 (by decide +kernel) (by decide +kernel)
theorem q249 : (Jvm.Cond.instanceMethod ({ cls := "TideBoats$Rules", name := "addBoat", desc := "(III)I" } : Jvm.MethodName)) ∈ lw_all := all_mem 249 (by decide +kernel) (by decide +kernel)
theorem q250 : (Jvm.Cond.selects "TideBoats$Rules" ({ cls := "TideBoats$Rules", name := "addBoat", desc := "(III)I" } : Jvm.MethodName) ({ cls := "TideBoats$Rules", name := "addBoat", desc := "(III)I" } : Jvm.MethodName)) ∈ lw_all := all_mem 250 (by decide +kernel) (by decide +kernel)
theorem kV_X5_60 : CWV RX5 60 RX3 yX3_addBoat cX3_addBoat 5 (some .int) 3 := cwv_mk q248 q249 q250 q3 q251 ⟨rfl, ⟨by decide +kernel, by decide +kernel, by decide +kernel⟩⟩
theorem q270 : (Jvm.Cond.code ({ cls := "TideBoats$Rules", name := "changeSetting", desc := "(II)I" } : Jvm.MethodName) prog_5_method_4_code (4 : Nat) (Option.some Jvm.ClassFile.FieldType.int)) ∈ lw_all := all_mem 270 (by decide +kernel) (by decide +kernel)
theorem q267 : (Jvm.Cond.methodLink "TideBoats" (64 : Nat) ({ cls := "TideBoats$Rules", name := "changeSetting", desc := "(II)I" } : Jvm.MethodName)) ∈ lw_all := all_mem 267 (by decide +kernel) (by decide +kernel)
theorem q268 : (Jvm.Cond.instanceMethod ({ cls := "TideBoats$Rules", name := "changeSetting", desc := "(II)I" } : Jvm.MethodName)) ∈ lw_all := all_mem 268 (by decide +kernel) (by decide +kernel)
theorem q269 : (Jvm.Cond.selects "TideBoats$Rules" ({ cls := "TideBoats$Rules", name := "changeSetting", desc := "(II)I" } : Jvm.MethodName) ({ cls := "TideBoats$Rules", name := "changeSetting", desc := "(II)I" } : Jvm.MethodName)) ∈ lw_all := all_mem 269 (by decide +kernel) (by decide +kernel)
theorem kV_X5_64 : CWV RX5 64 RX3 yX3_changeSetting cX3_changeSetting 4 (some .int) 2 := cwv_mk q267 q268 q269 q3 q270 ⟨rfl, ⟨by decide +kernel, by decide +kernel, by decide +kernel⟩⟩
theorem q290 : (Jvm.Cond.code ({ cls := "TideBoats$Rules", name := "sail", desc := "(III)I" } : Jvm.MethodName) prog_5_method_5_code (8 : Nat) (Option.some Jvm.ClassFile.FieldType.int)) ∈ lw_all := all_mem 290 (by decide +kernel) (by decide +kernel)
theorem q287 : (Jvm.Cond.methodLink "TideBoats" (68 : Nat) ({ cls := "TideBoats$Rules", name := "sail", desc := "(III)I" } : Jvm.MethodName)) ∈ lw_all := all_mem 287 (by decide +kernel) (by decide +kernel)
theorem q288 : (Jvm.Cond.instanceMethod ({ cls := "TideBoats$Rules", name := "sail", desc := "(III)I" } : Jvm.MethodName)) ∈ lw_all := all_mem 288 (by decide +kernel) (by decide +kernel)
theorem q289 : (Jvm.Cond.selects "TideBoats$Rules" ({ cls := "TideBoats$Rules", name := "sail", desc := "(III)I" } : Jvm.MethodName) ({ cls := "TideBoats$Rules", name := "sail", desc := "(III)I" } : Jvm.MethodName)) ∈ lw_all := all_mem 289 (by decide +kernel) (by decide +kernel)
theorem kV_X5_68 : CWV RX5 68 RX3 yX3_sail cX3_sail 8 (some .int) 3 := cwv_mk q287 q288 q289 q3 q290 ⟨rfl, ⟨by decide +kernel, by decide +kernel, by decide +kernel⟩⟩
theorem q372 : (Jvm.Cond.code ({ cls := "TideBoats$Rules", name := "waitATurn", desc := "()I" } : Jvm.MethodName) prog_5_method_6_code (1 : Nat) (Option.some Jvm.ClassFile.FieldType.int)) ∈ lw_all := all_mem 372 (by decide +kernel) (by decide +kernel)
theorem q369 : (Jvm.Cond.methodLink "TideBoats" (71 : Nat) ({ cls := "TideBoats$Rules", name := "waitATurn", desc := "()I" } : Jvm.MethodName)) ∈ lw_all := all_mem 369 (by decide +kernel) (by decide +kernel)
theorem q370 : (Jvm.Cond.instanceMethod ({ cls := "TideBoats$Rules", name := "waitATurn", desc := "()I" } : Jvm.MethodName)) ∈ lw_all := all_mem 370 (by decide +kernel) (by decide +kernel)
theorem q371 : (Jvm.Cond.selects "TideBoats$Rules" ({ cls := "TideBoats$Rules", name := "waitATurn", desc := "()I" } : Jvm.MethodName) ({ cls := "TideBoats$Rules", name := "waitATurn", desc := "()I" } : Jvm.MethodName)) ∈ lw_all := all_mem 371 (by decide +kernel) (by decide +kernel)
theorem kV_X5_71 : CWV RX5 71 RX3 yX3_waitATurn cX3_waitATurn 1 (some .int) 0 := cwv_mk q369 q370 q371 q3 q372 ⟨rfl, ⟨by decide +kernel, by decide +kernel, by decide +kernel⟩⟩
theorem q381 : (Jvm.Cond.code ({ cls := "TideBoats$Orders", name := "append", desc := "(C)I" } : Jvm.MethodName) prog_4_method_2_code (2 : Nat) (Option.some Jvm.ClassFile.FieldType.int)) ∈ lw_all := all_mem 381 (by decide +kernel) (by decide +kernel)
theorem q378 : (Jvm.Cond.methodLink "TideBoats" (75 : Nat) ({ cls := "TideBoats$Orders", name := "append", desc := "(C)I" } : Jvm.MethodName)) ∈ lw_all := all_mem 378 (by decide +kernel) (by decide +kernel)
theorem q379 : (Jvm.Cond.instanceMethod ({ cls := "TideBoats$Orders", name := "append", desc := "(C)I" } : Jvm.MethodName)) ∈ lw_all := all_mem 379 (by decide +kernel) (by decide +kernel)
theorem q380 : (Jvm.Cond.selects "TideBoats$Orders" ({ cls := "TideBoats$Orders", name := "append", desc := "(C)I" } : Jvm.MethodName) ({ cls := "TideBoats$Orders", name := "append", desc := "(C)I" } : Jvm.MethodName)) ∈ lw_all := all_mem 380 (by decide +kernel) (by decide +kernel)
theorem kV_X5_75 : CWV RX5 75 RX2 yX2_append cX2_append 2 (some .int) 1 := cwv_mk q378 q379 q380 q6 q381 ⟨rfl, ⟨by decide +kernel, by decide +kernel, by decide +kernel⟩⟩
theorem q389 : (Jvm.Cond.code ({ cls := "TideBoats$Orders", name := "removeAll", desc := "()I" } : Jvm.MethodName) prog_4_method_3_code (2 : Nat) (Option.some Jvm.ClassFile.FieldType.int)) ∈ lw_all := all_mem 389 (by decide +kernel) (by decide +kernel)
theorem q386 : (Jvm.Cond.methodLink "TideBoats" (79 : Nat) ({ cls := "TideBoats$Orders", name := "removeAll", desc := "()I" } : Jvm.MethodName)) ∈ lw_all := all_mem 386 (by decide +kernel) (by decide +kernel)
theorem q387 : (Jvm.Cond.instanceMethod ({ cls := "TideBoats$Orders", name := "removeAll", desc := "()I" } : Jvm.MethodName)) ∈ lw_all := all_mem 387 (by decide +kernel) (by decide +kernel)
theorem q388 : (Jvm.Cond.selects "TideBoats$Orders" ({ cls := "TideBoats$Orders", name := "removeAll", desc := "()I" } : Jvm.MethodName) ({ cls := "TideBoats$Orders", name := "removeAll", desc := "()I" } : Jvm.MethodName)) ∈ lw_all := all_mem 388 (by decide +kernel) (by decide +kernel)
theorem kV_X5_79 : CWV RX5 79 RX2 yX2_removeAll cX2_removeAll 2 (some .int) 0 := cwv_mk q386 q387 q388 q6 q389 ⟨rfl, ⟨by decide +kernel, by decide +kernel, by decide +kernel⟩⟩
theorem q397 : (Jvm.Cond.code ({ cls := "TideBoats$Orders", name := "findFault", desc := "()I" } : Jvm.MethodName) prog_4_method_4_code (4 : Nat) (Option.some Jvm.ClassFile.FieldType.int)) ∈ lw_all := all_mem 397 (by decide +kernel) (by decide +kernel)
theorem q394 : (Jvm.Cond.methodLink "TideBoats" (82 : Nat) ({ cls := "TideBoats$Orders", name := "findFault", desc := "()I" } : Jvm.MethodName)) ∈ lw_all := all_mem 394 (by decide +kernel) (by decide +kernel)
theorem q395 : (Jvm.Cond.instanceMethod ({ cls := "TideBoats$Orders", name := "findFault", desc := "()I" } : Jvm.MethodName)) ∈ lw_all := all_mem 395 (by decide +kernel) (by decide +kernel)
theorem q396 : (Jvm.Cond.selects "TideBoats$Orders" ({ cls := "TideBoats$Orders", name := "findFault", desc := "()I" } : Jvm.MethodName) ({ cls := "TideBoats$Orders", name := "findFault", desc := "()I" } : Jvm.MethodName)) ∈ lw_all := all_mem 396 (by decide +kernel) (by decide +kernel)
theorem kV_X5_82 : CWV RX5 82 RX2 yX2_findFault cX2_findFault 4 (some .int) 0 := cwv_mk q394 q395 q396 q6 q397 ⟨rfl, ⟨by decide +kernel, by decide +kernel, by decide +kernel⟩⟩
theorem q178 : (Jvm.Cond.fieldLinkNest "TideBoats" (85 : Nat) "TideBoats$Orders" "length" "I" "TideBoats") ∈ lw_nst := nst_mem 178 (by decide +kernel) (by decide +kernel)
theorem fl_X5_85 : FLN RX5 85 2 1 := ⟨RX2, TX2, 2, rfl, Nat.le_of_ble_eq_true rfl, in_X2, _, q178⟩
theorem q553 : (Jvm.Cond.code ({ cls := "TideBoats", name := "doOrder", desc := "(I)I" } : Jvm.MethodName) prog_1_method_25_code (3 : Nat) (Option.some Jvm.ClassFile.FieldType.int)) ∈ lw_all := all_mem 553 (by decide +kernel) (by decide +kernel)
theorem q550 : (Jvm.Cond.methodLink "TideBoats" (89 : Nat) ({ cls := "TideBoats", name := "doOrder", desc := "(I)I" } : Jvm.MethodName)) ∈ lw_all := all_mem 550 (by decide +kernel) (by decide +kernel)
theorem q552 : (Jvm.Cond.instanceMethod ({ cls := "TideBoats", name := "doOrder", desc := "(I)I" } : Jvm.MethodName)) ∈ lw_all := all_mem 552 (by decide +kernel) (by decide +kernel)
theorem qs7 : (Jvm.Cond.selects "TideBoats" ({ cls := "TideBoats", name := "doOrder", desc := "(I)I" } : Jvm.MethodName) ({ cls := "TideBoats", name := "doOrder", desc := "(I)I" } : Jvm.MethodName)) ∈ lw_all := all_memS 7 (by decide +kernel) (by decide +kernel)
theorem kV_X5_89 : CWV RX5 89 RX5 yX5_doOrder cX5_doOrder 3 (some .int) 1 := cwv_mk q550 q552 qs7 q1 q553 ⟨rfl, ⟨by decide +kernel, by decide +kernel, by decide +kernel⟩⟩
theorem q585 : (Jvm.Cond.methodLink "TideBoats" (92 : Nat) ({ cls := "TideBoats$Orders", name := "endOfOrder", desc := "(I)I" } : Jvm.MethodName)) ∈ lw_all := all_mem 585 (by decide +kernel) (by decide +kernel)
theorem kV_X5_92 : CWV RX5 92 RX2 yX2_endOfOrder cX2_endOfOrder 5 (some .int) 1 := cwv_mk q585 q399 q400 q6 q401 ⟨rfl, ⟨by decide +kernel, by decide +kernel, by decide +kernel⟩⟩
theorem q593 : (Jvm.Cond.code ({ cls := "TideBoats$History", name := "takeLatest", desc := "(LTideBoats$State;)I" } : Jvm.MethodName) prog_2_method_3_code (3 : Nat) (Option.some Jvm.ClassFile.FieldType.int)) ∈ lw_all := all_mem 593 (by decide +kernel) (by decide +kernel)
theorem q590 : (Jvm.Cond.methodLink "TideBoats" (95 : Nat) ({ cls := "TideBoats$History", name := "takeLatest", desc := "(LTideBoats$State;)I" } : Jvm.MethodName)) ∈ lw_all := all_mem 590 (by decide +kernel) (by decide +kernel)
theorem q591 : (Jvm.Cond.instanceMethod ({ cls := "TideBoats$History", name := "takeLatest", desc := "(LTideBoats$State;)I" } : Jvm.MethodName)) ∈ lw_all := all_mem 591 (by decide +kernel) (by decide +kernel)
theorem q592 : (Jvm.Cond.selects "TideBoats$History" ({ cls := "TideBoats$History", name := "takeLatest", desc := "(LTideBoats$State;)I" } : Jvm.MethodName) ({ cls := "TideBoats$History", name := "takeLatest", desc := "(LTideBoats$State;)I" } : Jvm.MethodName)) ∈ lw_all := all_mem 592 (by decide +kernel) (by decide +kernel)
theorem kV_X5_95 : CWV RX5 95 RX0 yX0_takeLatest cX0_takeLatest 3 (some .int) 1 := cwv_mk q590 q591 q592 q5 q593 ⟨rfl, ⟨by decide +kernel, by decide +kernel, by decide +kernel⟩⟩
theorem q601 : (Jvm.Cond.code ({ cls := "TideBoats$History", name := "takeSnapshot", desc := "(LTideBoats$State;)V" } : Jvm.MethodName) prog_2_method_4_code (2 : Nat) (Option.none : Option Jvm.ClassFile.FieldType)) ∈ lw_all := all_mem 601 (by decide +kernel) (by decide +kernel)
theorem q598 : (Jvm.Cond.methodLink "TideBoats" (99 : Nat) ({ cls := "TideBoats$History", name := "takeSnapshot", desc := "(LTideBoats$State;)V" } : Jvm.MethodName)) ∈ lw_all := all_mem 598 (by decide +kernel) (by decide +kernel)
theorem q599 : (Jvm.Cond.instanceMethod ({ cls := "TideBoats$History", name := "takeSnapshot", desc := "(LTideBoats$State;)V" } : Jvm.MethodName)) ∈ lw_all := all_mem 599 (by decide +kernel) (by decide +kernel)
theorem q600 : (Jvm.Cond.selects "TideBoats$History" ({ cls := "TideBoats$History", name := "takeSnapshot", desc := "(LTideBoats$State;)V" } : Jvm.MethodName) ({ cls := "TideBoats$History", name := "takeSnapshot", desc := "(LTideBoats$State;)V" } : Jvm.MethodName)) ∈ lw_all := all_mem 600 (by decide +kernel) (by decide +kernel)
theorem kV_X5_99 : CWV RX5 99 RX0 yX0_takeSnapshot cX0_takeSnapshot 2 (none) 1 := cwv_mk q598 q599 q600 q5 q601 ⟨rfl, ⟨by decide +kernel, by decide +kernel, by decide +kernel⟩⟩
theorem q68 : (Jvm.Cond.fieldLinkNest "TideBoats" (102 : Nat) "TideBoats$State" "turn" "I" "TideBoats") ∈ lw_nst := nst_mem 68 (by decide +kernel) (by decide +kernel)
theorem fl_X5_102 : FLN RX5 102 4 9 := ⟨RX4, TX4, 14, rfl, Nat.le_of_ble_eq_true rfl, in_X4, _, q68⟩
theorem q609 : (Jvm.Cond.code ({ cls := "TideBoats$History", name := "giveSnapshot", desc := "(LTideBoats$State;)I" } : Jvm.MethodName) prog_2_method_5_code (2 : Nat) (Option.some Jvm.ClassFile.FieldType.int)) ∈ lw_all := all_mem 609 (by decide +kernel) (by decide +kernel)
theorem q606 : (Jvm.Cond.methodLink "TideBoats" (105 : Nat) ({ cls := "TideBoats$History", name := "giveSnapshot", desc := "(LTideBoats$State;)I" } : Jvm.MethodName)) ∈ lw_all := all_mem 606 (by decide +kernel) (by decide +kernel)
theorem q607 : (Jvm.Cond.instanceMethod ({ cls := "TideBoats$History", name := "giveSnapshot", desc := "(LTideBoats$State;)I" } : Jvm.MethodName)) ∈ lw_all := all_mem 607 (by decide +kernel) (by decide +kernel)
theorem q608 : (Jvm.Cond.selects "TideBoats$History" ({ cls := "TideBoats$History", name := "giveSnapshot", desc := "(LTideBoats$State;)I" } : Jvm.MethodName) ({ cls := "TideBoats$History", name := "giveSnapshot", desc := "(LTideBoats$State;)I" } : Jvm.MethodName)) ∈ lw_all := all_mem 608 (by decide +kernel) (by decide +kernel)
theorem kV_X5_105 : CWV RX5 105 RX0 yX0_giveSnapshot cX0_giveSnapshot 2 (some .int) 1 := cwv_mk q606 q607 q608 q5 q609 ⟨rfl, ⟨by decide +kernel, by decide +kernel, by decide +kernel⟩⟩
theorem q342 : (Jvm.Cond.methodLink "TideBoats" (108 : Nat) ({ cls := "TideBoats", name := "isCell", desc := "(I)Z" } : Jvm.MethodName)) ∈ lw_all := all_mem 342 (by decide +kernel) (by decide +kernel)
theorem kS_X5_108 : CWS RX5 108 yX5_isCell cX5_isCell 1 (some .boolean) 1 := cws_mk q342 q220 q1 q221 ⟨by decide +kernel, by decide +kernel, by decide +kernel⟩
theorem q37 : (Jvm.Cond.fieldLinkNest "TideBoats" (112 : Nat) "TideBoats$State" "heights" "[I" "TideBoats") ∈ lw_nst := nst_mem 37 (by decide +kernel) (by decide +kernel)
theorem fl_X5_112 : FLN RX5 112 4 0 := ⟨RX4, TX4, 14, rfl, Nat.le_of_ble_eq_true rfl, in_X4, _, q37⟩
theorem q614 : (Jvm.Cond.methodLink "TideBoats" (116 : Nat) ({ cls := "TideBoats", name := "read", desc := "([II)I" } : Jvm.MethodName)) ∈ lw_all := all_mem 614 (by decide +kernel) (by decide +kernel)
theorem kS_X5_116 : CWS RX5 116 yX5_read cX5_read 2 (some .int) 2 := cws_mk q614 q224 q1 q225 ⟨by decide +kernel, by decide +kernel, by decide +kernel⟩
theorem q41 : (Jvm.Cond.fieldLinkNest "TideBoats" (120 : Nat) "TideBoats$State" "rocks" "[I" "TideBoats") ∈ lw_nst := nst_mem 41 (by decide +kernel) (by decide +kernel)
theorem fl_X5_120 : FLN RX5 120 4 1 := ⟨RX4, TX4, 14, rfl, Nat.le_of_ble_eq_true rfl, in_X4, _, q41⟩
theorem q618 : (Jvm.Cond.code ({ cls := "TideBoats$State", name := "waterOver", desc := "(I)I" } : Jvm.MethodName) prog_6_method_7_code (2 : Nat) (Option.some Jvm.ClassFile.FieldType.int)) ∈ lw_all := all_mem 618 (by decide +kernel) (by decide +kernel)
theorem q615 : (Jvm.Cond.methodLink "TideBoats" (123 : Nat) ({ cls := "TideBoats$State", name := "waterOver", desc := "(I)I" } : Jvm.MethodName)) ∈ lw_all := all_mem 615 (by decide +kernel) (by decide +kernel)
theorem q616 : (Jvm.Cond.instanceMethod ({ cls := "TideBoats$State", name := "waterOver", desc := "(I)I" } : Jvm.MethodName)) ∈ lw_all := all_mem 616 (by decide +kernel) (by decide +kernel)
theorem q617 : (Jvm.Cond.selects "TideBoats$State" ({ cls := "TideBoats$State", name := "waterOver", desc := "(I)I" } : Jvm.MethodName) ({ cls := "TideBoats$State", name := "waterOver", desc := "(I)I" } : Jvm.MethodName)) ∈ lw_all := all_mem 617 (by decide +kernel) (by decide +kernel)
theorem kV_X5_123 : CWV RX5 123 RX4 yX4_waterOver cX4_waterOver 2 (some .int) 1 := cwv_mk q615 q616 q617 q2 q618 ⟨rfl, ⟨by decide +kernel, by decide +kernel, by decide +kernel⟩⟩
theorem q620 : (Jvm.Cond.methodLink "TideBoats" (126 : Nat) ({ cls := "TideBoats$State", name := "boatAt", desc := "(I)I" } : Jvm.MethodName)) ∈ lw_all := all_mem 620 (by decide +kernel) (by decide +kernel)
theorem kV_X5_126 : CWV RX5 126 RX4 yX4_boatAt cX4_boatAt 3 (some .int) 1 := cwv_mk q620 q259 q260 q2 q261 ⟨rfl, ⟨by decide +kernel, by decide +kernel, by decide +kernel⟩⟩
theorem q625 : (Jvm.Cond.methodLink "TideBoats" (129 : Nat) ({ cls := "TideBoats$State", name := "isBoat", desc := "(I)Z" } : Jvm.MethodName)) ∈ lw_all := all_mem 625 (by decide +kernel) (by decide +kernel)
theorem kV_X5_129 : CWV RX5 129 RX4 yX4_isBoat cX4_isBoat 2 (some .boolean) 1 := cwv_mk q625 q296 q297 q2 q298 ⟨rfl, ⟨by decide +kernel, by decide +kernel, by decide +kernel⟩⟩
theorem q45 : (Jvm.Cond.fieldLinkNest "TideBoats" (132 : Nat) "TideBoats$State" "owners" "[I" "TideBoats") ∈ lw_nst := nst_mem 45 (by decide +kernel) (by decide +kernel)
theorem fl_X5_132 : FLN RX5 132 4 2 := ⟨RX4, TX4, 14, rfl, Nat.le_of_ble_eq_true rfl, in_X4, _, q45⟩
theorem q49 : (Jvm.Cond.fieldLinkNest "TideBoats" (135 : Nat) "TideBoats$State" "drafts" "[I" "TideBoats") ∈ lw_nst := nst_mem 49 (by decide +kernel) (by decide +kernel)
theorem fl_X5_135 : FLN RX5 135 4 3 := ⟨RX4, TX4, 14, rfl, Nat.le_of_ble_eq_true rfl, in_X4, _, q49⟩
theorem q52 : (Jvm.Cond.fieldLinkNest "TideBoats" (138 : Nat) "TideBoats$State" "conditions" "[I" "TideBoats") ∈ lw_nst := nst_mem 52 (by decide +kernel) (by decide +kernel)
theorem fl_X5_138 : FLN RX5 138 4 4 := ⟨RX4, TX4, 14, rfl, Nat.le_of_ble_eq_true rfl, in_X4, _, q52⟩
theorem q626 : (Jvm.Cond.methodLink "TideBoats" (141 : Nat) ({ cls := "TideBoats$State", name := "isOnBoard", desc := "(I)Z" } : Jvm.MethodName)) ∈ lw_all := all_mem 626 (by decide +kernel) (by decide +kernel)
theorem kV_X5_141 : CWV RX5 141 RX4 yX4_isOnBoard cX4_isOnBoard 2 (some .boolean) 1 := cwv_mk q626 q312 q313 q2 q314 ⟨rfl, ⟨by decide +kernel, by decide +kernel, by decide +kernel⟩⟩
theorem q55 : (Jvm.Cond.fieldLinkNest "TideBoats" (144 : Nat) "TideBoats$State" "places" "[I" "TideBoats") ∈ lw_nst := nst_mem 55 (by decide +kernel) (by decide +kernel)
theorem fl_X5_144 : FLN RX5 144 4 5 := ⟨RX4, TX4, 14, rfl, Nat.le_of_ble_eq_true rfl, in_X4, _, q55⟩
theorem q627 : (Jvm.Cond.methodLink "TideBoats" (147 : Nat) ({ cls := "TideBoats$State", name := "floats", desc := "(I)Z" } : Jvm.MethodName)) ∈ lw_all := all_mem 627 (by decide +kernel) (by decide +kernel)
theorem kV_X5_147 : CWV RX5 147 RX4 yX4_floats cX4_floats 2 (some .boolean) 1 := cwv_mk q627 q321 q322 q2 q323 ⟨rfl, ⟨by decide +kernel, by decide +kernel, by decide +kernel⟩⟩
theorem q58 : (Jvm.Cond.fieldLinkNest "TideBoats" (150 : Nat) "TideBoats$State" "stepsGone" "[I" "TideBoats") ∈ lw_nst := nst_mem 58 (by decide +kernel) (by decide +kernel)
theorem fl_X5_150 : FLN RX5 150 4 6 := ⟨RX4, TX4, 14, rfl, Nat.le_of_ble_eq_true rfl, in_X4, _, q58⟩
theorem q631 : (Jvm.Cond.code ({ cls := "TideBoats$Rules", name := "movesOf", desc := "(I)I" } : Jvm.MethodName) prog_5_method_9_code (5 : Nat) (Option.some Jvm.ClassFile.FieldType.int)) ∈ lw_all := all_mem 631 (by decide +kernel) (by decide +kernel)
theorem q628 : (Jvm.Cond.methodLink "TideBoats" (153 : Nat) ({ cls := "TideBoats$Rules", name := "movesOf", desc := "(I)I" } : Jvm.MethodName)) ∈ lw_all := all_mem 628 (by decide +kernel) (by decide +kernel)
theorem q629 : (Jvm.Cond.instanceMethod ({ cls := "TideBoats$Rules", name := "movesOf", desc := "(I)I" } : Jvm.MethodName)) ∈ lw_all := all_mem 629 (by decide +kernel) (by decide +kernel)
theorem q630 : (Jvm.Cond.selects "TideBoats$Rules" ({ cls := "TideBoats$Rules", name := "movesOf", desc := "(I)I" } : Jvm.MethodName) ({ cls := "TideBoats$Rules", name := "movesOf", desc := "(I)I" } : Jvm.MethodName)) ∈ lw_all := all_mem 630 (by decide +kernel) (by decide +kernel)
theorem kV_X5_153 : CWV RX5 153 RX3 yX3_movesOf cX3_movesOf 5 (some .int) 1 := cwv_mk q628 q629 q630 q3 q631 ⟨rfl, ⟨by decide +kernel, by decide +kernel, by decide +kernel⟩⟩
theorem q636 : (Jvm.Cond.methodLink "TideBoats" (156 : Nat) ({ cls := "TideBoats$State", name := "tideIn", desc := "(I)I" } : Jvm.MethodName)) ∈ lw_all := all_mem 636 (by decide +kernel) (by decide +kernel)
theorem kV_X5_156 : CWV RX5 156 RX4 yX4_tideIn cX4_tideIn 4 (some .int) 1 := cwv_mk q636 q329 q330 q2 q331 ⟨rfl, ⟨by decide +kernel, by decide +kernel, by decide +kernel⟩⟩
theorem q641 : (Jvm.Cond.methodLink "TideBoats" (159 : Nat) ({ cls := "TideBoats$Rules", name := "errorOfMove", desc := "(III)I" } : Jvm.MethodName)) ∈ lw_all := all_mem 641 (by decide +kernel) (by decide +kernel)
theorem kV_X5_159 : CWV RX5 159 RX3 yX3_errorOfMove cX3_errorOfMove 4 (some .int) 3 := cwv_mk q641 q292 q293 q3 q294 ⟨rfl, ⟨by decide +kernel, by decide +kernel, by decide +kernel⟩⟩
theorem q642 : (Jvm.Cond.methodLink "TideBoats" (162 : Nat) ({ cls := "TideBoats$Rules", name := "reasonAgainst", desc := "(IIIZ)I" } : Jvm.MethodName)) ∈ lw_all := all_mem 642 (by decide +kernel) (by decide +kernel)
theorem kV_X5_162 : CWV RX5 162 RX3 yX3_reasonAgainst cX3_reasonAgainst 5 (some .int) 4 := cwv_mk q642 q300 q301 q3 q302 ⟨rfl, ⟨by decide +kernel, by decide +kernel, by decide +kernel⟩⟩
theorem q647 : (Jvm.Cond.methodLink "TideBoats" (166 : Nat) ({ cls := "TideBoats$State", name := "mover", desc := "()I" } : Jvm.MethodName)) ∈ lw_all := all_mem 647 (by decide +kernel) (by decide +kernel)
theorem kV_X5_166 : CWV RX5 166 RX4 yX4_mover cX4_mover 1 (some .int) 0 := cwv_mk q647 q317 q318 q2 q319 ⟨rfl, ⟨by decide +kernel, by decide +kernel, by decide +kernel⟩⟩
theorem q651 : (Jvm.Cond.code ({ cls := "TideBoats$State", name := "scoreOf", desc := "(I)I" } : Jvm.MethodName) prog_6_method_16_code (4 : Nat) (Option.some Jvm.ClassFile.FieldType.int)) ∈ lw_all := all_mem 651 (by decide +kernel) (by decide +kernel)
theorem q648 : (Jvm.Cond.methodLink "TideBoats" (169 : Nat) ({ cls := "TideBoats$State", name := "scoreOf", desc := "(I)I" } : Jvm.MethodName)) ∈ lw_all := all_mem 648 (by decide +kernel) (by decide +kernel)
theorem q649 : (Jvm.Cond.instanceMethod ({ cls := "TideBoats$State", name := "scoreOf", desc := "(I)I" } : Jvm.MethodName)) ∈ lw_all := all_mem 649 (by decide +kernel) (by decide +kernel)
theorem q650 : (Jvm.Cond.selects "TideBoats$State" ({ cls := "TideBoats$State", name := "scoreOf", desc := "(I)I" } : Jvm.MethodName) ({ cls := "TideBoats$State", name := "scoreOf", desc := "(I)I" } : Jvm.MethodName)) ∈ lw_all := all_mem 650 (by decide +kernel) (by decide +kernel)
theorem kV_X5_169 : CWV RX5 169 RX4 yX4_scoreOf cX4_scoreOf 4 (some .int) 1 := cwv_mk q648 q649 q650 q2 q651 ⟨rfl, ⟨by decide +kernel, by decide +kernel, by decide +kernel⟩⟩
theorem q61 : (Jvm.Cond.fieldLinkNest "TideBoats" (172 : Nat) "TideBoats$State" "boats" "I" "TideBoats") ∈ lw_nst := nst_mem 61 (by decide +kernel) (by decide +kernel)
theorem fl_X5_172 : FLN RX5 172 4 7 := ⟨RX4, TX4, 14, rfl, Nat.le_of_ble_eq_true rfl, in_X4, _, q61⟩
theorem q652 : (Jvm.Cond.methodLink "TideBoats" (175 : Nat) ({ cls := "TideBoats$State", name := "boatsThatAre", desc := "(I)I" } : Jvm.MethodName)) ∈ lw_all := all_mem 652 (by decide +kernel) (by decide +kernel)
theorem kV_X5_175 : CWV RX5 175 RX4 yX4_boatsThatAre cX4_boatsThatAre 4 (some .int) 1 := cwv_mk q652 q308 q309 q2 q310 ⟨rfl, ⟨by decide +kernel, by decide +kernel, by decide +kernel⟩⟩
theorem q656 : (Jvm.Cond.code ({ cls := "TideBoats$State", name := "boatsAground", desc := "()I" } : Jvm.MethodName) prog_6_method_15_code (3 : Nat) (Option.some Jvm.ClassFile.FieldType.int)) ∈ lw_all := all_mem 656 (by decide +kernel) (by decide +kernel)
theorem q653 : (Jvm.Cond.methodLink "TideBoats" (178 : Nat) ({ cls := "TideBoats$State", name := "boatsAground", desc := "()I" } : Jvm.MethodName)) ∈ lw_all := all_mem 653 (by decide +kernel) (by decide +kernel)
theorem q654 : (Jvm.Cond.instanceMethod ({ cls := "TideBoats$State", name := "boatsAground", desc := "()I" } : Jvm.MethodName)) ∈ lw_all := all_mem 654 (by decide +kernel) (by decide +kernel)
theorem q655 : (Jvm.Cond.selects "TideBoats$State" ({ cls := "TideBoats$State", name := "boatsAground", desc := "()I" } : Jvm.MethodName) ({ cls := "TideBoats$State", name := "boatsAground", desc := "()I" } : Jvm.MethodName)) ∈ lw_all := all_mem 655 (by decide +kernel) (by decide +kernel)
theorem kV_X5_178 : CWV RX5 178 RX4 yX4_boatsAground cX4_boatsAground 3 (some .int) 0 := cwv_mk q653 q654 q655 q2 q656 ⟨rfl, ⟨by decide +kernel, by decide +kernel, by decide +kernel⟩⟩
theorem q64 : (Jvm.Cond.fieldLinkNest "TideBoats" (181 : Nat) "TideBoats$State" "boatsRammed" "I" "TideBoats") ∈ lw_nst := nst_mem 64 (by decide +kernel) (by decide +kernel)
theorem fl_X5_181 : FLN RX5 181 4 8 := ⟨RX4, TX4, 14, rfl, Nat.le_of_ble_eq_true rfl, in_X4, _, q64⟩
theorem q658 : (Jvm.Cond.methodLink "TideBoats" (184 : Nat) ({ cls := "TideBoats$State", name := "isOver", desc := "()Z" } : Jvm.MethodName)) ∈ lw_all := all_mem 658 (by decide +kernel) (by decide +kernel)
theorem kV_X5_184 : CWV RX5 184 RX4 yX4_isOver cX4_isOver 1 (some .boolean) 0 := cwv_mk q658 q304 q305 q2 q306 ⟨rfl, ⟨by decide +kernel, by decide +kernel, by decide +kernel⟩⟩
theorem q662 : (Jvm.Cond.code ({ cls := "TideBoats", name := "movesOfMover", desc := "()I" } : Jvm.MethodName) prog_1_method_26_code (3 : Nat) (Option.some Jvm.ClassFile.FieldType.int)) ∈ lw_all := all_mem 662 (by decide +kernel) (by decide +kernel)
theorem q659 : (Jvm.Cond.methodLink "TideBoats" (188 : Nat) ({ cls := "TideBoats", name := "movesOfMover", desc := "()I" } : Jvm.MethodName)) ∈ lw_all := all_mem 659 (by decide +kernel) (by decide +kernel)
theorem q661 : (Jvm.Cond.instanceMethod ({ cls := "TideBoats", name := "movesOfMover", desc := "()I" } : Jvm.MethodName)) ∈ lw_all := all_mem 661 (by decide +kernel) (by decide +kernel)
theorem qs8 : (Jvm.Cond.selects "TideBoats" ({ cls := "TideBoats", name := "movesOfMover", desc := "()I" } : Jvm.MethodName) ({ cls := "TideBoats", name := "movesOfMover", desc := "()I" } : Jvm.MethodName)) ∈ lw_all := all_memS 8 (by decide +kernel) (by decide +kernel)
theorem kV_X5_188 : CWV RX5 188 RX5 yX5_movesOfMover cX5_movesOfMover 3 (some .int) 0 := cwv_mk q659 q661 qs8 q1 q662 ⟨rfl, ⟨by decide +kernel, by decide +kernel, by decide +kernel⟩⟩
theorem q159 : (Jvm.Cond.fieldLinkNest "TideBoats" (191 : Nat) "TideBoats$History" "size" "I" "TideBoats") ∈ lw_nst := nst_mem 159 (by decide +kernel) (by decide +kernel)
theorem fl_X5_191 : FLN RX5 191 0 2 := ⟨RX0, TX0, 4, rfl, Nat.le_of_ble_eq_true rfl, in_X0, _, q159⟩
theorem q70 : (Jvm.Cond.fieldLinkNest "TideBoats" (194 : Nat) "TideBoats$State" "lowWater" "I" "TideBoats") ∈ lw_nst := nst_mem 70 (by decide +kernel) (by decide +kernel)
theorem fl_X5_194 : FLN RX5 194 4 10 := ⟨RX4, TX4, 14, rfl, Nat.le_of_ble_eq_true rfl, in_X4, _, q70⟩
theorem q72 : (Jvm.Cond.fieldLinkNest "TideBoats" (197 : Nat) "TideBoats$State" "riseSteps" "I" "TideBoats") ∈ lw_nst := nst_mem 72 (by decide +kernel) (by decide +kernel)
theorem fl_X5_197 : FLN RX5 197 4 11 := ⟨RX4, TX4, 14, rfl, Nat.le_of_ble_eq_true rfl, in_X4, _, q72⟩
theorem q74 : (Jvm.Cond.fieldLinkNest "TideBoats" (200 : Nat) "TideBoats$State" "stepTurns" "I" "TideBoats") ∈ lw_nst := nst_mem 74 (by decide +kernel) (by decide +kernel)
theorem fl_X5_200 : FLN RX5 200 4 12 := ⟨RX4, TX4, 14, rfl, Nat.le_of_ble_eq_true rfl, in_X4, _, q74⟩
theorem q77 : (Jvm.Cond.fieldLinkNest "TideBoats" (203 : Nat) "TideBoats$State" "lastTurn" "I" "TideBoats") ∈ lw_nst := nst_mem 77 (by decide +kernel) (by decide +kernel)
theorem fl_X5_203 : FLN RX5 203 4 13 := ⟨RX4, TX4, 14, rfl, Nat.le_of_ble_eq_true rfl, in_X4, _, q77⟩
theorem q670 : (Jvm.Cond.code ({ cls := "TideBoats$State", name := "turnsOfTide", desc := "()I" } : Jvm.MethodName) prog_6_method_5_code (1 : Nat) (Option.some Jvm.ClassFile.FieldType.int)) ∈ lw_all := all_mem 670 (by decide +kernel) (by decide +kernel)
theorem q667 : (Jvm.Cond.methodLink "TideBoats" (206 : Nat) ({ cls := "TideBoats$State", name := "turnsOfTide", desc := "()I" } : Jvm.MethodName)) ∈ lw_all := all_mem 667 (by decide +kernel) (by decide +kernel)
theorem q668 : (Jvm.Cond.instanceMethod ({ cls := "TideBoats$State", name := "turnsOfTide", desc := "()I" } : Jvm.MethodName)) ∈ lw_all := all_mem 668 (by decide +kernel) (by decide +kernel)
theorem q669 : (Jvm.Cond.selects "TideBoats$State" ({ cls := "TideBoats$State", name := "turnsOfTide", desc := "()I" } : Jvm.MethodName) ({ cls := "TideBoats$State", name := "turnsOfTide", desc := "()I" } : Jvm.MethodName)) ∈ lw_all := all_mem 669 (by decide +kernel) (by decide +kernel)
theorem kV_X5_206 : CWV RX5 206 RX4 yX4_turnsOfTide cX4_turnsOfTide 1 (some .int) 0 := cwv_mk q667 q668 q669 q2 q670 ⟨rfl, ⟨by decide +kernel, by decide +kernel, by decide +kernel⟩⟩
theorem q671 : (Jvm.Cond.methodLink "TideBoats" (209 : Nat) ({ cls := "TideBoats", name := "isDraft", desc := "(I)Z" } : Jvm.MethodName)) ∈ lw_all := all_mem 671 (by decide +kernel) (by decide +kernel)
theorem kS_X5_209 : CWS RX5 209 yX5_isDraft cX5_isDraft 1 (some .boolean) 1 := cws_mk q671 q256 q1 q257 ⟨by decide +kernel, by decide +kernel, by decide +kernel⟩
theorem q673 : (Jvm.Cond.methodLink "TideBoats" (213 : Nat) ({ cls := "TideBoats$State", name := "isWet", desc := "(III)Z" } : Jvm.MethodName)) ∈ lw_all := all_mem 673 (by decide +kernel) (by decide +kernel)
theorem kV_X5_213 : CWV RX5 213 RX4 yX4_isWet cX4_isWet 4 (some .boolean) 3 := cwv_mk q673 q325 q326 q2 q327 ⟨rfl, ⟨by decide +kernel, by decide +kernel, by decide +kernel⟩⟩
theorem q685 : (Jvm.Cond.code ({ cls := "TideBoats$HomeSearch", name := "prepare", desc := "(I)V" } : Jvm.MethodName) prog_3_method_2_code (4 : Nat) (Option.none : Option Jvm.ClassFile.FieldType)) ∈ lw_all := all_mem 685 (by decide +kernel) (by decide +kernel)
theorem q682 : (Jvm.Cond.methodLink "TideBoats" (217 : Nat) ({ cls := "TideBoats$HomeSearch", name := "prepare", desc := "(I)V" } : Jvm.MethodName)) ∈ lw_all := all_mem 682 (by decide +kernel) (by decide +kernel)
theorem q683 : (Jvm.Cond.instanceMethod ({ cls := "TideBoats$HomeSearch", name := "prepare", desc := "(I)V" } : Jvm.MethodName)) ∈ lw_all := all_mem 683 (by decide +kernel) (by decide +kernel)
theorem q684 : (Jvm.Cond.selects "TideBoats$HomeSearch" ({ cls := "TideBoats$HomeSearch", name := "prepare", desc := "(I)V" } : Jvm.MethodName) ({ cls := "TideBoats$HomeSearch", name := "prepare", desc := "(I)V" } : Jvm.MethodName)) ∈ lw_all := all_mem 684 (by decide +kernel) (by decide +kernel)
theorem kV_X5_217 : CWV RX5 217 RX1 yX1_prepare cX1_prepare 4 (none) 1 := cwv_mk q682 q683 q684 q4 q685 ⟨rfl, ⟨by decide +kernel, by decide +kernel, by decide +kernel⟩⟩
theorem q693 : (Jvm.Cond.methodLink "TideBoats" (221 : Nat) ({ cls := "TideBoats$HomeSearch", name := "turnsForwards", desc := "(II)I" } : Jvm.MethodName)) ∈ lw_all := all_mem 693 (by decide +kernel) (by decide +kernel)
theorem kV_X5_221 : CWV RX5 221 RX1 yX1_turnsForwards cX1_turnsForwards 6 (some .int) 2 := cwv_mk q693 q694 q695 q4 q696 ⟨rfl, ⟨by decide +kernel, by decide +kernel, by decide +kernel⟩⟩
theorem q721 : (Jvm.Cond.code ({ cls := "TideBoats$HomeSearch", name := "turnsBackwards", desc := "(II)I" } : Jvm.MethodName) prog_3_method_4_code (4 : Nat) (Option.some Jvm.ClassFile.FieldType.int)) ∈ lw_all := all_mem 721 (by decide +kernel) (by decide +kernel)
theorem q718 : (Jvm.Cond.methodLink "TideBoats" (224 : Nat) ({ cls := "TideBoats$HomeSearch", name := "turnsBackwards", desc := "(II)I" } : Jvm.MethodName)) ∈ lw_all := all_mem 718 (by decide +kernel) (by decide +kernel)
theorem q719 : (Jvm.Cond.instanceMethod ({ cls := "TideBoats$HomeSearch", name := "turnsBackwards", desc := "(II)I" } : Jvm.MethodName)) ∈ lw_all := all_mem 719 (by decide +kernel) (by decide +kernel)
theorem q720 : (Jvm.Cond.selects "TideBoats$HomeSearch" ({ cls := "TideBoats$HomeSearch", name := "turnsBackwards", desc := "(II)I" } : Jvm.MethodName) ({ cls := "TideBoats$HomeSearch", name := "turnsBackwards", desc := "(II)I" } : Jvm.MethodName)) ∈ lw_all := all_mem 720 (by decide +kernel) (by decide +kernel)
theorem kV_X5_224 : CWV RX5 224 RX1 yX1_turnsBackwards cX1_turnsBackwards 4 (some .int) 2 := cwv_mk q718 q719 q720 q4 q721 ⟨rfl, ⟨by decide +kernel, by decide +kernel, by decide +kernel⟩⟩
theorem q734 : (Jvm.Cond.methodLink "TideBoats" (227 : Nat) ({ cls := "TideBoats", name := "isPlayer", desc := "(I)Z" } : Jvm.MethodName)) ∈ lw_all := all_mem 734 (by decide +kernel) (by decide +kernel)
theorem kS_X5_227 : CWS RX5 227 yX5_isPlayer cX5_isPlayer 1 (some .boolean) 1 := cws_mk q734 q253 q1 q254 ⟨by decide +kernel, by decide +kernel, by decide +kernel⟩
theorem q735 : (Jvm.Cond.methodLink "TideBoats" (230 : Nat) ({ cls := "TideBoats$State", name := "isWreckedAhead", desc := "(I)Z" } : Jvm.MethodName)) ∈ lw_all := all_mem 735 (by decide +kernel) (by decide +kernel)
theorem kV_X5_230 : CWV RX5 230 RX4 yX4_isWreckedAhead cX4_isWreckedAhead 3 (some .boolean) 1 := cwv_mk q735 q361 q362 q2 q363 ⟨rfl, ⟨by decide +kernel, by decide +kernel, by decide +kernel⟩⟩
theorem q743 : (Jvm.Cond.code ({ cls := "TideBoats", name := "worthOf", desc := "(III)I" } : Jvm.MethodName) prog_1_method_27_code (7 : Nat) (Option.some Jvm.ClassFile.FieldType.int)) ∈ lw_all := all_mem 743 (by decide +kernel) (by decide +kernel)
theorem q740 : (Jvm.Cond.methodLink "TideBoats" (233 : Nat) ({ cls := "TideBoats", name := "worthOf", desc := "(III)I" } : Jvm.MethodName)) ∈ lw_all := all_mem 740 (by decide +kernel) (by decide +kernel)
theorem q742 : (Jvm.Cond.instanceMethod ({ cls := "TideBoats", name := "worthOf", desc := "(III)I" } : Jvm.MethodName)) ∈ lw_all := all_mem 742 (by decide +kernel) (by decide +kernel)
theorem qs14 : (Jvm.Cond.selects "TideBoats" ({ cls := "TideBoats", name := "worthOf", desc := "(III)I" } : Jvm.MethodName) ({ cls := "TideBoats", name := "worthOf", desc := "(III)I" } : Jvm.MethodName)) ∈ lw_all := all_memS 14 (by decide +kernel) (by decide +kernel)
theorem kV_X5_233 : CWV RX5 233 RX5 yX5_worthOf cX5_worthOf 7 (some .int) 3 := cwv_mk q740 q742 qs14 q1 q743 ⟨rfl, ⟨by decide +kernel, by decide +kernel, by decide +kernel⟩⟩
theorem q234 : (Jvm.Cond.code ({ cls := "TideBoats$History", name := "record", desc := "(LTideBoats$State;)V" } : Jvm.MethodName) prog_2_method_2_code (3 : Nat) (Option.none : Option Jvm.ClassFile.FieldType)) ∈ lw_all := all_mem 234 (by decide +kernel) (by decide +kernel)
theorem q231 : (Jvm.Cond.methodLink "TideBoats" (236 : Nat) ({ cls := "TideBoats$History", name := "record", desc := "(LTideBoats$State;)V" } : Jvm.MethodName)) ∈ lw_all := all_mem 231 (by decide +kernel) (by decide +kernel)
theorem q232 : (Jvm.Cond.instanceMethod ({ cls := "TideBoats$History", name := "record", desc := "(LTideBoats$State;)V" } : Jvm.MethodName)) ∈ lw_all := all_mem 232 (by decide +kernel) (by decide +kernel)
theorem q233 : (Jvm.Cond.selects "TideBoats$History" ({ cls := "TideBoats$History", name := "record", desc := "(LTideBoats$State;)V" } : Jvm.MethodName) ({ cls := "TideBoats$History", name := "record", desc := "(LTideBoats$State;)V" } : Jvm.MethodName)) ∈ lw_all := all_mem 233 (by decide +kernel) (by decide +kernel)
theorem kV_X5_236 : CWV RX5 236 RX0 yX0_record cX0_record 3 (none) 1 := cwv_mk q231 q232 q233 q5 q234 ⟨rfl, ⟨by decide +kernel, by decide +kernel, by decide +kernel⟩⟩
theorem q554 : (Jvm.Cond.methodLink "TideBoats" (239 : Nat) ({ cls := "TideBoats$Orders", name := "signAt", desc := "(I)C" } : Jvm.MethodName)) ∈ lw_all := all_mem 554 (by decide +kernel) (by decide +kernel)
theorem kV_X5_239 : CWV RX5 239 RX2 yX2_signAt cX2_signAt 2 (some .char) 1 := cwv_mk q554 q403 q404 q6 q405 ⟨rfl, ⟨by decide +kernel, by decide +kernel, by decide +kernel⟩⟩
theorem q555 : (Jvm.Cond.methodLink "TideBoats" (243 : Nat) ({ cls := "TideBoats$Orders", name := "isColumn", desc := "(C)Z" } : Jvm.MethodName)) ∈ lw_all := all_mem 555 (by decide +kernel) (by decide +kernel)
theorem kS_X5_243 : CWS RX5 243 yX2_isColumn cX2_isColumn 1 (some .boolean) 1 := cws_mk q555 q410 q6 q411 ⟨by decide +kernel, by decide +kernel, by decide +kernel⟩
theorem q559 : (Jvm.Cond.code ({ cls := "TideBoats$Orders", name := "cellAt", desc := "(I)I" } : Jvm.MethodName) prog_4_method_8_code (2 : Nat) (Option.some Jvm.ClassFile.FieldType.int)) ∈ lw_all := all_mem 559 (by decide +kernel) (by decide +kernel)
theorem q556 : (Jvm.Cond.methodLink "TideBoats" (247 : Nat) ({ cls := "TideBoats$Orders", name := "cellAt", desc := "(I)I" } : Jvm.MethodName)) ∈ lw_all := all_mem 556 (by decide +kernel) (by decide +kernel)
theorem q557 : (Jvm.Cond.instanceMethod ({ cls := "TideBoats$Orders", name := "cellAt", desc := "(I)I" } : Jvm.MethodName)) ∈ lw_all := all_mem 557 (by decide +kernel) (by decide +kernel)
theorem q558 : (Jvm.Cond.selects "TideBoats$Orders" ({ cls := "TideBoats$Orders", name := "cellAt", desc := "(I)I" } : Jvm.MethodName) ({ cls := "TideBoats$Orders", name := "cellAt", desc := "(I)I" } : Jvm.MethodName)) ∈ lw_all := all_mem 558 (by decide +kernel) (by decide +kernel)
theorem kV_X5_247 : CWV RX5 247 RX2 yX2_cellAt cX2_cellAt 2 (some .int) 1 := cwv_mk q556 q557 q558 q6 q559 ⟨rfl, ⟨by decide +kernel, by decide +kernel, by decide +kernel⟩⟩
theorem q563 : (Jvm.Cond.code ({ cls := "TideBoats$Orders", name := "heightAt", desc := "(I)I" } : Jvm.MethodName) prog_4_method_9_code (2 : Nat) (Option.some Jvm.ClassFile.FieldType.int)) ∈ lw_all := all_mem 563 (by decide +kernel) (by decide +kernel)
theorem q560 : (Jvm.Cond.methodLink "TideBoats" (250 : Nat) ({ cls := "TideBoats$Orders", name := "heightAt", desc := "(I)I" } : Jvm.MethodName)) ∈ lw_all := all_mem 560 (by decide +kernel) (by decide +kernel)
theorem q561 : (Jvm.Cond.instanceMethod ({ cls := "TideBoats$Orders", name := "heightAt", desc := "(I)I" } : Jvm.MethodName)) ∈ lw_all := all_mem 561 (by decide +kernel) (by decide +kernel)
theorem q562 : (Jvm.Cond.selects "TideBoats$Orders" ({ cls := "TideBoats$Orders", name := "heightAt", desc := "(I)I" } : Jvm.MethodName) ({ cls := "TideBoats$Orders", name := "heightAt", desc := "(I)I" } : Jvm.MethodName)) ∈ lw_all := all_mem 562 (by decide +kernel) (by decide +kernel)
theorem kV_X5_250 : CWV RX5 250 RX2 yX2_heightAt cX2_heightAt 2 (some .int) 1 := cwv_mk q560 q561 q562 q6 q563 ⟨rfl, ⟨by decide +kernel, by decide +kernel, by decide +kernel⟩⟩
theorem q564 : (Jvm.Cond.methodLink "TideBoats" (253 : Nat) ({ cls := "TideBoats$Orders", name := "isRockAt", desc := "(I)Z" } : Jvm.MethodName)) ∈ lw_all := all_mem 564 (by decide +kernel) (by decide +kernel)
theorem kV_X5_253 : CWV RX5 253 RX2 yX2_isRockAt cX2_isRockAt 2 (some .boolean) 1 := cwv_mk q564 q542 q543 q6 q544 ⟨rfl, ⟨by decide +kernel, by decide +kernel, by decide +kernel⟩⟩
theorem q568 : (Jvm.Cond.code ({ cls := "TideBoats$Orders", name := "playerAt", desc := "(I)I" } : Jvm.MethodName) prog_4_method_10_code (2 : Nat) (Option.some Jvm.ClassFile.FieldType.int)) ∈ lw_all := all_mem 568 (by decide +kernel) (by decide +kernel)
theorem q565 : (Jvm.Cond.methodLink "TideBoats" (256 : Nat) ({ cls := "TideBoats$Orders", name := "playerAt", desc := "(I)I" } : Jvm.MethodName)) ∈ lw_all := all_mem 565 (by decide +kernel) (by decide +kernel)
theorem q566 : (Jvm.Cond.instanceMethod ({ cls := "TideBoats$Orders", name := "playerAt", desc := "(I)I" } : Jvm.MethodName)) ∈ lw_all := all_mem 566 (by decide +kernel) (by decide +kernel)
theorem q567 : (Jvm.Cond.selects "TideBoats$Orders" ({ cls := "TideBoats$Orders", name := "playerAt", desc := "(I)I" } : Jvm.MethodName) ({ cls := "TideBoats$Orders", name := "playerAt", desc := "(I)I" } : Jvm.MethodName)) ∈ lw_all := all_mem 567 (by decide +kernel) (by decide +kernel)
theorem kV_X5_256 : CWV RX5 256 RX2 yX2_playerAt cX2_playerAt 2 (some .int) 1 := cwv_mk q565 q566 q567 q6 q568 ⟨rfl, ⟨by decide +kernel, by decide +kernel, by decide +kernel⟩⟩
theorem q572 : (Jvm.Cond.code ({ cls := "TideBoats$Orders", name := "draftAt", desc := "(I)I" } : Jvm.MethodName) prog_4_method_11_code (2 : Nat) (Option.some Jvm.ClassFile.FieldType.int)) ∈ lw_all := all_mem 572 (by decide +kernel) (by decide +kernel)
theorem q569 : (Jvm.Cond.methodLink "TideBoats" (259 : Nat) ({ cls := "TideBoats$Orders", name := "draftAt", desc := "(I)I" } : Jvm.MethodName)) ∈ lw_all := all_mem 569 (by decide +kernel) (by decide +kernel)
theorem q570 : (Jvm.Cond.instanceMethod ({ cls := "TideBoats$Orders", name := "draftAt", desc := "(I)I" } : Jvm.MethodName)) ∈ lw_all := all_mem 570 (by decide +kernel) (by decide +kernel)
theorem q571 : (Jvm.Cond.selects "TideBoats$Orders" ({ cls := "TideBoats$Orders", name := "draftAt", desc := "(I)I" } : Jvm.MethodName) ({ cls := "TideBoats$Orders", name := "draftAt", desc := "(I)I" } : Jvm.MethodName)) ∈ lw_all := all_mem 571 (by decide +kernel) (by decide +kernel)
theorem kV_X5_259 : CWV RX5 259 RX2 yX2_draftAt cX2_draftAt 2 (some .int) 1 := cwv_mk q569 q570 q571 q6 q572 ⟨rfl, ⟨by decide +kernel, by decide +kernel, by decide +kernel⟩⟩
theorem q576 : (Jvm.Cond.code ({ cls := "TideBoats$Orders", name := "boatAt", desc := "(I)I" } : Jvm.MethodName) prog_4_method_12_code (2 : Nat) (Option.some Jvm.ClassFile.FieldType.int)) ∈ lw_all := all_mem 576 (by decide +kernel) (by decide +kernel)
theorem q573 : (Jvm.Cond.methodLink "TideBoats" (262 : Nat) ({ cls := "TideBoats$Orders", name := "boatAt", desc := "(I)I" } : Jvm.MethodName)) ∈ lw_all := all_mem 573 (by decide +kernel) (by decide +kernel)
theorem q574 : (Jvm.Cond.instanceMethod ({ cls := "TideBoats$Orders", name := "boatAt", desc := "(I)I" } : Jvm.MethodName)) ∈ lw_all := all_mem 574 (by decide +kernel) (by decide +kernel)
theorem q575 : (Jvm.Cond.selects "TideBoats$Orders" ({ cls := "TideBoats$Orders", name := "boatAt", desc := "(I)I" } : Jvm.MethodName) ({ cls := "TideBoats$Orders", name := "boatAt", desc := "(I)I" } : Jvm.MethodName)) ∈ lw_all := all_mem 575 (by decide +kernel) (by decide +kernel)
theorem kV_X5_262 : CWV RX5 262 RX2 yX2_boatAt cX2_boatAt 2 (some .int) 1 := cwv_mk q573 q574 q575 q6 q576 ⟨rfl, ⟨by decide +kernel, by decide +kernel, by decide +kernel⟩⟩
theorem q580 : (Jvm.Cond.code ({ cls := "TideBoats$Orders", name := "directionAt", desc := "(I)I" } : Jvm.MethodName) prog_4_method_13_code (2 : Nat) (Option.some Jvm.ClassFile.FieldType.int)) ∈ lw_all := all_mem 580 (by decide +kernel) (by decide +kernel)
theorem q577 : (Jvm.Cond.methodLink "TideBoats" (263 : Nat) ({ cls := "TideBoats$Orders", name := "directionAt", desc := "(I)I" } : Jvm.MethodName)) ∈ lw_all := all_mem 577 (by decide +kernel) (by decide +kernel)
theorem q578 : (Jvm.Cond.instanceMethod ({ cls := "TideBoats$Orders", name := "directionAt", desc := "(I)I" } : Jvm.MethodName)) ∈ lw_all := all_mem 578 (by decide +kernel) (by decide +kernel)
theorem q579 : (Jvm.Cond.selects "TideBoats$Orders" ({ cls := "TideBoats$Orders", name := "directionAt", desc := "(I)I" } : Jvm.MethodName) ({ cls := "TideBoats$Orders", name := "directionAt", desc := "(I)I" } : Jvm.MethodName)) ∈ lw_all := all_mem 579 (by decide +kernel) (by decide +kernel)
theorem kV_X5_263 : CWV RX5 263 RX2 yX2_directionAt cX2_directionAt 2 (some .int) 1 := cwv_mk q577 q578 q579 q6 q580 ⟨rfl, ⟨by decide +kernel, by decide +kernel, by decide +kernel⟩⟩
theorem q584 : (Jvm.Cond.code ({ cls := "TideBoats$Orders", name := "stepsAt", desc := "(I)I" } : Jvm.MethodName) prog_4_method_14_code (2 : Nat) (Option.some Jvm.ClassFile.FieldType.int)) ∈ lw_all := all_mem 584 (by decide +kernel) (by decide +kernel)
theorem q581 : (Jvm.Cond.methodLink "TideBoats" (266 : Nat) ({ cls := "TideBoats$Orders", name := "stepsAt", desc := "(I)I" } : Jvm.MethodName)) ∈ lw_all := all_mem 581 (by decide +kernel) (by decide +kernel)
theorem q582 : (Jvm.Cond.instanceMethod ({ cls := "TideBoats$Orders", name := "stepsAt", desc := "(I)I" } : Jvm.MethodName)) ∈ lw_all := all_mem 582 (by decide +kernel) (by decide +kernel)
theorem q583 : (Jvm.Cond.selects "TideBoats$Orders" ({ cls := "TideBoats$Orders", name := "stepsAt", desc := "(I)I" } : Jvm.MethodName) ({ cls := "TideBoats$Orders", name := "stepsAt", desc := "(I)I" } : Jvm.MethodName)) ∈ lw_all := all_mem 583 (by decide +kernel) (by decide +kernel)
theorem kV_X5_266 : CWV RX5 266 RX2 yX2_stepsAt cX2_stepsAt 2 (some .int) 1 := cwv_mk q581 q582 q583 q6 q584 ⟨rfl, ⟨by decide +kernel, by decide +kernel, by decide +kernel⟩⟩
theorem q744 : (Jvm.Cond.methodLink "TideBoats" (269 : Nat) ({ cls := "TideBoats", name := "cellFrom", desc := "(III)I" } : Jvm.MethodName)) ∈ lw_all := all_mem 744 (by decide +kernel) (by decide +kernel)
theorem kS_X5_269 : CWS RX5 269 yX5_cellFrom cX5_cellFrom 5 (some .int) 3 := cws_mk q744 q349 q1 q350 ⟨by decide +kernel, by decide +kernel, by decide +kernel⟩
theorem q745 : (Jvm.Cond.methodLink "TideBoats" (272 : Nat) ({ cls := "TideBoats", name := "harbourOf", desc := "(I)I" } : Jvm.MethodName)) ∈ lw_all := all_mem 745 (by decide +kernel) (by decide +kernel)
theorem kS_X5_272 : CWS RX5 272 yX5_harbourOf cX5_harbourOf 1 (some .int) 1 := cws_mk q745 q337 q1 q338 ⟨by decide +kernel, by decide +kernel, by decide +kernel⟩
theorem q749 : (Jvm.Cond.code ({ cls := "TideBoats$HomeSearch", name := "turnsBehind", desc := "(II)I" } : Jvm.MethodName) prog_3_method_5_code (4 : Nat) (Option.some Jvm.ClassFile.FieldType.int)) ∈ lw_all := all_mem 749 (by decide +kernel) (by decide +kernel)
theorem q746 : (Jvm.Cond.methodLink "TideBoats" (275 : Nat) ({ cls := "TideBoats$HomeSearch", name := "turnsBehind", desc := "(II)I" } : Jvm.MethodName)) ∈ lw_all := all_mem 746 (by decide +kernel) (by decide +kernel)
theorem q747 : (Jvm.Cond.instanceMethod ({ cls := "TideBoats$HomeSearch", name := "turnsBehind", desc := "(II)I" } : Jvm.MethodName)) ∈ lw_all := all_mem 747 (by decide +kernel) (by decide +kernel)
theorem q748 : (Jvm.Cond.selects "TideBoats$HomeSearch" ({ cls := "TideBoats$HomeSearch", name := "turnsBehind", desc := "(II)I" } : Jvm.MethodName) ({ cls := "TideBoats$HomeSearch", name := "turnsBehind", desc := "(II)I" } : Jvm.MethodName)) ∈ lw_all := all_mem 748 (by decide +kernel) (by decide +kernel)
theorem kV_X5_275 : CWV RX5 275 RX1 yX1_turnsBehind cX1_turnsBehind 4 (some .int) 2 := cwv_mk q746 q747 q748 q4 q749 ⟨rfl, ⟨by decide +kernel, by decide +kernel, by decide +kernel⟩⟩
theorem q351 : (Jvm.Cond.methodLink "TideBoats" (278 : Nat) ({ cls := "TideBoats", name := "cellBeside", desc := "(II)I" } : Jvm.MethodName)) ∈ lw_all := all_mem 351 (by decide +kernel) (by decide +kernel)
theorem kS_X5_278 : CWS RX5 278 yX5_cellBeside cX5_cellBeside 3 (some .int) 2 := cws_mk q351 q340 q1 q341 ⟨by decide +kernel, by decide +kernel, by decide +kernel⟩
theorem q757 : (Jvm.Cond.fieldLink "TideBoatsModel" (7 : Nat) "TideBoatsModel" "s" "[I") ∈ lw_all := all_mem 757 (by decide +kernel) (by decide +kernel)
theorem fl_X6_7 : FLD RX6 7 6 0 := ⟨RX6, TX6, 11, rfl, Nat.le_of_ble_eq_true rfl, in_X6, q757⟩
theorem q758 : (Jvm.Cond.fieldLink "TideBoatsModel" (13 : Nat) "TideBoatsModel" "past" "[I") ∈ lw_all := all_mem 758 (by decide +kernel) (by decide +kernel)
theorem fl_X6_13 : FLD RX6 13 6 1 := ⟨RX6, TX6, 11, rfl, Nat.le_of_ble_eq_true rfl, in_X6, q758⟩
theorem q760 : (Jvm.Cond.fieldLink "TideBoatsModel" (16 : Nat) "TideBoatsModel" "snap" "[I") ∈ lw_all := all_mem 760 (by decide +kernel) (by decide +kernel)
theorem fl_X6_16 : FLD RX6 16 6 3 := ⟨RX6, TX6, 11, rfl, Nat.le_of_ble_eq_true rfl, in_X6, q760⟩
theorem q762 : (Jvm.Cond.fieldLink "TideBoatsModel" (19 : Nat) "TideBoatsModel" "text" "[I") ∈ lw_all := all_mem 762 (by decide +kernel) (by decide +kernel)
theorem fl_X6_19 : FLD RX6 19 6 5 := ⟨RX6, TX6, 11, rfl, Nat.le_of_ble_eq_true rfl, in_X6, q762⟩
theorem q764 : (Jvm.Cond.fieldLink "TideBoatsModel" (22 : Nat) "TideBoatsModel" "now" "[Z") ∈ lw_all := all_mem 764 (by decide +kernel) (by decide +kernel)
theorem fl_X6_22 : FLD RX6 22 6 7 := ⟨RX6, TX6, 11, rfl, Nat.le_of_ble_eq_true rfl, in_X6, q764⟩
theorem q765 : (Jvm.Cond.fieldLink "TideBoatsModel" (26 : Nat) "TideBoatsModel" "then" "[Z") ∈ lw_all := all_mem 765 (by decide +kernel) (by decide +kernel)
theorem fl_X6_26 : FLD RX6 26 6 8 := ⟨RX6, TX6, 11, rfl, Nat.le_of_ble_eq_true rfl, in_X6, q765⟩
theorem q766 : (Jvm.Cond.fieldLink "TideBoatsModel" (29 : Nat) "TideBoatsModel" "least" "[I") ∈ lw_all := all_mem 766 (by decide +kernel) (by decide +kernel)
theorem fl_X6_29 : FLD RX6 29 6 9 := ⟨RX6, TX6, 11, rfl, Nat.le_of_ble_eq_true rfl, in_X6, q766⟩
theorem q767 : (Jvm.Cond.fieldLink "TideBoatsModel" (32 : Nat) "TideBoatsModel" "later" "[I") ∈ lw_all := all_mem 767 (by decide +kernel) (by decide +kernel)
theorem fl_X6_32 : FLD RX6 32 6 10 := ⟨RX6, TX6, 11, rfl, Nat.le_of_ble_eq_true rfl, in_X6, q767⟩
theorem q809 : (Jvm.Cond.code ({ cls := "TideBoatsModel", name := "in", desc := "(III)Z" } : Jvm.MethodName) prog_8_method_3_code (3 : Nat) (Option.some Jvm.ClassFile.FieldType.boolean)) ∈ lw_all := all_mem 809 (by decide +kernel) (by decide +kernel)
theorem q808 : (Jvm.Cond.static ({ cls := "TideBoatsModel", name := "in", desc := "(III)Z" } : Jvm.MethodName)) ∈ lw_all := all_mem 808 (by decide +kernel) (by decide +kernel)
theorem q807 : (Jvm.Cond.methodLink "TideBoatsModel" (35 : Nat) ({ cls := "TideBoatsModel", name := "in", desc := "(III)Z" } : Jvm.MethodName)) ∈ lw_all := all_mem 807 (by decide +kernel) (by decide +kernel)
theorem q7 : (Jvm.Cond.initialized "TideBoatsModel") ∈ lw_all := all_mem 7 (by decide +kernel) (by decide +kernel)
theorem kS_X6_35 : CWS RX6 35 yX6_in cX6_in 3 (some .boolean) 3 := cws_mk q807 q808 q7 q809 ⟨by decide +kernel, by decide +kernel, by decide +kernel⟩
theorem q836 : (Jvm.Cond.code ({ cls := "TideBoatsModel", name := "at", desc := "(II)I" } : Jvm.MethodName) prog_8_method_6_code (2 : Nat) (Option.some Jvm.ClassFile.FieldType.int)) ∈ lw_all := all_mem 836 (by decide +kernel) (by decide +kernel)
theorem q835 : (Jvm.Cond.static ({ cls := "TideBoatsModel", name := "at", desc := "(II)I" } : Jvm.MethodName)) ∈ lw_all := all_mem 835 (by decide +kernel) (by decide +kernel)
theorem q834 : (Jvm.Cond.methodLink "TideBoatsModel" (39 : Nat) ({ cls := "TideBoatsModel", name := "at", desc := "(II)I" } : Jvm.MethodName)) ∈ lw_all := all_mem 834 (by decide +kernel) (by decide +kernel)
theorem kS_X6_39 : CWS RX6 39 yX6_at cX6_at 2 (some .int) 2 := cws_mk q834 q835 q7 q836 ⟨by decide +kernel, by decide +kernel, by decide +kernel⟩
theorem q759 : (Jvm.Cond.fieldLink "TideBoatsModel" (43 : Nat) "TideBoatsModel" "known" "I") ∈ lw_all := all_mem 759 (by decide +kernel) (by decide +kernel)
theorem fl_X6_43 : FLD RX6 43 6 2 := ⟨RX6, TX6, 11, rfl, Nat.le_of_ble_eq_true rfl, in_X6, q759⟩
theorem q817 : (Jvm.Cond.code ({ cls := "TideBoatsModel", name := "remembers", desc := "()V" } : Jvm.MethodName) prog_8_method_9_code (2 : Nat) (Option.none : Option Jvm.ClassFile.FieldType)) ∈ lw_all := all_mem 817 (by decide +kernel) (by decide +kernel)
theorem q814 : (Jvm.Cond.methodLink "TideBoatsModel" (47 : Nat) ({ cls := "TideBoatsModel", name := "remembers", desc := "()V" } : Jvm.MethodName)) ∈ lw_all := all_mem 814 (by decide +kernel) (by decide +kernel)
theorem q816 : (Jvm.Cond.instanceMethod ({ cls := "TideBoatsModel", name := "remembers", desc := "()V" } : Jvm.MethodName)) ∈ lw_all := all_mem 816 (by decide +kernel) (by decide +kernel)
theorem qs18 : (Jvm.Cond.selects "TideBoatsModel" ({ cls := "TideBoatsModel", name := "remembers", desc := "()V" } : Jvm.MethodName) ({ cls := "TideBoatsModel", name := "remembers", desc := "()V" } : Jvm.MethodName)) ∈ lw_all := all_memS 18 (by decide +kernel) (by decide +kernel)
theorem kV_X6_47 : CWV RX6 47 RX6 yX6_remembers cX6_remembers 2 (none) 0 := cwv_mk q814 q816 qs18 q7 q817 ⟨rfl, ⟨by decide +kernel, by decide +kernel, by decide +kernel⟩⟩
theorem q887 : (Jvm.Cond.code ({ cls := "TideBoatsModel", name := "tideOf", desc := "(II)I" } : Jvm.MethodName) prog_8_method_11_code (5 : Nat) (Option.some Jvm.ClassFile.FieldType.int)) ∈ lw_all := all_mem 887 (by decide +kernel) (by decide +kernel)
theorem q884 : (Jvm.Cond.methodLink "TideBoatsModel" (50 : Nat) ({ cls := "TideBoatsModel", name := "tideOf", desc := "(II)I" } : Jvm.MethodName)) ∈ lw_all := all_mem 884 (by decide +kernel) (by decide +kernel)
theorem q886 : (Jvm.Cond.instanceMethod ({ cls := "TideBoatsModel", name := "tideOf", desc := "(II)I" } : Jvm.MethodName)) ∈ lw_all := all_mem 886 (by decide +kernel) (by decide +kernel)
theorem qs31 : (Jvm.Cond.selects "TideBoatsModel" ({ cls := "TideBoatsModel", name := "tideOf", desc := "(II)I" } : Jvm.MethodName) ({ cls := "TideBoatsModel", name := "tideOf", desc := "(II)I" } : Jvm.MethodName)) ∈ lw_all := all_memS 31 (by decide +kernel) (by decide +kernel)
theorem kV_X6_50 : CWV RX6 50 RX6 yX6_tideOf cX6_tideOf 5 (some .int) 2 := cwv_mk q884 q886 qs31 q7 q887 ⟨rfl, ⟨by decide +kernel, by decide +kernel, by decide +kernel⟩⟩
theorem q883 : (Jvm.Cond.code ({ cls := "TideBoatsModel", name := "water", desc := "(III)I" } : Jvm.MethodName) prog_8_method_12_code (5 : Nat) (Option.some Jvm.ClassFile.FieldType.int)) ∈ lw_all := all_mem 883 (by decide +kernel) (by decide +kernel)
theorem q880 : (Jvm.Cond.methodLink "TideBoatsModel" (53 : Nat) ({ cls := "TideBoatsModel", name := "water", desc := "(III)I" } : Jvm.MethodName)) ∈ lw_all := all_mem 880 (by decide +kernel) (by decide +kernel)
theorem q882 : (Jvm.Cond.instanceMethod ({ cls := "TideBoatsModel", name := "water", desc := "(III)I" } : Jvm.MethodName)) ∈ lw_all := all_mem 882 (by decide +kernel) (by decide +kernel)
theorem qs30 : (Jvm.Cond.selects "TideBoatsModel" ({ cls := "TideBoatsModel", name := "water", desc := "(III)I" } : Jvm.MethodName) ({ cls := "TideBoatsModel", name := "water", desc := "(III)I" } : Jvm.MethodName)) ∈ lw_all := all_memS 30 (by decide +kernel) (by decide +kernel)
theorem kV_X6_53 : CWV RX6 53 RX6 yX6_water cX6_water 5 (some .int) 3 := cwv_mk q880 q882 qs30 q7 q883 ⟨rfl, ⟨by decide +kernel, by decide +kernel, by decide +kernel⟩⟩
theorem q879 : (Jvm.Cond.code ({ cls := "TideBoatsModel", name := "floats", desc := "(IIII)Z" } : Jvm.MethodName) prog_8_method_13_code (5 : Nat) (Option.some Jvm.ClassFile.FieldType.boolean)) ∈ lw_all := all_mem 879 (by decide +kernel) (by decide +kernel)
theorem q876 : (Jvm.Cond.methodLink "TideBoatsModel" (57 : Nat) ({ cls := "TideBoatsModel", name := "floats", desc := "(IIII)Z" } : Jvm.MethodName)) ∈ lw_all := all_mem 876 (by decide +kernel) (by decide +kernel)
theorem q878 : (Jvm.Cond.instanceMethod ({ cls := "TideBoatsModel", name := "floats", desc := "(IIII)Z" } : Jvm.MethodName)) ∈ lw_all := all_mem 878 (by decide +kernel) (by decide +kernel)
theorem qs29 : (Jvm.Cond.selects "TideBoatsModel" ({ cls := "TideBoatsModel", name := "floats", desc := "(IIII)Z" } : Jvm.MethodName) ({ cls := "TideBoatsModel", name := "floats", desc := "(IIII)Z" } : Jvm.MethodName)) ∈ lw_all := all_memS 29 (by decide +kernel) (by decide +kernel)
theorem kV_X6_57 : CWV RX6 57 RX6 yX6_floats cX6_floats 5 (some .boolean) 4 := cwv_mk q876 q878 qs29 q7 q879 ⟨rfl, ⟨by decide +kernel, by decide +kernel, by decide +kernel⟩⟩
theorem q898 : (Jvm.Cond.code ({ cls := "TideBoatsModel", name := "harbour", desc := "(I)I" } : Jvm.MethodName) prog_8_method_15_code (1 : Nat) (Option.some Jvm.ClassFile.FieldType.int)) ∈ lw_all := all_mem 898 (by decide +kernel) (by decide +kernel)
theorem q897 : (Jvm.Cond.static ({ cls := "TideBoatsModel", name := "harbour", desc := "(I)I" } : Jvm.MethodName)) ∈ lw_all := all_mem 897 (by decide +kernel) (by decide +kernel)
theorem q896 : (Jvm.Cond.methodLink "TideBoatsModel" (61 : Nat) ({ cls := "TideBoatsModel", name := "harbour", desc := "(I)I" } : Jvm.MethodName)) ∈ lw_all := all_mem 896 (by decide +kernel) (by decide +kernel)
theorem kS_X6_61 : CWS RX6 61 yX6_harbour cX6_harbour 1 (some .int) 1 := cws_mk q896 q897 q7 q898 ⟨by decide +kernel, by decide +kernel, by decide +kernel⟩
theorem q901 : (Jvm.Cond.code ({ cls := "TideBoatsModel", name := "beside", desc := "(II)I" } : Jvm.MethodName) prog_8_method_16_code (4 : Nat) (Option.some Jvm.ClassFile.FieldType.int)) ∈ lw_all := all_mem 901 (by decide +kernel) (by decide +kernel)
theorem q900 : (Jvm.Cond.static ({ cls := "TideBoatsModel", name := "beside", desc := "(II)I" } : Jvm.MethodName)) ∈ lw_all := all_mem 900 (by decide +kernel) (by decide +kernel)
theorem q899 : (Jvm.Cond.methodLink "TideBoatsModel" (65 : Nat) ({ cls := "TideBoatsModel", name := "beside", desc := "(II)I" } : Jvm.MethodName)) ∈ lw_all := all_mem 899 (by decide +kernel) (by decide +kernel)
theorem kS_X6_65 : CWS RX6 65 yX6_beside cX6_beside 4 (some .int) 2 := cws_mk q899 q900 q7 q901 ⟨by decide +kernel, by decide +kernel, by decide +kernel⟩
theorem q833 : (Jvm.Cond.code ({ cls := "TideBoatsModel", name := "its", desc := "(III)I" } : Jvm.MethodName) prog_8_method_7_code (4 : Nat) (Option.some Jvm.ClassFile.FieldType.int)) ∈ lw_all := all_mem 833 (by decide +kernel) (by decide +kernel)
theorem q830 : (Jvm.Cond.methodLink "TideBoatsModel" (68 : Nat) ({ cls := "TideBoatsModel", name := "its", desc := "(III)I" } : Jvm.MethodName)) ∈ lw_all := all_mem 830 (by decide +kernel) (by decide +kernel)
theorem q832 : (Jvm.Cond.instanceMethod ({ cls := "TideBoatsModel", name := "its", desc := "(III)I" } : Jvm.MethodName)) ∈ lw_all := all_mem 832 (by decide +kernel) (by decide +kernel)
theorem qs21 : (Jvm.Cond.selects "TideBoatsModel" ({ cls := "TideBoatsModel", name := "its", desc := "(III)I" } : Jvm.MethodName) ({ cls := "TideBoatsModel", name := "its", desc := "(III)I" } : Jvm.MethodName)) ∈ lw_all := all_memS 21 (by decide +kernel) (by decide +kernel)
theorem kV_X6_68 : CWV RX6 68 RX6 yX6_its cX6_its 4 (some .int) 3 := cwv_mk q830 q832 qs21 q7 q833 ⟨rfl, ⟨by decide +kernel, by decide +kernel, by decide +kernel⟩⟩
theorem q829 : (Jvm.Cond.code ({ cls := "TideBoatsModel", name := "boatAt", desc := "(II)I" } : Jvm.MethodName) prog_8_method_18_code (4 : Nat) (Option.some Jvm.ClassFile.FieldType.int)) ∈ lw_all := all_mem 829 (by decide +kernel) (by decide +kernel)
theorem q826 : (Jvm.Cond.methodLink "TideBoatsModel" (71 : Nat) ({ cls := "TideBoatsModel", name := "boatAt", desc := "(II)I" } : Jvm.MethodName)) ∈ lw_all := all_mem 826 (by decide +kernel) (by decide +kernel)
theorem q828 : (Jvm.Cond.instanceMethod ({ cls := "TideBoatsModel", name := "boatAt", desc := "(II)I" } : Jvm.MethodName)) ∈ lw_all := all_mem 828 (by decide +kernel) (by decide +kernel)
theorem qs20 : (Jvm.Cond.selects "TideBoatsModel" ({ cls := "TideBoatsModel", name := "boatAt", desc := "(II)I" } : Jvm.MethodName) ({ cls := "TideBoatsModel", name := "boatAt", desc := "(II)I" } : Jvm.MethodName)) ∈ lw_all := all_memS 20 (by decide +kernel) (by decide +kernel)
theorem kV_X6_71 : CWV RX6 71 RX6 yX6_boatAt cX6_boatAt 4 (some .int) 2 := cwv_mk q826 q828 qs20 q7 q829 ⟨rfl, ⟨by decide +kernel, by decide +kernel, by decide +kernel⟩⟩
theorem q875 : (Jvm.Cond.code ({ cls := "TideBoatsModel", name := "isAfloat", desc := "(II)Z" } : Jvm.MethodName) prog_8_method_19_code (3 : Nat) (Option.some Jvm.ClassFile.FieldType.boolean)) ∈ lw_all := all_mem 875 (by decide +kernel) (by decide +kernel)
theorem q872 : (Jvm.Cond.methodLink "TideBoatsModel" (74 : Nat) ({ cls := "TideBoatsModel", name := "isAfloat", desc := "(II)Z" } : Jvm.MethodName)) ∈ lw_all := all_mem 872 (by decide +kernel) (by decide +kernel)
theorem q874 : (Jvm.Cond.instanceMethod ({ cls := "TideBoatsModel", name := "isAfloat", desc := "(II)Z" } : Jvm.MethodName)) ∈ lw_all := all_mem 874 (by decide +kernel) (by decide +kernel)
theorem qs28 : (Jvm.Cond.selects "TideBoatsModel" ({ cls := "TideBoatsModel", name := "isAfloat", desc := "(II)Z" } : Jvm.MethodName) ({ cls := "TideBoatsModel", name := "isAfloat", desc := "(II)Z" } : Jvm.MethodName)) ∈ lw_all := all_memS 28 (by decide +kernel) (by decide +kernel)
theorem kV_X6_74 : CWV RX6 74 RX6 yX6_isAfloat cX6_isAfloat 3 (some .boolean) 2 := cwv_mk q872 q874 qs28 q7 q875 ⟨rfl, ⟨by decide +kernel, by decide +kernel, by decide +kernel⟩⟩
theorem q871 : (Jvm.Cond.code ({ cls := "TideBoatsModel", name := "onBoard", desc := "(II)I" } : Jvm.MethodName) prog_8_method_22_code (5 : Nat) (Option.some Jvm.ClassFile.FieldType.int)) ∈ lw_all := all_mem 871 (by decide +kernel) (by decide +kernel)
theorem q868 : (Jvm.Cond.methodLink "TideBoatsModel" (78 : Nat) ({ cls := "TideBoatsModel", name := "onBoard", desc := "(II)I" } : Jvm.MethodName)) ∈ lw_all := all_mem 868 (by decide +kernel) (by decide +kernel)
theorem q870 : (Jvm.Cond.instanceMethod ({ cls := "TideBoatsModel", name := "onBoard", desc := "(II)I" } : Jvm.MethodName)) ∈ lw_all := all_mem 870 (by decide +kernel) (by decide +kernel)
theorem qs27 : (Jvm.Cond.selects "TideBoatsModel" ({ cls := "TideBoatsModel", name := "onBoard", desc := "(II)I" } : Jvm.MethodName) ({ cls := "TideBoatsModel", name := "onBoard", desc := "(II)I" } : Jvm.MethodName)) ∈ lw_all := all_memS 27 (by decide +kernel) (by decide +kernel)
theorem kV_X6_78 : CWV RX6 78 RX6 yX6_onBoard cX6_onBoard 5 (some .int) 2 := cwv_mk q868 q870 qs27 q7 q871 ⟨rfl, ⟨by decide +kernel, by decide +kernel, by decide +kernel⟩⟩
theorem q867 : (Jvm.Cond.code ({ cls := "TideBoatsModel", name := "isOver", desc := "(I)Z" } : Jvm.MethodName) prog_8_method_23_code (2 : Nat) (Option.some Jvm.ClassFile.FieldType.boolean)) ∈ lw_all := all_mem 867 (by decide +kernel) (by decide +kernel)
theorem q864 : (Jvm.Cond.methodLink "TideBoatsModel" (81 : Nat) ({ cls := "TideBoatsModel", name := "isOver", desc := "(I)Z" } : Jvm.MethodName)) ∈ lw_all := all_mem 864 (by decide +kernel) (by decide +kernel)
theorem q866 : (Jvm.Cond.instanceMethod ({ cls := "TideBoatsModel", name := "isOver", desc := "(I)Z" } : Jvm.MethodName)) ∈ lw_all := all_mem 866 (by decide +kernel) (by decide +kernel)
theorem qs26 : (Jvm.Cond.selects "TideBoatsModel" ({ cls := "TideBoatsModel", name := "isOver", desc := "(I)Z" } : Jvm.MethodName) ({ cls := "TideBoatsModel", name := "isOver", desc := "(I)Z" } : Jvm.MethodName)) ∈ lw_all := all_memS 26 (by decide +kernel) (by decide +kernel)
theorem kV_X6_81 : CWV RX6 81 RX6 yX6_isOver cX6_isOver 2 (some .boolean) 1 := cwv_mk q864 q866 qs26 q7 q867 ⟨rfl, ⟨by decide +kernel, by decide +kernel, by decide +kernel⟩⟩
theorem q891 : (Jvm.Cond.code ({ cls := "TideBoatsModel", name := "kind", desc := "(II)I" } : Jvm.MethodName) prog_8_method_21_code (3 : Nat) (Option.some Jvm.ClassFile.FieldType.int)) ∈ lw_all := all_mem 891 (by decide +kernel) (by decide +kernel)
theorem q888 : (Jvm.Cond.methodLink "TideBoatsModel" (85 : Nat) ({ cls := "TideBoatsModel", name := "kind", desc := "(II)I" } : Jvm.MethodName)) ∈ lw_all := all_mem 888 (by decide +kernel) (by decide +kernel)
theorem q890 : (Jvm.Cond.instanceMethod ({ cls := "TideBoatsModel", name := "kind", desc := "(II)I" } : Jvm.MethodName)) ∈ lw_all := all_mem 890 (by decide +kernel) (by decide +kernel)
theorem qs32 : (Jvm.Cond.selects "TideBoatsModel" ({ cls := "TideBoatsModel", name := "kind", desc := "(II)I" } : Jvm.MethodName) ({ cls := "TideBoatsModel", name := "kind", desc := "(II)I" } : Jvm.MethodName)) ∈ lw_all := all_memS 32 (by decide +kernel) (by decide +kernel)
theorem kV_X6_85 : CWV RX6 85 RX6 yX6_kind cX6_kind 3 (some .int) 2 := cwv_mk q888 q890 qs32 q7 q891 ⟨rfl, ⟨by decide +kernel, by decide +kernel, by decide +kernel⟩⟩
theorem q895 : (Jvm.Cond.code ({ cls := "TideBoatsModel", name := "wayEnd", desc := "(IIIII)I" } : Jvm.MethodName) prog_8_method_17_code (10 : Nat) (Option.some Jvm.ClassFile.FieldType.int)) ∈ lw_all := all_mem 895 (by decide +kernel) (by decide +kernel)
theorem q892 : (Jvm.Cond.methodLink "TideBoatsModel" (88 : Nat) ({ cls := "TideBoatsModel", name := "wayEnd", desc := "(IIIII)I" } : Jvm.MethodName)) ∈ lw_all := all_mem 892 (by decide +kernel) (by decide +kernel)
theorem q894 : (Jvm.Cond.instanceMethod ({ cls := "TideBoatsModel", name := "wayEnd", desc := "(IIIII)I" } : Jvm.MethodName)) ∈ lw_all := all_mem 894 (by decide +kernel) (by decide +kernel)
theorem qs33 : (Jvm.Cond.selects "TideBoatsModel" ({ cls := "TideBoatsModel", name := "wayEnd", desc := "(IIIII)I" } : Jvm.MethodName) ({ cls := "TideBoatsModel", name := "wayEnd", desc := "(IIIII)I" } : Jvm.MethodName)) ∈ lw_all := all_memS 33 (by decide +kernel) (by decide +kernel)
theorem kV_X6_88 : CWV RX6 88 RX6 yX6_wayEnd cX6_wayEnd 10 (some .int) 5 := cwv_mk q892 q894 qs33 q7 q895 ⟨rfl, ⟨by decide +kernel, by decide +kernel, by decide +kernel⟩⟩
theorem q905 : (Jvm.Cond.code ({ cls := "TideBoatsModel", name := "isBlocked", desc := "(III)Z" } : Jvm.MethodName) prog_8_method_20_code (10 : Nat) (Option.some Jvm.ClassFile.FieldType.boolean)) ∈ lw_all := all_mem 905 (by decide +kernel) (by decide +kernel)
theorem q902 : (Jvm.Cond.methodLink "TideBoatsModel" (92 : Nat) ({ cls := "TideBoatsModel", name := "isBlocked", desc := "(III)Z" } : Jvm.MethodName)) ∈ lw_all := all_mem 902 (by decide +kernel) (by decide +kernel)
theorem q904 : (Jvm.Cond.instanceMethod ({ cls := "TideBoatsModel", name := "isBlocked", desc := "(III)Z" } : Jvm.MethodName)) ∈ lw_all := all_mem 904 (by decide +kernel) (by decide +kernel)
theorem qs34 : (Jvm.Cond.selects "TideBoatsModel" ({ cls := "TideBoatsModel", name := "isBlocked", desc := "(III)Z" } : Jvm.MethodName) ({ cls := "TideBoatsModel", name := "isBlocked", desc := "(III)Z" } : Jvm.MethodName)) ∈ lw_all := all_memS 34 (by decide +kernel) (by decide +kernel)
theorem kV_X6_92 : CWV RX6 92 RX6 yX6_isBlocked cX6_isBlocked 10 (some .boolean) 3 := cwv_mk q902 q904 qs34 q7 q905 ⟨rfl, ⟨by decide +kernel, by decide +kernel, by decide +kernel⟩⟩
theorem q863 : (Jvm.Cond.code ({ cls := "TideBoatsModel", name := "reason", desc := "(III)I" } : Jvm.MethodName) prog_8_method_24_code (5 : Nat) (Option.some Jvm.ClassFile.FieldType.int)) ∈ lw_all := all_mem 863 (by decide +kernel) (by decide +kernel)
theorem q860 : (Jvm.Cond.methodLink "TideBoatsModel" (95 : Nat) ({ cls := "TideBoatsModel", name := "reason", desc := "(III)I" } : Jvm.MethodName)) ∈ lw_all := all_mem 860 (by decide +kernel) (by decide +kernel)
theorem q862 : (Jvm.Cond.instanceMethod ({ cls := "TideBoatsModel", name := "reason", desc := "(III)I" } : Jvm.MethodName)) ∈ lw_all := all_mem 862 (by decide +kernel) (by decide +kernel)
theorem qs25 : (Jvm.Cond.selects "TideBoatsModel" ({ cls := "TideBoatsModel", name := "reason", desc := "(III)I" } : Jvm.MethodName) ({ cls := "TideBoatsModel", name := "reason", desc := "(III)I" } : Jvm.MethodName)) ∈ lw_all := all_memS 25 (by decide +kernel) (by decide +kernel)
theorem kV_X6_95 : CWV RX6 95 RX6 yX6_reason cX6_reason 5 (some .int) 3 := cwv_mk q860 q862 qs25 q7 q863 ⟨rfl, ⟨by decide +kernel, by decide +kernel, by decide +kernel⟩⟩
theorem q806 : (Jvm.Cond.code ({ cls := "TideBoatsModel", name := "isCell", desc := "(I)Z" } : Jvm.MethodName) prog_8_method_4_code (1 : Nat) (Option.some Jvm.ClassFile.FieldType.boolean)) ∈ lw_all := all_mem 806 (by decide +kernel) (by decide +kernel)
theorem q805 : (Jvm.Cond.static ({ cls := "TideBoatsModel", name := "isCell", desc := "(I)Z" } : Jvm.MethodName)) ∈ lw_all := all_mem 805 (by decide +kernel) (by decide +kernel)
theorem q804 : (Jvm.Cond.methodLink "TideBoatsModel" (98 : Nat) ({ cls := "TideBoatsModel", name := "isCell", desc := "(I)Z" } : Jvm.MethodName)) ∈ lw_all := all_mem 804 (by decide +kernel) (by decide +kernel)
theorem kS_X6_98 : CWS RX6 98 yX6_isCell cX6_isCell 1 (some .boolean) 1 := cws_mk q804 q805 q7 q806 ⟨by decide +kernel, by decide +kernel, by decide +kernel⟩
theorem q913 : (Jvm.Cond.code ({ cls := "TideBoatsModel", name := "wrecks", desc := "(IIII)Z" } : Jvm.MethodName) prog_8_method_14_code (5 : Nat) (Option.some Jvm.ClassFile.FieldType.boolean)) ∈ lw_all := all_mem 913 (by decide +kernel) (by decide +kernel)
theorem q910 : (Jvm.Cond.methodLink "TideBoatsModel" (101 : Nat) ({ cls := "TideBoatsModel", name := "wrecks", desc := "(IIII)Z" } : Jvm.MethodName)) ∈ lw_all := all_mem 910 (by decide +kernel) (by decide +kernel)
theorem q912 : (Jvm.Cond.instanceMethod ({ cls := "TideBoatsModel", name := "wrecks", desc := "(IIII)Z" } : Jvm.MethodName)) ∈ lw_all := all_mem 912 (by decide +kernel) (by decide +kernel)
theorem qs36 : (Jvm.Cond.selects "TideBoatsModel" ({ cls := "TideBoatsModel", name := "wrecks", desc := "(IIII)Z" } : Jvm.MethodName) ({ cls := "TideBoatsModel", name := "wrecks", desc := "(IIII)Z" } : Jvm.MethodName)) ∈ lw_all := all_memS 36 (by decide +kernel) (by decide +kernel)
theorem kV_X6_101 : CWV RX6 101 RX6 yX6_wrecks cX6_wrecks 5 (some .boolean) 4 := cwv_mk q910 q912 qs36 q7 q913 ⟨rfl, ⟨by decide +kernel, by decide +kernel, by decide +kernel⟩⟩
theorem q855 : (Jvm.Cond.code ({ cls := "TideBoatsModel", name := "isBoat", desc := "(II)Z" } : Jvm.MethodName) prog_8_method_5_code (3 : Nat) (Option.some Jvm.ClassFile.FieldType.boolean)) ∈ lw_all := all_mem 855 (by decide +kernel) (by decide +kernel)
theorem q852 : (Jvm.Cond.methodLink "TideBoatsModel" (104 : Nat) ({ cls := "TideBoatsModel", name := "isBoat", desc := "(II)Z" } : Jvm.MethodName)) ∈ lw_all := all_mem 852 (by decide +kernel) (by decide +kernel)
theorem q854 : (Jvm.Cond.instanceMethod ({ cls := "TideBoatsModel", name := "isBoat", desc := "(II)Z" } : Jvm.MethodName)) ∈ lw_all := all_mem 854 (by decide +kernel) (by decide +kernel)
theorem qs23 : (Jvm.Cond.selects "TideBoatsModel" ({ cls := "TideBoatsModel", name := "isBoat", desc := "(II)Z" } : Jvm.MethodName) ({ cls := "TideBoatsModel", name := "isBoat", desc := "(II)Z" } : Jvm.MethodName)) ∈ lw_all := all_memS 23 (by decide +kernel) (by decide +kernel)
theorem kV_X6_104 : CWV RX6 104 RX6 yX6_isBoat cX6_isBoat 3 (some .boolean) 2 := cwv_mk q852 q854 qs23 q7 q855 ⟨rfl, ⟨by decide +kernel, by decide +kernel, by decide +kernel⟩⟩
theorem q859 : (Jvm.Cond.code ({ cls := "TideBoatsModel", name := "whyNot", desc := "(III)I" } : Jvm.MethodName) prog_8_method_25_code (6 : Nat) (Option.some Jvm.ClassFile.FieldType.int)) ∈ lw_all := all_mem 859 (by decide +kernel) (by decide +kernel)
theorem q856 : (Jvm.Cond.methodLink "TideBoatsModel" (107 : Nat) ({ cls := "TideBoatsModel", name := "whyNot", desc := "(III)I" } : Jvm.MethodName)) ∈ lw_all := all_mem 856 (by decide +kernel) (by decide +kernel)
theorem q858 : (Jvm.Cond.instanceMethod ({ cls := "TideBoatsModel", name := "whyNot", desc := "(III)I" } : Jvm.MethodName)) ∈ lw_all := all_mem 858 (by decide +kernel) (by decide +kernel)
theorem qs24 : (Jvm.Cond.selects "TideBoatsModel" ({ cls := "TideBoatsModel", name := "whyNot", desc := "(III)I" } : Jvm.MethodName) ({ cls := "TideBoatsModel", name := "whyNot", desc := "(III)I" } : Jvm.MethodName)) ∈ lw_all := all_memS 24 (by decide +kernel) (by decide +kernel)
theorem kV_X6_107 : CWV RX6 107 RX6 yX6_whyNot cX6_whyNot 6 (some .int) 3 := cwv_mk q856 q858 qs24 q7 q859 ⟨rfl, ⟨by decide +kernel, by decide +kernel, by decide +kernel⟩⟩
theorem q909 : (Jvm.Cond.code ({ cls := "TideBoatsModel", name := "passes", desc := "(I)V" } : Jvm.MethodName) prog_8_method_29_code (4 : Nat) (Option.none : Option Jvm.ClassFile.FieldType)) ∈ lw_all := all_mem 909 (by decide +kernel) (by decide +kernel)
theorem q906 : (Jvm.Cond.methodLink "TideBoatsModel" (110 : Nat) ({ cls := "TideBoatsModel", name := "passes", desc := "(I)V" } : Jvm.MethodName)) ∈ lw_all := all_mem 906 (by decide +kernel) (by decide +kernel)
theorem q908 : (Jvm.Cond.instanceMethod ({ cls := "TideBoatsModel", name := "passes", desc := "(I)V" } : Jvm.MethodName)) ∈ lw_all := all_mem 908 (by decide +kernel) (by decide +kernel)
theorem qs35 : (Jvm.Cond.selects "TideBoatsModel" ({ cls := "TideBoatsModel", name := "passes", desc := "(I)V" } : Jvm.MethodName) ({ cls := "TideBoatsModel", name := "passes", desc := "(I)V" } : Jvm.MethodName)) ∈ lw_all := all_memS 35 (by decide +kernel) (by decide +kernel)
theorem kV_X6_110 : CWV RX6 110 RX6 yX6_passes cX6_passes 4 (none) 1 := cwv_mk q906 q908 qs35 q7 q909 ⟨rfl, ⟨by decide +kernel, by decide +kernel, by decide +kernel⟩⟩
theorem q799 : (Jvm.Cond.code ({ cls := "TideBoatsModel", name := "copies", desc := "()V" } : Jvm.MethodName) prog_8_method_8_code (2 : Nat) (Option.none : Option Jvm.ClassFile.FieldType)) ∈ lw_all := all_mem 799 (by decide +kernel) (by decide +kernel)
theorem q796 : (Jvm.Cond.methodLink "TideBoatsModel" (114 : Nat) ({ cls := "TideBoatsModel", name := "copies", desc := "()V" } : Jvm.MethodName)) ∈ lw_all := all_mem 796 (by decide +kernel) (by decide +kernel)
theorem q798 : (Jvm.Cond.instanceMethod ({ cls := "TideBoatsModel", name := "copies", desc := "()V" } : Jvm.MethodName)) ∈ lw_all := all_mem 798 (by decide +kernel) (by decide +kernel)
theorem qs15 : (Jvm.Cond.selects "TideBoatsModel" ({ cls := "TideBoatsModel", name := "copies", desc := "()V" } : Jvm.MethodName) ({ cls := "TideBoatsModel", name := "copies", desc := "()V" } : Jvm.MethodName)) ∈ lw_all := all_memS 15 (by decide +kernel) (by decide +kernel)
theorem kV_X6_114 : CWV RX6 114 RX6 yX6_copies cX6_copies 2 (none) 0 := cwv_mk q796 q798 qs15 q7 q799 ⟨rfl, ⟨by decide +kernel, by decide +kernel, by decide +kernel⟩⟩
theorem q803 : (Jvm.Cond.code ({ cls := "TideBoatsModel", name := "sands", desc := "(IIII)I" } : Jvm.MethodName) prog_8_method_27_code (6 : Nat) (Option.some Jvm.ClassFile.FieldType.int)) ∈ lw_all := all_mem 803 (by decide +kernel) (by decide +kernel)
theorem q800 : (Jvm.Cond.methodLink "TideBoatsModel" (117 : Nat) ({ cls := "TideBoatsModel", name := "sands", desc := "(IIII)I" } : Jvm.MethodName)) ∈ lw_all := all_mem 800 (by decide +kernel) (by decide +kernel)
theorem q802 : (Jvm.Cond.instanceMethod ({ cls := "TideBoatsModel", name := "sands", desc := "(IIII)I" } : Jvm.MethodName)) ∈ lw_all := all_mem 802 (by decide +kernel) (by decide +kernel)
theorem qs16 : (Jvm.Cond.selects "TideBoatsModel" ({ cls := "TideBoatsModel", name := "sands", desc := "(IIII)I" } : Jvm.MethodName) ({ cls := "TideBoatsModel", name := "sands", desc := "(IIII)I" } : Jvm.MethodName)) ∈ lw_all := all_memS 16 (by decide +kernel) (by decide +kernel)
theorem kV_X6_117 : CWV RX6 117 RX6 yX6_sands cX6_sands 6 (some .int) 4 := cwv_mk q800 q802 qs16 q7 q803 ⟨rfl, ⟨by decide +kernel, by decide +kernel, by decide +kernel⟩⟩
theorem q813 : (Jvm.Cond.code ({ cls := "TideBoatsModel", name := "acts", desc := "(I)I" } : Jvm.MethodName) prog_8_method_10_code (3 : Nat) (Option.some Jvm.ClassFile.FieldType.int)) ∈ lw_all := all_mem 813 (by decide +kernel) (by decide +kernel)
theorem q810 : (Jvm.Cond.methodLink "TideBoatsModel" (121 : Nat) ({ cls := "TideBoatsModel", name := "acts", desc := "(I)I" } : Jvm.MethodName)) ∈ lw_all := all_mem 810 (by decide +kernel) (by decide +kernel)
theorem q812 : (Jvm.Cond.instanceMethod ({ cls := "TideBoatsModel", name := "acts", desc := "(I)I" } : Jvm.MethodName)) ∈ lw_all := all_mem 812 (by decide +kernel) (by decide +kernel)
theorem qs17 : (Jvm.Cond.selects "TideBoatsModel" ({ cls := "TideBoatsModel", name := "acts", desc := "(I)I" } : Jvm.MethodName) ({ cls := "TideBoatsModel", name := "acts", desc := "(I)I" } : Jvm.MethodName)) ∈ lw_all := all_memS 17 (by decide +kernel) (by decide +kernel)
theorem kV_X6_121 : CWV RX6 121 RX6 yX6_acts cX6_acts 3 (some .int) 1 := cwv_mk q810 q812 qs17 q7 q813 ⟨rfl, ⟨by decide +kernel, by decide +kernel, by decide +kernel⟩⟩
theorem q825 : (Jvm.Cond.code ({ cls := "TideBoatsModel", name := "comes", desc := "(IIII)I" } : Jvm.MethodName) prog_8_method_28_code (6 : Nat) (Option.some Jvm.ClassFile.FieldType.int)) ∈ lw_all := all_mem 825 (by decide +kernel) (by decide +kernel)
theorem q822 : (Jvm.Cond.methodLink "TideBoatsModel" (124 : Nat) ({ cls := "TideBoatsModel", name := "comes", desc := "(IIII)I" } : Jvm.MethodName)) ∈ lw_all := all_mem 822 (by decide +kernel) (by decide +kernel)
theorem q824 : (Jvm.Cond.instanceMethod ({ cls := "TideBoatsModel", name := "comes", desc := "(IIII)I" } : Jvm.MethodName)) ∈ lw_all := all_mem 824 (by decide +kernel) (by decide +kernel)
theorem qs19 : (Jvm.Cond.selects "TideBoatsModel" ({ cls := "TideBoatsModel", name := "comes", desc := "(IIII)I" } : Jvm.MethodName) ({ cls := "TideBoatsModel", name := "comes", desc := "(IIII)I" } : Jvm.MethodName)) ∈ lw_all := all_memS 19 (by decide +kernel) (by decide +kernel)
theorem kV_X6_124 : CWV RX6 124 RX6 yX6_comes cX6_comes 6 (some .int) 4 := cwv_mk q822 q824 qs19 q7 q825 ⟨rfl, ⟨by decide +kernel, by decide +kernel, by decide +kernel⟩⟩
theorem q847 : (Jvm.Cond.code ({ cls := "TideBoatsModel", name := "wayOf", desc := "(II)I" } : Jvm.MethodName) prog_8_method_26_code (2 : Nat) (Option.some Jvm.ClassFile.FieldType.int)) ∈ lw_all := all_mem 847 (by decide +kernel) (by decide +kernel)
theorem q846 : (Jvm.Cond.static ({ cls := "TideBoatsModel", name := "wayOf", desc := "(II)I" } : Jvm.MethodName)) ∈ lw_all := all_mem 846 (by decide +kernel) (by decide +kernel)
theorem q845 : (Jvm.Cond.methodLink "TideBoatsModel" (127 : Nat) ({ cls := "TideBoatsModel", name := "wayOf", desc := "(II)I" } : Jvm.MethodName)) ∈ lw_all := all_mem 845 (by decide +kernel) (by decide +kernel)
theorem kS_X6_127 : CWS RX6 127 yX6_wayOf cX6_wayOf 2 (some .int) 2 := cws_mk q845 q846 q7 q847 ⟨by decide +kernel, by decide +kernel, by decide +kernel⟩
theorem q851 : (Jvm.Cond.code ({ cls := "TideBoatsModel", name := "moves", desc := "(III)I" } : Jvm.MethodName) prog_8_method_30_code (8 : Nat) (Option.some Jvm.ClassFile.FieldType.int)) ∈ lw_all := all_mem 851 (by decide +kernel) (by decide +kernel)
theorem q848 : (Jvm.Cond.methodLink "TideBoatsModel" (130 : Nat) ({ cls := "TideBoatsModel", name := "moves", desc := "(III)I" } : Jvm.MethodName)) ∈ lw_all := all_mem 848 (by decide +kernel) (by decide +kernel)
theorem q850 : (Jvm.Cond.instanceMethod ({ cls := "TideBoatsModel", name := "moves", desc := "(III)I" } : Jvm.MethodName)) ∈ lw_all := all_mem 850 (by decide +kernel) (by decide +kernel)
theorem qs22 : (Jvm.Cond.selects "TideBoatsModel" ({ cls := "TideBoatsModel", name := "moves", desc := "(III)I" } : Jvm.MethodName) ({ cls := "TideBoatsModel", name := "moves", desc := "(III)I" } : Jvm.MethodName)) ∈ lw_all := all_memS 22 (by decide +kernel) (by decide +kernel)
theorem kV_X6_130 : CWV RX6 130 RX6 yX6_moves cX6_moves 8 (some .int) 3 := cwv_mk q848 q850 qs22 q7 q851 ⟨rfl, ⟨by decide +kernel, by decide +kernel, by decide +kernel⟩⟩
theorem q921 : (Jvm.Cond.code ({ cls := "TideBoatsModel", name := "waits", desc := "(I)I" } : Jvm.MethodName) prog_8_method_31_code (2 : Nat) (Option.some Jvm.ClassFile.FieldType.int)) ∈ lw_all := all_mem 921 (by decide +kernel) (by decide +kernel)
theorem q918 : (Jvm.Cond.methodLink "TideBoatsModel" (133 : Nat) ({ cls := "TideBoatsModel", name := "waits", desc := "(I)I" } : Jvm.MethodName)) ∈ lw_all := all_mem 918 (by decide +kernel) (by decide +kernel)
theorem q920 : (Jvm.Cond.instanceMethod ({ cls := "TideBoatsModel", name := "waits", desc := "(I)I" } : Jvm.MethodName)) ∈ lw_all := all_mem 920 (by decide +kernel) (by decide +kernel)
theorem qs37 : (Jvm.Cond.selects "TideBoatsModel" ({ cls := "TideBoatsModel", name := "waits", desc := "(I)I" } : Jvm.MethodName) ({ cls := "TideBoatsModel", name := "waits", desc := "(I)I" } : Jvm.MethodName)) ∈ lw_all := all_memS 37 (by decide +kernel) (by decide +kernel)
theorem kV_X6_133 : CWV RX6 133 RX6 yX6_waits cX6_waits 2 (some .int) 1 := cwv_mk q918 q920 qs37 q7 q921 ⟨rfl, ⟨by decide +kernel, by decide +kernel, by decide +kernel⟩⟩
theorem q763 : (Jvm.Cond.fieldLink "TideBoatsModel" (136 : Nat) "TideBoatsModel" "length" "I") ∈ lw_all := all_mem 763 (by decide +kernel) (by decide +kernel)
theorem fl_X6_136 : FLD RX6 136 6 6 := ⟨RX6, TX6, 11, rfl, Nat.le_of_ble_eq_true rfl, in_X6, q763⟩
theorem q941 : (Jvm.Cond.code ({ cls := "TideBoatsModel", name := "sign", desc := "(I)I" } : Jvm.MethodName) prog_8_method_39_code (2 : Nat) (Option.some Jvm.ClassFile.FieldType.int)) ∈ lw_all := all_mem 941 (by decide +kernel) (by decide +kernel)
theorem q938 : (Jvm.Cond.methodLink "TideBoatsModel" (139 : Nat) ({ cls := "TideBoatsModel", name := "sign", desc := "(I)I" } : Jvm.MethodName)) ∈ lw_all := all_mem 938 (by decide +kernel) (by decide +kernel)
theorem q940 : (Jvm.Cond.instanceMethod ({ cls := "TideBoatsModel", name := "sign", desc := "(I)I" } : Jvm.MethodName)) ∈ lw_all := all_mem 940 (by decide +kernel) (by decide +kernel)
theorem qs39 : (Jvm.Cond.selects "TideBoatsModel" ({ cls := "TideBoatsModel", name := "sign", desc := "(I)I" } : Jvm.MethodName) ({ cls := "TideBoatsModel", name := "sign", desc := "(I)I" } : Jvm.MethodName)) ∈ lw_all := all_memS 39 (by decide +kernel) (by decide +kernel)
theorem kV_X6_139 : CWV RX6 139 RX6 yX6_sign cX6_sign 2 (some .int) 1 := cwv_mk q938 q940 qs39 q7 q941 ⟨rfl, ⟨by decide +kernel, by decide +kernel, by decide +kernel⟩⟩
theorem q945 : (Jvm.Cond.code ({ cls := "TideBoatsModel", name := "isSign", desc := "(III)Z" } : Jvm.MethodName) prog_8_method_40_code (4 : Nat) (Option.some Jvm.ClassFile.FieldType.boolean)) ∈ lw_all := all_mem 945 (by decide +kernel) (by decide +kernel)
theorem q942 : (Jvm.Cond.methodLink "TideBoatsModel" (142 : Nat) ({ cls := "TideBoatsModel", name := "isSign", desc := "(III)Z" } : Jvm.MethodName)) ∈ lw_all := all_mem 942 (by decide +kernel) (by decide +kernel)
theorem q944 : (Jvm.Cond.instanceMethod ({ cls := "TideBoatsModel", name := "isSign", desc := "(III)Z" } : Jvm.MethodName)) ∈ lw_all := all_mem 944 (by decide +kernel) (by decide +kernel)
theorem qs40 : (Jvm.Cond.selects "TideBoatsModel" ({ cls := "TideBoatsModel", name := "isSign", desc := "(III)Z" } : Jvm.MethodName) ({ cls := "TideBoatsModel", name := "isSign", desc := "(III)Z" } : Jvm.MethodName)) ∈ lw_all := all_memS 40 (by decide +kernel) (by decide +kernel)
theorem kV_X6_142 : CWV RX6 142 RX6 yX6_isSign cX6_isSign 4 (some .boolean) 3 := cwv_mk q942 q944 qs40 q7 q945 ⟨rfl, ⟨by decide +kernel, by decide +kernel, by decide +kernel⟩⟩
theorem q949 : (Jvm.Cond.code ({ cls := "TideBoatsModel", name := "cellEnd", desc := "(I)I" } : Jvm.MethodName) prog_8_method_41_code (2 : Nat) (Option.some Jvm.ClassFile.FieldType.int)) ∈ lw_all := all_mem 949 (by decide +kernel) (by decide +kernel)
theorem q946 : (Jvm.Cond.methodLink "TideBoatsModel" (145 : Nat) ({ cls := "TideBoatsModel", name := "cellEnd", desc := "(I)I" } : Jvm.MethodName)) ∈ lw_all := all_mem 946 (by decide +kernel) (by decide +kernel)
theorem q948 : (Jvm.Cond.instanceMethod ({ cls := "TideBoatsModel", name := "cellEnd", desc := "(I)I" } : Jvm.MethodName)) ∈ lw_all := all_mem 948 (by decide +kernel) (by decide +kernel)
theorem qs41 : (Jvm.Cond.selects "TideBoatsModel" ({ cls := "TideBoatsModel", name := "cellEnd", desc := "(I)I" } : Jvm.MethodName) ({ cls := "TideBoatsModel", name := "cellEnd", desc := "(I)I" } : Jvm.MethodName)) ∈ lw_all := all_memS 41 (by decide +kernel) (by decide +kernel)
theorem kV_X6_145 : CWV RX6 145 RX6 yX6_cellEnd cX6_cellEnd 2 (some .int) 1 := cwv_mk q946 q948 qs41 q7 q949 ⟨rfl, ⟨by decide +kernel, by decide +kernel, by decide +kernel⟩⟩
theorem q953 : (Jvm.Cond.code ({ cls := "TideBoatsModel", name := "directionOf", desc := "(I)I" } : Jvm.MethodName) prog_8_method_43_code (2 : Nat) (Option.some Jvm.ClassFile.FieldType.int)) ∈ lw_all := all_mem 953 (by decide +kernel) (by decide +kernel)
theorem q950 : (Jvm.Cond.methodLink "TideBoatsModel" (148 : Nat) ({ cls := "TideBoatsModel", name := "directionOf", desc := "(I)I" } : Jvm.MethodName)) ∈ lw_all := all_mem 950 (by decide +kernel) (by decide +kernel)
theorem q952 : (Jvm.Cond.instanceMethod ({ cls := "TideBoatsModel", name := "directionOf", desc := "(I)I" } : Jvm.MethodName)) ∈ lw_all := all_mem 952 (by decide +kernel) (by decide +kernel)
theorem qs42 : (Jvm.Cond.selects "TideBoatsModel" ({ cls := "TideBoatsModel", name := "directionOf", desc := "(I)I" } : Jvm.MethodName) ({ cls := "TideBoatsModel", name := "directionOf", desc := "(I)I" } : Jvm.MethodName)) ∈ lw_all := all_memS 42 (by decide +kernel) (by decide +kernel)
theorem kV_X6_148 : CWV RX6 148 RX6 yX6_directionOf cX6_directionOf 2 (some .int) 1 := cwv_mk q950 q952 qs42 q7 q953 ⟨rfl, ⟨by decide +kernel, by decide +kernel, by decide +kernel⟩⟩
theorem q957 : (Jvm.Cond.code ({ cls := "TideBoatsModel", name := "sandEnd", desc := "(I)I" } : Jvm.MethodName) prog_8_method_44_code (3 : Nat) (Option.some Jvm.ClassFile.FieldType.int)) ∈ lw_all := all_mem 957 (by decide +kernel) (by decide +kernel)
theorem q954 : (Jvm.Cond.methodLink "TideBoatsModel" (151 : Nat) ({ cls := "TideBoatsModel", name := "sandEnd", desc := "(I)I" } : Jvm.MethodName)) ∈ lw_all := all_mem 954 (by decide +kernel) (by decide +kernel)
theorem q956 : (Jvm.Cond.instanceMethod ({ cls := "TideBoatsModel", name := "sandEnd", desc := "(I)I" } : Jvm.MethodName)) ∈ lw_all := all_mem 956 (by decide +kernel) (by decide +kernel)
theorem qs43 : (Jvm.Cond.selects "TideBoatsModel" ({ cls := "TideBoatsModel", name := "sandEnd", desc := "(I)I" } : Jvm.MethodName) ({ cls := "TideBoatsModel", name := "sandEnd", desc := "(I)I" } : Jvm.MethodName)) ∈ lw_all := all_memS 43 (by decide +kernel) (by decide +kernel)
theorem kV_X6_151 : CWV RX6 151 RX6 yX6_sandEnd cX6_sandEnd 3 (some .int) 1 := cwv_mk q954 q956 qs43 q7 q957 ⟨rfl, ⟨by decide +kernel, by decide +kernel, by decide +kernel⟩⟩
theorem q937 : (Jvm.Cond.code ({ cls := "TideBoatsModel", name := "orderEnd", desc := "(I)I" } : Jvm.MethodName) prog_8_method_45_code (3 : Nat) (Option.some Jvm.ClassFile.FieldType.int)) ∈ lw_all := all_mem 937 (by decide +kernel) (by decide +kernel)
theorem q934 : (Jvm.Cond.methodLink "TideBoatsModel" (154 : Nat) ({ cls := "TideBoatsModel", name := "orderEnd", desc := "(I)I" } : Jvm.MethodName)) ∈ lw_all := all_mem 934 (by decide +kernel) (by decide +kernel)
theorem q936 : (Jvm.Cond.instanceMethod ({ cls := "TideBoatsModel", name := "orderEnd", desc := "(I)I" } : Jvm.MethodName)) ∈ lw_all := all_mem 936 (by decide +kernel) (by decide +kernel)
theorem qs38 : (Jvm.Cond.selects "TideBoatsModel" ({ cls := "TideBoatsModel", name := "orderEnd", desc := "(I)I" } : Jvm.MethodName) ({ cls := "TideBoatsModel", name := "orderEnd", desc := "(I)I" } : Jvm.MethodName)) ∈ lw_all := all_memS 38 (by decide +kernel) (by decide +kernel)
theorem kV_X6_154 : CWV RX6 154 RX6 yX6_orderEnd cX6_orderEnd 3 (some .int) 1 := cwv_mk q934 q936 qs38 q7 q937 ⟨rfl, ⟨by decide +kernel, by decide +kernel, by decide +kernel⟩⟩
theorem q970 : (Jvm.Cond.code ({ cls := "TideBoatsModel", name := "cellIn", desc := "(I)I" } : Jvm.MethodName) prog_8_method_42_code (2 : Nat) (Option.some Jvm.ClassFile.FieldType.int)) ∈ lw_all := all_mem 970 (by decide +kernel) (by decide +kernel)
theorem q967 : (Jvm.Cond.methodLink "TideBoatsModel" (157 : Nat) ({ cls := "TideBoatsModel", name := "cellIn", desc := "(I)I" } : Jvm.MethodName)) ∈ lw_all := all_mem 967 (by decide +kernel) (by decide +kernel)
theorem q969 : (Jvm.Cond.instanceMethod ({ cls := "TideBoatsModel", name := "cellIn", desc := "(I)I" } : Jvm.MethodName)) ∈ lw_all := all_mem 969 (by decide +kernel) (by decide +kernel)
theorem qs45 : (Jvm.Cond.selects "TideBoatsModel" ({ cls := "TideBoatsModel", name := "cellIn", desc := "(I)I" } : Jvm.MethodName) ({ cls := "TideBoatsModel", name := "cellIn", desc := "(I)I" } : Jvm.MethodName)) ∈ lw_all := all_memS 45 (by decide +kernel) (by decide +kernel)
theorem kV_X6_157 : CWV RX6 157 RX6 yX6_cellIn cX6_cellIn 2 (some .int) 1 := cwv_mk q967 q969 qs45 q7 q970 ⟨rfl, ⟨by decide +kernel, by decide +kernel, by decide +kernel⟩⟩
theorem q933 : (Jvm.Cond.code ({ cls := "TideBoatsModel", name := "fault", desc := "()I" } : Jvm.MethodName) prog_8_method_46_code (4 : Nat) (Option.some Jvm.ClassFile.FieldType.int)) ∈ lw_all := all_mem 933 (by decide +kernel) (by decide +kernel)
theorem q962 : (Jvm.Cond.methodLink "TideBoatsModel" (160 : Nat) ({ cls := "TideBoatsModel", name := "fault", desc := "()I" } : Jvm.MethodName)) ∈ lw_all := all_mem 962 (by decide +kernel) (by decide +kernel)
theorem q931 : (Jvm.Cond.instanceMethod ({ cls := "TideBoatsModel", name := "fault", desc := "()I" } : Jvm.MethodName)) ∈ lw_all := all_mem 931 (by decide +kernel) (by decide +kernel)
theorem q932 : (Jvm.Cond.selects "TideBoatsModel" ({ cls := "TideBoatsModel", name := "fault", desc := "()I" } : Jvm.MethodName) ({ cls := "TideBoatsModel", name := "fault", desc := "()I" } : Jvm.MethodName)) ∈ lw_all := all_mem 932 (by decide +kernel) (by decide +kernel)
theorem kV_X6_160 : CWV RX6 160 RX6 yX6_fault cX6_fault 4 (some .int) 0 := cwv_mk q962 q931 q932 q7 q933 ⟨rfl, ⟨by decide +kernel, by decide +kernel, by decide +kernel⟩⟩
theorem q966 : (Jvm.Cond.code ({ cls := "TideBoatsModel", name := "does", desc := "(I)I" } : Jvm.MethodName) prog_8_method_47_code (2 : Nat) (Option.some Jvm.ClassFile.FieldType.int)) ∈ lw_all := all_mem 966 (by decide +kernel) (by decide +kernel)
theorem q963 : (Jvm.Cond.methodLink "TideBoatsModel" (164 : Nat) ({ cls := "TideBoatsModel", name := "does", desc := "(I)I" } : Jvm.MethodName)) ∈ lw_all := all_mem 963 (by decide +kernel) (by decide +kernel)
theorem q965 : (Jvm.Cond.instanceMethod ({ cls := "TideBoatsModel", name := "does", desc := "(I)I" } : Jvm.MethodName)) ∈ lw_all := all_mem 965 (by decide +kernel) (by decide +kernel)
theorem qs44 : (Jvm.Cond.selects "TideBoatsModel" ({ cls := "TideBoatsModel", name := "does", desc := "(I)I" } : Jvm.MethodName) ({ cls := "TideBoatsModel", name := "does", desc := "(I)I" } : Jvm.MethodName)) ∈ lw_all := all_memS 44 (by decide +kernel) (by decide +kernel)
theorem kV_X6_164 : CWV RX6 164 RX6 yX6_does cX6_does 2 (some .int) 1 := cwv_mk q963 q965 qs44 q7 q966 ⟨rfl, ⟨by decide +kernel, by decide +kernel, by decide +kernel⟩⟩
theorem q761 : (Jvm.Cond.fieldLink "TideBoatsModel" (167 : Nat) "TideBoatsModel" "isKept" "Z") ∈ lw_all := all_mem 761 (by decide +kernel) (by decide +kernel)
theorem fl_X6_167 : FLD RX6 167 6 4 := ⟨RX6, TX6, 11, rfl, Nat.le_of_ble_eq_true rfl, in_X6, q761⟩
theorem q994 : (Jvm.Cond.code ({ cls := "TideBoatsModel", name := "movesOf", desc := "(I)I" } : Jvm.MethodName) prog_8_method_53_code (4 : Nat) (Option.some Jvm.ClassFile.FieldType.int)) ∈ lw_all := all_mem 994 (by decide +kernel) (by decide +kernel)
theorem q991 : (Jvm.Cond.methodLink "TideBoatsModel" (171 : Nat) ({ cls := "TideBoatsModel", name := "movesOf", desc := "(I)I" } : Jvm.MethodName)) ∈ lw_all := all_mem 991 (by decide +kernel) (by decide +kernel)
theorem q993 : (Jvm.Cond.instanceMethod ({ cls := "TideBoatsModel", name := "movesOf", desc := "(I)I" } : Jvm.MethodName)) ∈ lw_all := all_mem 993 (by decide +kernel) (by decide +kernel)
theorem qs46 : (Jvm.Cond.selects "TideBoatsModel" ({ cls := "TideBoatsModel", name := "movesOf", desc := "(I)I" } : Jvm.MethodName) ({ cls := "TideBoatsModel", name := "movesOf", desc := "(I)I" } : Jvm.MethodName)) ∈ lw_all := all_memS 46 (by decide +kernel) (by decide +kernel)
theorem kV_X6_171 : CWV RX6 171 RX6 yX6_movesOf cX6_movesOf 4 (some .int) 1 := cwv_mk q991 q993 qs46 q7 q994 ⟨rfl, ⟨by decide +kernel, by decide +kernel, by decide +kernel⟩⟩
theorem q1010 : (Jvm.Cond.code ({ cls := "TideBoatsModel", name := "score", desc := "(I)I" } : Jvm.MethodName) prog_8_method_57_code (4 : Nat) (Option.some Jvm.ClassFile.FieldType.int)) ∈ lw_all := all_mem 1010 (by decide +kernel) (by decide +kernel)
theorem q1007 : (Jvm.Cond.methodLink "TideBoatsModel" (174 : Nat) ({ cls := "TideBoatsModel", name := "score", desc := "(I)I" } : Jvm.MethodName)) ∈ lw_all := all_mem 1007 (by decide +kernel) (by decide +kernel)
theorem q1009 : (Jvm.Cond.instanceMethod ({ cls := "TideBoatsModel", name := "score", desc := "(I)I" } : Jvm.MethodName)) ∈ lw_all := all_mem 1009 (by decide +kernel) (by decide +kernel)
theorem qs47 : (Jvm.Cond.selects "TideBoatsModel" ({ cls := "TideBoatsModel", name := "score", desc := "(I)I" } : Jvm.MethodName) ({ cls := "TideBoatsModel", name := "score", desc := "(I)I" } : Jvm.MethodName)) ∈ lw_all := all_memS 47 (by decide +kernel) (by decide +kernel)
theorem kV_X6_174 : CWV RX6 174 RX6 yX6_score cX6_score 4 (some .int) 1 := cwv_mk q1007 q1009 qs47 q7 q1010 ⟨rfl, ⟨by decide +kernel, by decide +kernel, by decide +kernel⟩⟩
theorem q1014 : (Jvm.Cond.code ({ cls := "TideBoatsModel", name := "aground", desc := "()I" } : Jvm.MethodName) prog_8_method_58_code (3 : Nat) (Option.some Jvm.ClassFile.FieldType.int)) ∈ lw_all := all_mem 1014 (by decide +kernel) (by decide +kernel)
theorem q1011 : (Jvm.Cond.methodLink "TideBoatsModel" (177 : Nat) ({ cls := "TideBoatsModel", name := "aground", desc := "()I" } : Jvm.MethodName)) ∈ lw_all := all_mem 1011 (by decide +kernel) (by decide +kernel)
theorem q1013 : (Jvm.Cond.instanceMethod ({ cls := "TideBoatsModel", name := "aground", desc := "()I" } : Jvm.MethodName)) ∈ lw_all := all_mem 1013 (by decide +kernel) (by decide +kernel)
theorem qs48 : (Jvm.Cond.selects "TideBoatsModel" ({ cls := "TideBoatsModel", name := "aground", desc := "()I" } : Jvm.MethodName) ({ cls := "TideBoatsModel", name := "aground", desc := "()I" } : Jvm.MethodName)) ∈ lw_all := all_memS 48 (by decide +kernel) (by decide +kernel)
theorem kV_X6_177 : CWV RX6 177 RX6 yX6_aground cX6_aground 3 (some .int) 0 := cwv_mk q1011 q1013 qs48 q7 q1014 ⟨rfl, ⟨by decide +kernel, by decide +kernel, by decide +kernel⟩⟩
theorem q1018 : (Jvm.Cond.code ({ cls := "TideBoatsModel", name := "movesNow", desc := "()I" } : Jvm.MethodName) prog_8_method_59_code (3 : Nat) (Option.some Jvm.ClassFile.FieldType.int)) ∈ lw_all := all_mem 1018 (by decide +kernel) (by decide +kernel)
theorem q1015 : (Jvm.Cond.methodLink "TideBoatsModel" (180 : Nat) ({ cls := "TideBoatsModel", name := "movesNow", desc := "()I" } : Jvm.MethodName)) ∈ lw_all := all_mem 1015 (by decide +kernel) (by decide +kernel)
theorem q1017 : (Jvm.Cond.instanceMethod ({ cls := "TideBoatsModel", name := "movesNow", desc := "()I" } : Jvm.MethodName)) ∈ lw_all := all_mem 1017 (by decide +kernel) (by decide +kernel)
theorem qs49 : (Jvm.Cond.selects "TideBoatsModel" ({ cls := "TideBoatsModel", name := "movesNow", desc := "()I" } : Jvm.MethodName) ({ cls := "TideBoatsModel", name := "movesNow", desc := "()I" } : Jvm.MethodName)) ∈ lw_all := all_memS 49 (by decide +kernel) (by decide +kernel)
theorem kV_X6_180 : CWV RX6 180 RX6 yX6_movesNow cX6_movesNow 3 (some .int) 0 := cwv_mk q1015 q1017 qs49 q7 q1018 ⟨rfl, ⟨by decide +kernel, by decide +kernel, by decide +kernel⟩⟩
theorem q1027 : (Jvm.Cond.code ({ cls := "TideBoatsModel", name := "period", desc := "()I" } : Jvm.MethodName) prog_8_method_61_code (1 : Nat) (Option.some Jvm.ClassFile.FieldType.int)) ∈ lw_all := all_mem 1027 (by decide +kernel) (by decide +kernel)
theorem q1024 : (Jvm.Cond.methodLink "TideBoatsModel" (184 : Nat) ({ cls := "TideBoatsModel", name := "period", desc := "()I" } : Jvm.MethodName)) ∈ lw_all := all_mem 1024 (by decide +kernel) (by decide +kernel)
theorem q1026 : (Jvm.Cond.instanceMethod ({ cls := "TideBoatsModel", name := "period", desc := "()I" } : Jvm.MethodName)) ∈ lw_all := all_mem 1026 (by decide +kernel) (by decide +kernel)
theorem qs50 : (Jvm.Cond.selects "TideBoatsModel" ({ cls := "TideBoatsModel", name := "period", desc := "()I" } : Jvm.MethodName) ({ cls := "TideBoatsModel", name := "period", desc := "()I" } : Jvm.MethodName)) ∈ lw_all := all_memS 50 (by decide +kernel) (by decide +kernel)
theorem kV_X6_184 : CWV RX6 184 RX6 yX6_period cX6_period 1 (some .int) 0 := cwv_mk q1024 q1026 qs50 q7 q1027 ⟨rfl, ⟨by decide +kernel, by decide +kernel, by decide +kernel⟩⟩
theorem q1043 : (Jvm.Cond.code ({ cls := "TideBoatsModel", name := "goes", desc := "(III)Z" } : Jvm.MethodName) prog_8_method_64_code (9 : Nat) (Option.some Jvm.ClassFile.FieldType.boolean)) ∈ lw_all := all_mem 1043 (by decide +kernel) (by decide +kernel)
theorem q1040 : (Jvm.Cond.methodLink "TideBoatsModel" (187 : Nat) ({ cls := "TideBoatsModel", name := "goes", desc := "(III)Z" } : Jvm.MethodName)) ∈ lw_all := all_mem 1040 (by decide +kernel) (by decide +kernel)
theorem q1042 : (Jvm.Cond.instanceMethod ({ cls := "TideBoatsModel", name := "goes", desc := "(III)Z" } : Jvm.MethodName)) ∈ lw_all := all_mem 1042 (by decide +kernel) (by decide +kernel)
theorem qs52 : (Jvm.Cond.selects "TideBoatsModel" ({ cls := "TideBoatsModel", name := "goes", desc := "(III)Z" } : Jvm.MethodName) ({ cls := "TideBoatsModel", name := "goes", desc := "(III)Z" } : Jvm.MethodName)) ∈ lw_all := all_memS 52 (by decide +kernel) (by decide +kernel)
theorem kV_X6_187 : CWV RX6 187 RX6 yX6_goes cX6_goes 9 (some .boolean) 3 := cwv_mk q1040 q1042 qs52 q7 q1043 ⟨rfl, ⟨by decide +kernel, by decide +kernel, by decide +kernel⟩⟩
theorem q1051 : (Jvm.Cond.code ({ cls := "TideBoatsModel", name := "fewest", desc := "(III)I" } : Jvm.MethodName) prog_8_method_66_code (10 : Nat) (Option.some Jvm.ClassFile.FieldType.int)) ∈ lw_all := all_mem 1051 (by decide +kernel) (by decide +kernel)
theorem q1048 : (Jvm.Cond.methodLink "TideBoatsModel" (190 : Nat) ({ cls := "TideBoatsModel", name := "fewest", desc := "(III)I" } : Jvm.MethodName)) ∈ lw_all := all_mem 1048 (by decide +kernel) (by decide +kernel)
theorem q1050 : (Jvm.Cond.instanceMethod ({ cls := "TideBoatsModel", name := "fewest", desc := "(III)I" } : Jvm.MethodName)) ∈ lw_all := all_mem 1050 (by decide +kernel) (by decide +kernel)
theorem qs54 : (Jvm.Cond.selects "TideBoatsModel" ({ cls := "TideBoatsModel", name := "fewest", desc := "(III)I" } : Jvm.MethodName) ({ cls := "TideBoatsModel", name := "fewest", desc := "(III)I" } : Jvm.MethodName)) ∈ lw_all := all_memS 54 (by decide +kernel) (by decide +kernel)
theorem kV_X6_190 : CWV RX6 190 RX6 yX6_fewest cX6_fewest 10 (some .int) 3 := cwv_mk q1048 q1050 qs54 q7 q1051 ⟨rfl, ⟨by decide +kernel, by decide +kernel, by decide +kernel⟩⟩
theorem q1039 : (Jvm.Cond.code ({ cls := "TideBoatsModel", name := "forth", desc := "(II)I" } : Jvm.MethodName) prog_8_method_65_code (5 : Nat) (Option.some Jvm.ClassFile.FieldType.int)) ∈ lw_all := all_mem 1039 (by decide +kernel) (by decide +kernel)
theorem q1036 : (Jvm.Cond.methodLink "TideBoatsModel" (193 : Nat) ({ cls := "TideBoatsModel", name := "forth", desc := "(II)I" } : Jvm.MethodName)) ∈ lw_all := all_mem 1036 (by decide +kernel) (by decide +kernel)
theorem q1038 : (Jvm.Cond.instanceMethod ({ cls := "TideBoatsModel", name := "forth", desc := "(II)I" } : Jvm.MethodName)) ∈ lw_all := all_mem 1038 (by decide +kernel) (by decide +kernel)
theorem qs51 : (Jvm.Cond.selects "TideBoatsModel" ({ cls := "TideBoatsModel", name := "forth", desc := "(II)I" } : Jvm.MethodName) ({ cls := "TideBoatsModel", name := "forth", desc := "(II)I" } : Jvm.MethodName)) ∈ lw_all := all_memS 51 (by decide +kernel) (by decide +kernel)
theorem kV_X6_193 : CWV RX6 193 RX6 yX6_forth cX6_forth 5 (some .int) 2 := cwv_mk q1036 q1038 qs51 q7 q1039 ⟨rfl, ⟨by decide +kernel, by decide +kernel, by decide +kernel⟩⟩
theorem q1047 : (Jvm.Cond.code ({ cls := "TideBoatsModel", name := "back", desc := "(I)I" } : Jvm.MethodName) prog_8_method_67_code (4 : Nat) (Option.some Jvm.ClassFile.FieldType.int)) ∈ lw_all := all_mem 1047 (by decide +kernel) (by decide +kernel)
theorem q1044 : (Jvm.Cond.methodLink "TideBoatsModel" (196 : Nat) ({ cls := "TideBoatsModel", name := "back", desc := "(I)I" } : Jvm.MethodName)) ∈ lw_all := all_mem 1044 (by decide +kernel) (by decide +kernel)
theorem q1046 : (Jvm.Cond.instanceMethod ({ cls := "TideBoatsModel", name := "back", desc := "(I)I" } : Jvm.MethodName)) ∈ lw_all := all_mem 1046 (by decide +kernel) (by decide +kernel)
theorem qs53 : (Jvm.Cond.selects "TideBoatsModel" ({ cls := "TideBoatsModel", name := "back", desc := "(I)I" } : Jvm.MethodName) ({ cls := "TideBoatsModel", name := "back", desc := "(I)I" } : Jvm.MethodName)) ∈ lw_all := all_memS 53 (by decide +kernel) (by decide +kernel)
theorem kV_X6_196 : CWV RX6 196 RX6 yX6_back cX6_back 4 (some .int) 1 := cwv_mk q1044 q1046 qs53 q7 q1047 ⟨rfl, ⟨by decide +kernel, by decide +kernel, by decide +kernel⟩⟩
theorem q1063 : (Jvm.Cond.code ({ cls := "TideBoatsModel", name := "worth", desc := "(II)I" } : Jvm.MethodName) prog_8_method_70_code (5 : Nat) (Option.some Jvm.ClassFile.FieldType.int)) ∈ lw_all := all_mem 1063 (by decide +kernel) (by decide +kernel)
theorem q1060 : (Jvm.Cond.methodLink "TideBoatsModel" (199 : Nat) ({ cls := "TideBoatsModel", name := "worth", desc := "(II)I" } : Jvm.MethodName)) ∈ lw_all := all_mem 1060 (by decide +kernel) (by decide +kernel)
theorem q1062 : (Jvm.Cond.instanceMethod ({ cls := "TideBoatsModel", name := "worth", desc := "(II)I" } : Jvm.MethodName)) ∈ lw_all := all_mem 1062 (by decide +kernel) (by decide +kernel)
theorem qs55 : (Jvm.Cond.selects "TideBoatsModel" ({ cls := "TideBoatsModel", name := "worth", desc := "(II)I" } : Jvm.MethodName) ({ cls := "TideBoatsModel", name := "worth", desc := "(II)I" } : Jvm.MethodName)) ∈ lw_all := all_memS 55 (by decide +kernel) (by decide +kernel)
theorem kV_X6_199 : CWV RX6 199 RX6 yX6_worth cX6_worth 5 (some .int) 2 := cwv_mk q1060 q1062 qs55 q7 q1063 ⟨rfl, ⟨by decide +kernel, by decide +kernel, by decide +kernel⟩⟩
theorem q434 : (Jvm.Cond.code ({ cls := "java/lang/String", name := "coder", desc := "()B" } : Jvm.MethodName) prog_11_method_152_code (1 : Nat) (Option.some Jvm.ClassFile.FieldType.byte)) ∈ lw_all := all_mem 434 (by decide +kernel) (by decide +kernel)
theorem q431 : (Jvm.Cond.methodLink "java/lang/String" (335 : Nat) ({ cls := "java/lang/String", name := "coder", desc := "()B" } : Jvm.MethodName)) ∈ lw_all := all_mem 431 (by decide +kernel) (by decide +kernel)
theorem q432 : (Jvm.Cond.instanceMethod ({ cls := "java/lang/String", name := "coder", desc := "()B" } : Jvm.MethodName)) ∈ lw_all := all_mem 432 (by decide +kernel) (by decide +kernel)
theorem q433 : (Jvm.Cond.selects "java/lang/String" ({ cls := "java/lang/String", name := "coder", desc := "()B" } : Jvm.MethodName) ({ cls := "java/lang/String", name := "coder", desc := "()B" } : Jvm.MethodName)) ∈ lw_all := all_mem 433 (by decide +kernel) (by decide +kernel)
theorem kV_J0_335 : CWV RJ0 335 RJ0 yJ0_coder_7d493 cJ0_coder_7d493 1 (some .byte) 0 := cwv_mk q431 q432 q433 q8 q434 ⟨rfl, ⟨by decide +kernel, by decide +kernel, by decide +kernel⟩⟩
theorem q424 : (Jvm.Cond.code ({ cls := "java/lang/String", name := "isLatin1", desc := "()Z" } : Jvm.MethodName) prog_11_method_154_code (1 : Nat) (Option.some Jvm.ClassFile.FieldType.boolean)) ∈ lw_all := all_mem 424 (by decide +kernel) (by decide +kernel)
theorem q421 : (Jvm.Cond.methodLink "java/lang/String" (492 : Nat) ({ cls := "java/lang/String", name := "isLatin1", desc := "()Z" } : Jvm.MethodName)) ∈ lw_all := all_mem 421 (by decide +kernel) (by decide +kernel)
theorem q422 : (Jvm.Cond.instanceMethod ({ cls := "java/lang/String", name := "isLatin1", desc := "()Z" } : Jvm.MethodName)) ∈ lw_all := all_mem 422 (by decide +kernel) (by decide +kernel)
theorem q423 : (Jvm.Cond.selects "java/lang/String" ({ cls := "java/lang/String", name := "isLatin1", desc := "()Z" } : Jvm.MethodName) ({ cls := "java/lang/String", name := "isLatin1", desc := "()Z" } : Jvm.MethodName)) ∈ lw_all := all_mem 423 (by decide +kernel) (by decide +kernel)
theorem kV_J0_492 : CWV RJ0 492 RJ0 yJ0_isLatin1_aae02 cJ0_isLatin1_aae02 1 (some .boolean) 0 := cwv_mk q421 q422 q423 q8 q424 ⟨rfl, ⟨by decide +kernel, by decide +kernel, by decide +kernel⟩⟩
theorem q511 : (Jvm.Cond.code ({ cls := "java/lang/StringLatin1", name := "charAt", desc := "([BI)C" } : Jvm.MethodName) prog_12_method_2_code (2 : Nat) (Option.some Jvm.ClassFile.FieldType.char)) ∈ lw_all := all_mem 511 (by decide +kernel) (by decide +kernel)
theorem q510 : (Jvm.Cond.static ({ cls := "java/lang/StringLatin1", name := "charAt", desc := "([BI)C" } : Jvm.MethodName)) ∈ lw_all := all_mem 510 (by decide +kernel) (by decide +kernel)
theorem q509 : (Jvm.Cond.methodLink "java/lang/String" (495 : Nat) ({ cls := "java/lang/StringLatin1", name := "charAt", desc := "([BI)C" } : Jvm.MethodName)) ∈ lw_all := all_mem 509 (by decide +kernel) (by decide +kernel)
theorem q9 : (Jvm.Cond.initialized "java/lang/StringLatin1") ∈ lw_all := all_mem 9 (by decide +kernel) (by decide +kernel)
theorem kS_J0_495 : CWS RJ0 495 yJ1_charAt_3b067 cJ1_charAt_3b067 2 (some .char) 2 := cws_mk q509 q510 q9 q511 ⟨by decide +kernel, by decide +kernel, by decide +kernel⟩
theorem q520 : (Jvm.Cond.code ({ cls := "java/lang/StringUTF16", name := "charAt", desc := "([BI)C" } : Jvm.MethodName) prog_13_method_83_code (2 : Nat) (Option.some Jvm.ClassFile.FieldType.char)) ∈ lw_all := all_mem 520 (by decide +kernel) (by decide +kernel)
theorem q519 : (Jvm.Cond.static ({ cls := "java/lang/StringUTF16", name := "charAt", desc := "([BI)C" } : Jvm.MethodName)) ∈ lw_all := all_mem 519 (by decide +kernel) (by decide +kernel)
theorem q518 : (Jvm.Cond.methodLink "java/lang/String" (498 : Nat) ({ cls := "java/lang/StringUTF16", name := "charAt", desc := "([BI)C" } : Jvm.MethodName)) ∈ lw_all := all_mem 518 (by decide +kernel) (by decide +kernel)
theorem q11 : (Jvm.Cond.initialized "java/lang/StringUTF16") ∈ lw_all := all_mem 11 (by decide +kernel) (by decide +kernel)
theorem kS_J0_498 : CWS RJ0 498 yJ2_charAt_3b067 cJ2_charAt_3b067 2 (some .char) 2 := cws_mk q518 q519 q11 q520 ⟨by decide +kernel, by decide +kernel, by decide +kernel⟩
theorem q420 : (Jvm.Cond.code ({ cls := "java/lang/String", name := "indexOf", desc := "(II)I" } : Jvm.MethodName) prog_11_method_80_code (3 : Nat) (Option.some Jvm.ClassFile.FieldType.int)) ∈ lw_all := all_mem 420 (by decide +kernel) (by decide +kernel)
theorem q417 : (Jvm.Cond.methodLink "java/lang/String" (633 : Nat) ({ cls := "java/lang/String", name := "indexOf", desc := "(II)I" } : Jvm.MethodName)) ∈ lw_all := all_mem 417 (by decide +kernel) (by decide +kernel)
theorem q418 : (Jvm.Cond.instanceMethod ({ cls := "java/lang/String", name := "indexOf", desc := "(II)I" } : Jvm.MethodName)) ∈ lw_all := all_mem 418 (by decide +kernel) (by decide +kernel)
theorem q419 : (Jvm.Cond.selects "java/lang/String" ({ cls := "java/lang/String", name := "indexOf", desc := "(II)I" } : Jvm.MethodName) ({ cls := "java/lang/String", name := "indexOf", desc := "(II)I" } : Jvm.MethodName)) ∈ lw_all := all_mem 419 (by decide +kernel) (by decide +kernel)
theorem kV_J0_633 : CWV RJ0 633 RJ0 yJ0_indexOf_7cf53 cJ0_indexOf_7cf53 3 (some .int) 2 := cwv_mk q417 q418 q419 q8 q420 ⟨rfl, ⟨by decide +kernel, by decide +kernel, by decide +kernel⟩⟩
theorem q427 : (Jvm.Cond.methodLink "java/lang/String" (505 : Nat) ({ cls := "java/lang/String", name := "length", desc := "()I" } : Jvm.MethodName)) ∈ lw_all := all_mem 427 (by decide +kernel) (by decide +kernel)
theorem kV_J0_505 : CWV RJ0 505 RJ0 yJ0_length_8abf5 cJ0_length_8abf5 1 (some .int) 0 := cwv_mk q427 q428 q429 q8 q430 ⟨rfl, ⟨by decide +kernel, by decide +kernel, by decide +kernel⟩⟩
theorem q437 : (Jvm.Cond.code ({ cls := "java/lang/StringLatin1", name := "indexOf", desc := "([BIII)I" } : Jvm.MethodName) prog_12_method_22_code (4 : Nat) (Option.some Jvm.ClassFile.FieldType.int)) ∈ lw_all := all_mem 437 (by decide +kernel) (by decide +kernel)
theorem q436 : (Jvm.Cond.static ({ cls := "java/lang/StringLatin1", name := "indexOf", desc := "([BIII)I" } : Jvm.MethodName)) ∈ lw_all := all_mem 436 (by decide +kernel) (by decide +kernel)
theorem q435 : (Jvm.Cond.methodLink "java/lang/String" (637 : Nat) ({ cls := "java/lang/StringLatin1", name := "indexOf", desc := "([BIII)I" } : Jvm.MethodName)) ∈ lw_all := all_mem 435 (by decide +kernel) (by decide +kernel)
theorem kS_J0_637 : CWS RJ0 637 yJ1_indexOf_4cfef cJ1_indexOf_4cfef 4 (some .int) 4 := cws_mk q435 q436 q9 q437 ⟨by decide +kernel, by decide +kernel, by decide +kernel⟩
theorem q452 : (Jvm.Cond.code ({ cls := "java/lang/StringUTF16", name := "indexOf", desc := "([BIII)I" } : Jvm.MethodName) prog_13_method_40_code (4 : Nat) (Option.some Jvm.ClassFile.FieldType.int)) ∈ lw_all := all_mem 452 (by decide +kernel) (by decide +kernel)
theorem q451 : (Jvm.Cond.static ({ cls := "java/lang/StringUTF16", name := "indexOf", desc := "([BIII)I" } : Jvm.MethodName)) ∈ lw_all := all_mem 451 (by decide +kernel) (by decide +kernel)
theorem q450 : (Jvm.Cond.methodLink "java/lang/String" (640 : Nat) ({ cls := "java/lang/StringUTF16", name := "indexOf", desc := "([BIII)I" } : Jvm.MethodName)) ∈ lw_all := all_mem 450 (by decide +kernel) (by decide +kernel)
theorem kS_J0_640 : CWS RJ0 640 yJ2_indexOf_4cfef cJ2_indexOf_4cfef 4 (some .int) 4 := cws_mk q450 q451 q11 q452 ⟨by decide +kernel, by decide +kernel, by decide +kernel⟩
theorem q517 : (Jvm.Cond.code ({ cls := "jdk/internal/util/Preconditions", name := "checkIndex", desc := "(IILjava/util/function/BiFunction;)I" } : Jvm.MethodName) prog_14_method_11_code (3 : Nat) (Option.some Jvm.ClassFile.FieldType.int)) ∈ lw_all := all_mem 517 (by decide +kernel) (by decide +kernel)
theorem q516 : (Jvm.Cond.static ({ cls := "jdk/internal/util/Preconditions", name := "checkIndex", desc := "(IILjava/util/function/BiFunction;)I" } : Jvm.MethodName)) ∈ lw_all := all_mem 516 (by decide +kernel) (by decide +kernel)
theorem q515 : (Jvm.Cond.methodLink "java/lang/String" (1059 : Nat) ({ cls := "jdk/internal/util/Preconditions", name := "checkIndex", desc := "(IILjava/util/function/BiFunction;)I" } : Jvm.MethodName)) ∈ lw_all := all_mem 515 (by decide +kernel) (by decide +kernel)
theorem q12 : (Jvm.Cond.initialized "jdk/internal/util/Preconditions") ∈ lw_all := all_mem 12 (by decide +kernel) (by decide +kernel)
theorem kS_J0_1059 : CWS RJ0 1059 yJ3_checkIndex_8e157 cJ3_checkIndex_8e157 3 (some .int) 3 := cws_mk q515 q516 q12 q517 ⟨by decide +kernel, by decide +kernel, by decide +kernel⟩
theorem q472 : (Jvm.Cond.code ({ cls := "jdk/internal/util/Preconditions", name := "checkFromToIndex", desc := "(IIILjava/util/function/BiFunction;)I" } : Jvm.MethodName) prog_14_method_12_code (4 : Nat) (Option.some Jvm.ClassFile.FieldType.int)) ∈ lw_all := all_mem 472 (by decide +kernel) (by decide +kernel)
theorem q471 : (Jvm.Cond.static ({ cls := "jdk/internal/util/Preconditions", name := "checkFromToIndex", desc := "(IIILjava/util/function/BiFunction;)I" } : Jvm.MethodName)) ∈ lw_all := all_mem 471 (by decide +kernel) (by decide +kernel)
theorem q470 : (Jvm.Cond.methodLink "java/lang/String" (1062 : Nat) ({ cls := "jdk/internal/util/Preconditions", name := "checkFromToIndex", desc := "(IIILjava/util/function/BiFunction;)I" } : Jvm.MethodName)) ∈ lw_all := all_mem 470 (by decide +kernel) (by decide +kernel)
theorem kS_J0_1062 : CWS RJ0 1062 yJ3_checkFromToIndex_8c36e cJ3_checkFromToIndex_8c36e 4 (some .int) 4 := cws_mk q470 q471 q12 q472 ⟨by decide +kernel, by decide +kernel, by decide +kernel⟩
theorem q514 : (Jvm.Cond.code ({ cls := "java/lang/String", name := "checkIndex", desc := "(II)V" } : Jvm.MethodName) prog_11_method_155_code (2 : Nat) (Option.none : Option Jvm.ClassFile.FieldType)) ∈ lw_all := all_mem 514 (by decide +kernel) (by decide +kernel)
theorem q513 : (Jvm.Cond.static ({ cls := "java/lang/String", name := "checkIndex", desc := "(II)V" } : Jvm.MethodName)) ∈ lw_all := all_mem 513 (by decide +kernel) (by decide +kernel)
theorem q512 : (Jvm.Cond.methodLink "java/lang/StringLatin1" (9 : Nat) ({ cls := "java/lang/String", name := "checkIndex", desc := "(II)V" } : Jvm.MethodName)) ∈ lw_all := all_mem 512 (by decide +kernel) (by decide +kernel)
theorem kS_J1_9 : CWS RJ1 9 yJ0_checkIndex_df160 cJ0_checkIndex_df160 2 (none) 2 := cws_mk q512 q513 q8 q514 ⟨by decide +kernel, by decide +kernel, by decide +kernel⟩
theorem q440 : (Jvm.Cond.code ({ cls := "java/lang/StringLatin1", name := "canEncode", desc := "(I)Z" } : Jvm.MethodName) prog_12_method_4_code (1 : Nat) (Option.some Jvm.ClassFile.FieldType.boolean)) ∈ lw_all := all_mem 440 (by decide +kernel) (by decide +kernel)
theorem q439 : (Jvm.Cond.static ({ cls := "java/lang/StringLatin1", name := "canEncode", desc := "(I)Z" } : Jvm.MethodName)) ∈ lw_all := all_mem 439 (by decide +kernel) (by decide +kernel)
theorem q438 : (Jvm.Cond.methodLink "java/lang/StringLatin1" (88 : Nat) ({ cls := "java/lang/StringLatin1", name := "canEncode", desc := "(I)Z" } : Jvm.MethodName)) ∈ lw_all := all_mem 438 (by decide +kernel) (by decide +kernel)
theorem kS_J1_88 : CWS RJ1 88 yJ1_canEncode_9a6ad cJ1_canEncode_9a6ad 1 (some .boolean) 1 := cws_mk q438 q439 q9 q440 ⟨by decide +kernel, by decide +kernel, by decide +kernel⟩
theorem q441 : (Jvm.Cond.methodLink "java/lang/StringLatin1" (92 : Nat) ({ cls := "java/lang/Math", name := "max", desc := "(II)I" } : Jvm.MethodName)) ∈ lw_all := all_mem 441 (by decide +kernel) (by decide +kernel)
theorem kS_J1_92 : CWS RJ1 92 yJ9_max_7cf53 cJ9_max_7cf53 2 (some .int) 2 := cws_mk q441 q442 q10 q443 ⟨by decide +kernel, by decide +kernel, by decide +kernel⟩
theorem q444 : (Jvm.Cond.methodLink "java/lang/StringLatin1" (38 : Nat) ({ cls := "java/lang/Math", name := "min", desc := "(II)I" } : Jvm.MethodName)) ∈ lw_all := all_mem 444 (by decide +kernel) (by decide +kernel)
theorem kS_J1_38 : CWS RJ1 38 yJ9_min_7cf53 cJ9_min_7cf53 2 (some .int) 2 := cws_mk q444 q445 q10 q446 ⟨by decide +kernel, by decide +kernel, by decide +kernel⟩
theorem q449 : (Jvm.Cond.code ({ cls := "java/lang/StringLatin1", name := "indexOfChar", desc := "([BIII)I" } : Jvm.MethodName) prog_12_method_23_code (6 : Nat) (Option.some Jvm.ClassFile.FieldType.int)) ∈ lw_all := all_mem 449 (by decide +kernel) (by decide +kernel)
theorem q448 : (Jvm.Cond.static ({ cls := "java/lang/StringLatin1", name := "indexOfChar", desc := "([BIII)I" } : Jvm.MethodName)) ∈ lw_all := all_mem 448 (by decide +kernel) (by decide +kernel)
theorem q447 : (Jvm.Cond.methodLink "java/lang/StringLatin1" (95 : Nat) ({ cls := "java/lang/StringLatin1", name := "indexOfChar", desc := "([BIII)I" } : Jvm.MethodName)) ∈ lw_all := all_mem 447 (by decide +kernel) (by decide +kernel)
theorem kS_J1_95 : CWS RJ1 95 yJ1_indexOfChar_4cfef cJ1_indexOfChar_4cfef 6 (some .int) 4 := cws_mk q447 q448 q9 q449 ⟨by decide +kernel, by decide +kernel, by decide +kernel⟩
theorem q464 : (Jvm.Cond.code ({ cls := "java/lang/StringUTF16", name := "length", desc := "([B)I" } : Jvm.MethodName) prog_13_method_6_code (1 : Nat) (Option.some Jvm.ClassFile.FieldType.int)) ∈ lw_all := all_mem 464 (by decide +kernel) (by decide +kernel)
theorem q463 : (Jvm.Cond.static ({ cls := "java/lang/StringUTF16", name := "length", desc := "([B)I" } : Jvm.MethodName)) ∈ lw_all := all_mem 463 (by decide +kernel) (by decide +kernel)
theorem q462 : (Jvm.Cond.methodLink "java/lang/StringUTF16" (48 : Nat) ({ cls := "java/lang/StringUTF16", name := "length", desc := "([B)I" } : Jvm.MethodName)) ∈ lw_all := all_mem 462 (by decide +kernel) (by decide +kernel)
theorem kS_J2_48 : CWS RJ2 48 yJ2_length_9d52b cJ2_length_9d52b 1 (some .int) 1 := cws_mk q462 q463 q11 q464 ⟨by decide +kernel, by decide +kernel, by decide +kernel⟩
theorem q453 : (Jvm.Cond.methodLink "java/lang/StringUTF16" (224 : Nat) ({ cls := "java/lang/Math", name := "max", desc := "(II)I" } : Jvm.MethodName)) ∈ lw_all := all_mem 453 (by decide +kernel) (by decide +kernel)
theorem kS_J2_224 : CWS RJ2 224 yJ9_max_7cf53 cJ9_max_7cf53 2 (some .int) 2 := cws_mk q453 q442 q10 q443 ⟨by decide +kernel, by decide +kernel, by decide +kernel⟩
theorem q454 : (Jvm.Cond.methodLink "java/lang/StringUTF16" (183 : Nat) ({ cls := "java/lang/Math", name := "min", desc := "(II)I" } : Jvm.MethodName)) ∈ lw_all := all_mem 454 (by decide +kernel) (by decide +kernel)
theorem kS_J2_183 : CWS RJ2 183 yJ9_min_7cf53 cJ9_min_7cf53 2 (some .int) 2 := cws_mk q454 q445 q10 q446 ⟨by decide +kernel, by decide +kernel, by decide +kernel⟩
theorem q458 : (Jvm.Cond.code ({ cls := "java/lang/StringUTF16", name := "indexOfChar", desc := "([BIII)I" } : Jvm.MethodName) prog_13_method_47_code (4 : Nat) (Option.some Jvm.ClassFile.FieldType.int)) ∈ lw_all := all_mem 458 (by decide +kernel) (by decide +kernel)
theorem q457 : (Jvm.Cond.static ({ cls := "java/lang/StringUTF16", name := "indexOfChar", desc := "([BIII)I" } : Jvm.MethodName)) ∈ lw_all := all_mem 457 (by decide +kernel) (by decide +kernel)
theorem q456 : (Jvm.Cond.methodLink "java/lang/StringUTF16" (228 : Nat) ({ cls := "java/lang/StringUTF16", name := "indexOfChar", desc := "([BIII)I" } : Jvm.MethodName)) ∈ lw_all := all_mem 456 (by decide +kernel) (by decide +kernel)
theorem kS_J2_228 : CWS RJ2 228 yJ2_indexOfChar_4cfef cJ2_indexOfChar_4cfef 4 (some .int) 4 := cws_mk q456 q457 q11 q458 ⟨by decide +kernel, by decide +kernel, by decide +kernel⟩
theorem q487 : (Jvm.Cond.code ({ cls := "java/lang/StringUTF16", name := "indexOfSupplementary", desc := "([BIII)I" } : Jvm.MethodName) prog_13_method_49_code (7 : Nat) (Option.some Jvm.ClassFile.FieldType.int)) ∈ lw_all := all_mem 487 (by decide +kernel) (by decide +kernel)
theorem q486 : (Jvm.Cond.static ({ cls := "java/lang/StringUTF16", name := "indexOfSupplementary", desc := "([BIII)I" } : Jvm.MethodName)) ∈ lw_all := all_mem 486 (by decide +kernel) (by decide +kernel)
theorem q485 : (Jvm.Cond.methodLink "java/lang/StringUTF16" (232 : Nat) ({ cls := "java/lang/StringUTF16", name := "indexOfSupplementary", desc := "([BIII)I" } : Jvm.MethodName)) ∈ lw_all := all_mem 485 (by decide +kernel) (by decide +kernel)
theorem kS_J2_232 : CWS RJ2 232 yJ2_indexOfSupplementary_4cfef cJ2_indexOfSupplementary_4cfef 7 (some .int) 4 := cws_mk q485 q486 q11 q487 ⟨by decide +kernel, by decide +kernel, by decide +kernel⟩
theorem q461 : (Jvm.Cond.code ({ cls := "java/lang/StringUTF16", name := "checkBoundsBeginEnd", desc := "(II[B)V" } : Jvm.MethodName) prog_13_method_93_code (3 : Nat) (Option.none : Option Jvm.ClassFile.FieldType)) ∈ lw_all := all_mem 461 (by decide +kernel) (by decide +kernel)
theorem q460 : (Jvm.Cond.static ({ cls := "java/lang/StringUTF16", name := "checkBoundsBeginEnd", desc := "(II[B)V" } : Jvm.MethodName)) ∈ lw_all := all_mem 460 (by decide +kernel) (by decide +kernel)
theorem q459 : (Jvm.Cond.methodLink "java/lang/StringUTF16" (96 : Nat) ({ cls := "java/lang/StringUTF16", name := "checkBoundsBeginEnd", desc := "(II[B)V" } : Jvm.MethodName)) ∈ lw_all := all_mem 459 (by decide +kernel) (by decide +kernel)
theorem kS_J2_96 : CWS RJ2 96 yJ2_checkBoundsBeginEnd_d044e cJ2_checkBoundsBeginEnd_d044e 3 (none) 3 := cws_mk q459 q460 q11 q461 ⟨by decide +kernel, by decide +kernel, by decide +kernel⟩
theorem q475 : (Jvm.Cond.code ({ cls := "java/lang/StringUTF16", name := "indexOfCharUnsafe", desc := "([BIII)I" } : Jvm.MethodName) prog_13_method_48_code (5 : Nat) (Option.some Jvm.ClassFile.FieldType.int)) ∈ lw_all := all_mem 475 (by decide +kernel) (by decide +kernel)
theorem q474 : (Jvm.Cond.static ({ cls := "java/lang/StringUTF16", name := "indexOfCharUnsafe", desc := "([BIII)I" } : Jvm.MethodName)) ∈ lw_all := all_mem 474 (by decide +kernel) (by decide +kernel)
theorem q473 : (Jvm.Cond.methodLink "java/lang/StringUTF16" (244 : Nat) ({ cls := "java/lang/StringUTF16", name := "indexOfCharUnsafe", desc := "([BIII)I" } : Jvm.MethodName)) ∈ lw_all := all_mem 473 (by decide +kernel) (by decide +kernel)
theorem kS_J2_244 : CWS RJ2 244 yJ2_indexOfCharUnsafe_4cfef cJ2_indexOfCharUnsafe_4cfef 5 (some .int) 4 := cws_mk q473 q474 q11 q475 ⟨by decide +kernel, by decide +kernel, by decide +kernel⟩
theorem q478 : (Jvm.Cond.code ({ cls := "java/lang/StringUTF16", name := "getChar", desc := "([BI)C" } : Jvm.MethodName) prog_13_method_5_code (2 : Nat) (Option.some Jvm.ClassFile.FieldType.char)) ∈ lw_all := all_mem 478 (by decide +kernel) (by decide +kernel)
theorem q477 : (Jvm.Cond.static ({ cls := "java/lang/StringUTF16", name := "getChar", desc := "([BI)C" } : Jvm.MethodName)) ∈ lw_all := all_mem 477 (by decide +kernel) (by decide +kernel)
theorem q476 : (Jvm.Cond.methodLink "java/lang/StringUTF16" (71 : Nat) ({ cls := "java/lang/StringUTF16", name := "getChar", desc := "([BI)C" } : Jvm.MethodName)) ∈ lw_all := all_mem 476 (by decide +kernel) (by decide +kernel)
theorem kS_J2_71 : CWS RJ2 71 yJ2_getChar_3b067 cJ2_getChar_3b067 2 (some .char) 2 := cws_mk q476 q477 q11 q478 ⟨by decide +kernel, by decide +kernel, by decide +kernel⟩
theorem q490 : (Jvm.Cond.code ({ cls := "java/lang/Character", name := "isValidCodePoint", desc := "(I)Z" } : Jvm.MethodName) prog_9_method_11_code (2 : Nat) (Option.some Jvm.ClassFile.FieldType.boolean)) ∈ lw_all := all_mem 490 (by decide +kernel) (by decide +kernel)
theorem q489 : (Jvm.Cond.static ({ cls := "java/lang/Character", name := "isValidCodePoint", desc := "(I)Z" } : Jvm.MethodName)) ∈ lw_all := all_mem 489 (by decide +kernel) (by decide +kernel)
theorem q488 : (Jvm.Cond.methodLink "java/lang/StringUTF16" (164 : Nat) ({ cls := "java/lang/Character", name := "isValidCodePoint", desc := "(I)Z" } : Jvm.MethodName)) ∈ lw_all := all_mem 488 (by decide +kernel) (by decide +kernel)
theorem q13 : (Jvm.Cond.initialized "java/lang/Character") ∈ lw_all := all_mem 13 (by decide +kernel) (by decide +kernel)
theorem kS_J2_164 : CWS RJ2 164 yJ11_isValidCodePoint_9a6ad cJ11_isValidCodePoint_9a6ad 2 (some .boolean) 1 := cws_mk q488 q489 q13 q490 ⟨by decide +kernel, by decide +kernel, by decide +kernel⟩
theorem q493 : (Jvm.Cond.code ({ cls := "java/lang/Character", name := "highSurrogate", desc := "(I)C" } : Jvm.MethodName) prog_9_method_28_code (1 : Nat) (Option.some Jvm.ClassFile.FieldType.char)) ∈ lw_all := all_mem 493 (by decide +kernel) (by decide +kernel)
theorem q492 : (Jvm.Cond.static ({ cls := "java/lang/Character", name := "highSurrogate", desc := "(I)C" } : Jvm.MethodName)) ∈ lw_all := all_mem 492 (by decide +kernel) (by decide +kernel)
theorem q491 : (Jvm.Cond.methodLink "java/lang/StringUTF16" (157 : Nat) ({ cls := "java/lang/Character", name := "highSurrogate", desc := "(I)C" } : Jvm.MethodName)) ∈ lw_all := all_mem 491 (by decide +kernel) (by decide +kernel)
theorem kS_J2_157 : CWS RJ2 157 yJ11_highSurrogate_5068e cJ11_highSurrogate_5068e 1 (some .char) 1 := cws_mk q491 q492 q13 q493 ⟨by decide +kernel, by decide +kernel, by decide +kernel⟩
theorem q497 : (Jvm.Cond.code ({ cls := "java/lang/Character", name := "lowSurrogate", desc := "(I)C" } : Jvm.MethodName) prog_9_method_29_code (1 : Nat) (Option.some Jvm.ClassFile.FieldType.char)) ∈ lw_all := all_mem 497 (by decide +kernel) (by decide +kernel)
theorem q496 : (Jvm.Cond.static ({ cls := "java/lang/Character", name := "lowSurrogate", desc := "(I)C" } : Jvm.MethodName)) ∈ lw_all := all_mem 496 (by decide +kernel) (by decide +kernel)
theorem q495 : (Jvm.Cond.methodLink "java/lang/StringUTF16" (161 : Nat) ({ cls := "java/lang/Character", name := "lowSurrogate", desc := "(I)C" } : Jvm.MethodName)) ∈ lw_all := all_mem 495 (by decide +kernel) (by decide +kernel)
theorem kS_J2_161 : CWS RJ2 161 yJ11_lowSurrogate_5068e cJ11_lowSurrogate_5068e 1 (some .char) 1 := cws_mk q495 q496 q13 q497 ⟨by decide +kernel, by decide +kernel, by decide +kernel⟩
theorem q523 : (Jvm.Cond.code ({ cls := "java/lang/StringUTF16", name := "checkIndex", desc := "(I[B)V" } : Jvm.MethodName) prog_13_method_91_code (2 : Nat) (Option.none : Option Jvm.ClassFile.FieldType)) ∈ lw_all := all_mem 523 (by decide +kernel) (by decide +kernel)
theorem q522 : (Jvm.Cond.static ({ cls := "java/lang/StringUTF16", name := "checkIndex", desc := "(I[B)V" } : Jvm.MethodName)) ∈ lw_all := all_mem 522 (by decide +kernel) (by decide +kernel)
theorem q521 : (Jvm.Cond.methodLink "java/lang/StringUTF16" (67 : Nat) ({ cls := "java/lang/StringUTF16", name := "checkIndex", desc := "(I[B)V" } : Jvm.MethodName)) ∈ lw_all := all_mem 521 (by decide +kernel) (by decide +kernel)
theorem kS_J2_67 : CWS RJ2 67 yJ2_checkIndex_2214a cJ2_checkIndex_2214a 2 (none) 2 := cws_mk q521 q522 q11 q523 ⟨by decide +kernel, by decide +kernel, by decide +kernel⟩
theorem q524 : (Jvm.Cond.methodLink "java/lang/StringUTF16" (414 : Nat) ({ cls := "java/lang/String", name := "checkIndex", desc := "(II)V" } : Jvm.MethodName)) ∈ lw_all := all_mem 524 (by decide +kernel) (by decide +kernel)
theorem kS_J2_414 : CWS RJ2 414 yJ0_checkIndex_df160 cJ0_checkIndex_df160 2 (none) 2 := cws_mk q524 q513 q8 q514 ⟨by decide +kernel, by decide +kernel, by decide +kernel⟩
theorem q467 : (Jvm.Cond.code ({ cls := "java/lang/String", name := "checkBoundsBeginEnd", desc := "(III)V" } : Jvm.MethodName) prog_11_method_158_code (3 : Nat) (Option.none : Option Jvm.ClassFile.FieldType)) ∈ lw_all := all_mem 467 (by decide +kernel) (by decide +kernel)
theorem q466 : (Jvm.Cond.static ({ cls := "java/lang/String", name := "checkBoundsBeginEnd", desc := "(III)V" } : Jvm.MethodName)) ∈ lw_all := all_mem 466 (by decide +kernel) (by decide +kernel)
theorem q465 : (Jvm.Cond.methodLink "java/lang/StringUTF16" (241 : Nat) ({ cls := "java/lang/String", name := "checkBoundsBeginEnd", desc := "(III)V" } : Jvm.MethodName)) ∈ lw_all := all_mem 465 (by decide +kernel) (by decide +kernel)
theorem kS_J2_241 : CWS RJ2 241 yJ0_checkBoundsBeginEnd_23922 cJ0_checkBoundsBeginEnd_23922 3 (none) 3 := cws_mk q465 q466 q8 q467 ⟨by decide +kernel, by decide +kernel, by decide +kernel⟩
theorem q18 : (Jvm.Cond.code ({ cls := "TideBoats", name := "<init>", desc := "()V" } : Jvm.MethodName) prog_1_method_1_code (1 : Nat) (Option.none : Option Jvm.ClassFile.FieldType)) ∈ lw_all := all_mem 18 (by decide +kernel) (by decide +kernel)
theorem q17 : (Jvm.Cond.instanceMethod ({ cls := "TideBoats", name := "<init>", desc := "()V" } : Jvm.MethodName)) ∈ lw_all := all_mem 17 (by decide +kernel) (by decide +kernel)
theorem q16 : (Jvm.Cond.methodLink "TideBoatsLaw" (9 : Nat) ({ cls := "TideBoats", name := "<init>", desc := "()V" } : Jvm.MethodName)) ∈ lw_all := all_mem 16 (by decide +kernel) (by decide +kernel)
theorem kI_L_9 : CWI RL 9 yX5_init cX5_init 1 0 := ⟨q16, q17, q1, q18, rfl, ⟨by decide +kernel, by decide +kernel, by decide +kernel⟩⟩
theorem q755 : (Jvm.Cond.code ({ cls := "TideBoatsModel", name := "<init>", desc := "()V" } : Jvm.MethodName) prog_8_method_1_code (2 : Nat) (Option.none : Option Jvm.ClassFile.FieldType)) ∈ lw_all := all_mem 755 (by decide +kernel) (by decide +kernel)
theorem q754 : (Jvm.Cond.instanceMethod ({ cls := "TideBoatsModel", name := "<init>", desc := "()V" } : Jvm.MethodName)) ∈ lw_all := all_mem 754 (by decide +kernel) (by decide +kernel)
theorem q753 : (Jvm.Cond.methodLink "TideBoatsLaw" (12 : Nat) ({ cls := "TideBoatsModel", name := "<init>", desc := "()V" } : Jvm.MethodName)) ∈ lw_all := all_mem 753 (by decide +kernel) (by decide +kernel)
theorem kI_L_12 : CWI RL 12 yX6_init cX6_init 2 0 := ⟨q753, q754, q7, q755, rfl, ⟨by decide +kernel, by decide +kernel, by decide +kernel⟩⟩
theorem q207 : (Jvm.Cond.code ({ cls := "TideBoats", name := "sand", desc := "(IIZ)I" } : Jvm.MethodName) prog_1_method_2_code (4 : Nat) (Option.some Jvm.ClassFile.FieldType.int)) ∈ lw_all := all_mem 207 (by decide +kernel) (by decide +kernel)
theorem q204 : (Jvm.Cond.methodLink "TideBoatsLaw" (13 : Nat) ({ cls := "TideBoats", name := "sand", desc := "(IIZ)I" } : Jvm.MethodName)) ∈ lw_all := all_mem 204 (by decide +kernel) (by decide +kernel)
theorem q205 : (Jvm.Cond.instanceMethod ({ cls := "TideBoats", name := "sand", desc := "(IIZ)I" } : Jvm.MethodName)) ∈ lw_all := all_mem 205 (by decide +kernel) (by decide +kernel)
theorem q206 : (Jvm.Cond.selects "TideBoats" ({ cls := "TideBoats", name := "sand", desc := "(IIZ)I" } : Jvm.MethodName) ({ cls := "TideBoats", name := "sand", desc := "(IIZ)I" } : Jvm.MethodName)) ∈ lw_all := all_mem 206 (by decide +kernel) (by decide +kernel)
theorem kV_L_13 : CWV RL 13 RX5 yX5_sand cX5_sand 4 (some .int) 3 := cwv_mk q204 q205 q206 q1 q207 ⟨rfl, ⟨by decide +kernel, by decide +kernel, by decide +kernel⟩⟩
theorem q795 : (Jvm.Cond.code ({ cls := "TideBoatsModel", name := "sand", desc := "(IIZ)I" } : Jvm.MethodName) prog_8_method_32_code (4 : Nat) (Option.some Jvm.ClassFile.FieldType.int)) ∈ lw_all := all_mem 795 (by decide +kernel) (by decide +kernel)
theorem q792 : (Jvm.Cond.methodLink "TideBoatsLaw" (17 : Nat) ({ cls := "TideBoatsModel", name := "sand", desc := "(IIZ)I" } : Jvm.MethodName)) ∈ lw_all := all_mem 792 (by decide +kernel) (by decide +kernel)
theorem q793 : (Jvm.Cond.instanceMethod ({ cls := "TideBoatsModel", name := "sand", desc := "(IIZ)I" } : Jvm.MethodName)) ∈ lw_all := all_mem 793 (by decide +kernel) (by decide +kernel)
theorem q794 : (Jvm.Cond.selects "TideBoatsModel" ({ cls := "TideBoatsModel", name := "sand", desc := "(IIZ)I" } : Jvm.MethodName) ({ cls := "TideBoatsModel", name := "sand", desc := "(IIZ)I" } : Jvm.MethodName)) ∈ lw_all := all_mem 794 (by decide +kernel) (by decide +kernel)
theorem kV_L_17 : CWV RL 17 RX6 yX6_sand cX6_sand 4 (some .int) 3 := cwv_mk q792 q793 q794 q7 q795 ⟨rfl, ⟨by decide +kernel, by decide +kernel, by decide +kernel⟩⟩
theorem q247 : (Jvm.Cond.code ({ cls := "TideBoats", name := "boat", desc := "(III)I" } : Jvm.MethodName) prog_1_method_3_code (4 : Nat) (Option.some Jvm.ClassFile.FieldType.int)) ∈ lw_all := all_mem 247 (by decide +kernel) (by decide +kernel)
theorem q244 : (Jvm.Cond.methodLink "TideBoatsLaw" (18 : Nat) ({ cls := "TideBoats", name := "boat", desc := "(III)I" } : Jvm.MethodName)) ∈ lw_all := all_mem 244 (by decide +kernel) (by decide +kernel)
theorem q245 : (Jvm.Cond.instanceMethod ({ cls := "TideBoats", name := "boat", desc := "(III)I" } : Jvm.MethodName)) ∈ lw_all := all_mem 245 (by decide +kernel) (by decide +kernel)
theorem q246 : (Jvm.Cond.selects "TideBoats" ({ cls := "TideBoats", name := "boat", desc := "(III)I" } : Jvm.MethodName) ({ cls := "TideBoats", name := "boat", desc := "(III)I" } : Jvm.MethodName)) ∈ lw_all := all_mem 246 (by decide +kernel) (by decide +kernel)
theorem kV_L_18 : CWV RL 18 RX5 yX5_boat cX5_boat 4 (some .int) 3 := cwv_mk q244 q245 q246 q1 q247 ⟨rfl, ⟨by decide +kernel, by decide +kernel, by decide +kernel⟩⟩
theorem q821 : (Jvm.Cond.code ({ cls := "TideBoatsModel", name := "boat", desc := "(III)I" } : Jvm.MethodName) prog_8_method_33_code (4 : Nat) (Option.some Jvm.ClassFile.FieldType.int)) ∈ lw_all := all_mem 821 (by decide +kernel) (by decide +kernel)
theorem q818 : (Jvm.Cond.methodLink "TideBoatsLaw" (22 : Nat) ({ cls := "TideBoatsModel", name := "boat", desc := "(III)I" } : Jvm.MethodName)) ∈ lw_all := all_mem 818 (by decide +kernel) (by decide +kernel)
theorem q819 : (Jvm.Cond.instanceMethod ({ cls := "TideBoatsModel", name := "boat", desc := "(III)I" } : Jvm.MethodName)) ∈ lw_all := all_mem 819 (by decide +kernel) (by decide +kernel)
theorem q820 : (Jvm.Cond.selects "TideBoatsModel" ({ cls := "TideBoatsModel", name := "boat", desc := "(III)I" } : Jvm.MethodName) ({ cls := "TideBoatsModel", name := "boat", desc := "(III)I" } : Jvm.MethodName)) ∈ lw_all := all_mem 820 (by decide +kernel) (by decide +kernel)
theorem kV_L_22 : CWV RL 22 RX6 yX6_boat cX6_boat 4 (some .int) 3 := cwv_mk q818 q819 q820 q7 q821 ⟨rfl, ⟨by decide +kernel, by decide +kernel, by decide +kernel⟩⟩
theorem q266 : (Jvm.Cond.code ({ cls := "TideBoats", name := "set", desc := "(II)I" } : Jvm.MethodName) prog_1_method_4_code (3 : Nat) (Option.some Jvm.ClassFile.FieldType.int)) ∈ lw_all := all_mem 266 (by decide +kernel) (by decide +kernel)
theorem q263 : (Jvm.Cond.methodLink "TideBoatsLaw" (23 : Nat) ({ cls := "TideBoats", name := "set", desc := "(II)I" } : Jvm.MethodName)) ∈ lw_all := all_mem 263 (by decide +kernel) (by decide +kernel)
theorem q264 : (Jvm.Cond.instanceMethod ({ cls := "TideBoats", name := "set", desc := "(II)I" } : Jvm.MethodName)) ∈ lw_all := all_mem 264 (by decide +kernel) (by decide +kernel)
theorem q265 : (Jvm.Cond.selects "TideBoats" ({ cls := "TideBoats", name := "set", desc := "(II)I" } : Jvm.MethodName) ({ cls := "TideBoats", name := "set", desc := "(II)I" } : Jvm.MethodName)) ∈ lw_all := all_mem 265 (by decide +kernel) (by decide +kernel)
theorem kV_L_23 : CWV RL 23 RX5 yX5_set cX5_set 3 (some .int) 2 := cwv_mk q263 q264 q265 q1 q266 ⟨rfl, ⟨by decide +kernel, by decide +kernel, by decide +kernel⟩⟩
theorem q840 : (Jvm.Cond.code ({ cls := "TideBoatsModel", name := "set", desc := "(II)I" } : Jvm.MethodName) prog_8_method_34_code (5 : Nat) (Option.some Jvm.ClassFile.FieldType.int)) ∈ lw_all := all_mem 840 (by decide +kernel) (by decide +kernel)
theorem q837 : (Jvm.Cond.methodLink "TideBoatsLaw" (27 : Nat) ({ cls := "TideBoatsModel", name := "set", desc := "(II)I" } : Jvm.MethodName)) ∈ lw_all := all_mem 837 (by decide +kernel) (by decide +kernel)
theorem q838 : (Jvm.Cond.instanceMethod ({ cls := "TideBoatsModel", name := "set", desc := "(II)I" } : Jvm.MethodName)) ∈ lw_all := all_mem 838 (by decide +kernel) (by decide +kernel)
theorem q839 : (Jvm.Cond.selects "TideBoatsModel" ({ cls := "TideBoatsModel", name := "set", desc := "(II)I" } : Jvm.MethodName) ({ cls := "TideBoatsModel", name := "set", desc := "(II)I" } : Jvm.MethodName)) ∈ lw_all := all_mem 839 (by decide +kernel) (by decide +kernel)
theorem kV_L_27 : CWV RL 27 RX6 yX6_set cX6_set 5 (some .int) 2 := cwv_mk q837 q838 q839 q7 q840 ⟨rfl, ⟨by decide +kernel, by decide +kernel, by decide +kernel⟩⟩
theorem q286 : (Jvm.Cond.code ({ cls := "TideBoats", name := "move", desc := "(III)I" } : Jvm.MethodName) prog_1_method_5_code (4 : Nat) (Option.some Jvm.ClassFile.FieldType.int)) ∈ lw_all := all_mem 286 (by decide +kernel) (by decide +kernel)
theorem q283 : (Jvm.Cond.methodLink "TideBoatsLaw" (28 : Nat) ({ cls := "TideBoats", name := "move", desc := "(III)I" } : Jvm.MethodName)) ∈ lw_all := all_mem 283 (by decide +kernel) (by decide +kernel)
theorem q284 : (Jvm.Cond.instanceMethod ({ cls := "TideBoats", name := "move", desc := "(III)I" } : Jvm.MethodName)) ∈ lw_all := all_mem 284 (by decide +kernel) (by decide +kernel)
theorem q285 : (Jvm.Cond.selects "TideBoats" ({ cls := "TideBoats", name := "move", desc := "(III)I" } : Jvm.MethodName) ({ cls := "TideBoats", name := "move", desc := "(III)I" } : Jvm.MethodName)) ∈ lw_all := all_mem 285 (by decide +kernel) (by decide +kernel)
theorem kV_L_28 : CWV RL 28 RX5 yX5_move cX5_move 4 (some .int) 3 := cwv_mk q283 q284 q285 q1 q286 ⟨rfl, ⟨by decide +kernel, by decide +kernel, by decide +kernel⟩⟩
theorem q844 : (Jvm.Cond.code ({ cls := "TideBoatsModel", name := "move", desc := "(III)I" } : Jvm.MethodName) prog_8_method_35_code (4 : Nat) (Option.some Jvm.ClassFile.FieldType.int)) ∈ lw_all := all_mem 844 (by decide +kernel) (by decide +kernel)
theorem q841 : (Jvm.Cond.methodLink "TideBoatsLaw" (31 : Nat) ({ cls := "TideBoatsModel", name := "move", desc := "(III)I" } : Jvm.MethodName)) ∈ lw_all := all_mem 841 (by decide +kernel) (by decide +kernel)
theorem q842 : (Jvm.Cond.instanceMethod ({ cls := "TideBoatsModel", name := "move", desc := "(III)I" } : Jvm.MethodName)) ∈ lw_all := all_mem 842 (by decide +kernel) (by decide +kernel)
theorem q843 : (Jvm.Cond.selects "TideBoatsModel" ({ cls := "TideBoatsModel", name := "move", desc := "(III)I" } : Jvm.MethodName) ({ cls := "TideBoatsModel", name := "move", desc := "(III)I" } : Jvm.MethodName)) ∈ lw_all := all_mem 843 (by decide +kernel) (by decide +kernel)
theorem kV_L_31 : CWV RL 31 RX6 yX6_move cX6_move 4 (some .int) 3 := cwv_mk q841 q842 q843 q7 q844 ⟨rfl, ⟨by decide +kernel, by decide +kernel, by decide +kernel⟩⟩
theorem q368 : (Jvm.Cond.code ({ cls := "TideBoats", name := "pause", desc := "()I" } : Jvm.MethodName) prog_1_method_6_code (1 : Nat) (Option.some Jvm.ClassFile.FieldType.int)) ∈ lw_all := all_mem 368 (by decide +kernel) (by decide +kernel)
theorem q365 : (Jvm.Cond.methodLink "TideBoatsLaw" (32 : Nat) ({ cls := "TideBoats", name := "pause", desc := "()I" } : Jvm.MethodName)) ∈ lw_all := all_mem 365 (by decide +kernel) (by decide +kernel)
theorem q366 : (Jvm.Cond.instanceMethod ({ cls := "TideBoats", name := "pause", desc := "()I" } : Jvm.MethodName)) ∈ lw_all := all_mem 366 (by decide +kernel) (by decide +kernel)
theorem q367 : (Jvm.Cond.selects "TideBoats" ({ cls := "TideBoats", name := "pause", desc := "()I" } : Jvm.MethodName) ({ cls := "TideBoats", name := "pause", desc := "()I" } : Jvm.MethodName)) ∈ lw_all := all_mem 367 (by decide +kernel) (by decide +kernel)
theorem kV_L_32 : CWV RL 32 RX5 yX5_pause cX5_pause 1 (some .int) 0 := cwv_mk q365 q366 q367 q1 q368 ⟨rfl, ⟨by decide +kernel, by decide +kernel, by decide +kernel⟩⟩
theorem q917 : (Jvm.Cond.code ({ cls := "TideBoatsModel", name := "pause", desc := "()I" } : Jvm.MethodName) prog_8_method_36_code (1 : Nat) (Option.some Jvm.ClassFile.FieldType.int)) ∈ lw_all := all_mem 917 (by decide +kernel) (by decide +kernel)
theorem q914 : (Jvm.Cond.methodLink "TideBoatsLaw" (36 : Nat) ({ cls := "TideBoatsModel", name := "pause", desc := "()I" } : Jvm.MethodName)) ∈ lw_all := all_mem 914 (by decide +kernel) (by decide +kernel)
theorem q915 : (Jvm.Cond.instanceMethod ({ cls := "TideBoatsModel", name := "pause", desc := "()I" } : Jvm.MethodName)) ∈ lw_all := all_mem 915 (by decide +kernel) (by decide +kernel)
theorem q916 : (Jvm.Cond.selects "TideBoatsModel" ({ cls := "TideBoatsModel", name := "pause", desc := "()I" } : Jvm.MethodName) ({ cls := "TideBoatsModel", name := "pause", desc := "()I" } : Jvm.MethodName)) ∈ lw_all := all_mem 916 (by decide +kernel) (by decide +kernel)
theorem kV_L_36 : CWV RL 36 RX6 yX6_pause cX6_pause 1 (some .int) 0 := cwv_mk q914 q915 q916 q7 q917 ⟨rfl, ⟨by decide +kernel, by decide +kernel, by decide +kernel⟩⟩
theorem q377 : (Jvm.Cond.code ({ cls := "TideBoats", name := "type", desc := "(C)I" } : Jvm.MethodName) prog_1_method_7_code (2 : Nat) (Option.some Jvm.ClassFile.FieldType.int)) ∈ lw_all := all_mem 377 (by decide +kernel) (by decide +kernel)
theorem q374 : (Jvm.Cond.methodLink "TideBoatsLaw" (37 : Nat) ({ cls := "TideBoats", name := "type", desc := "(C)I" } : Jvm.MethodName)) ∈ lw_all := all_mem 374 (by decide +kernel) (by decide +kernel)
theorem q375 : (Jvm.Cond.instanceMethod ({ cls := "TideBoats", name := "type", desc := "(C)I" } : Jvm.MethodName)) ∈ lw_all := all_mem 375 (by decide +kernel) (by decide +kernel)
theorem q376 : (Jvm.Cond.selects "TideBoats" ({ cls := "TideBoats", name := "type", desc := "(C)I" } : Jvm.MethodName) ({ cls := "TideBoats", name := "type", desc := "(C)I" } : Jvm.MethodName)) ∈ lw_all := all_mem 376 (by decide +kernel) (by decide +kernel)
theorem kV_L_37 : CWV RL 37 RX5 yX5_type cX5_type 2 (some .int) 1 := cwv_mk q374 q375 q376 q1 q377 ⟨rfl, ⟨by decide +kernel, by decide +kernel, by decide +kernel⟩⟩
theorem q925 : (Jvm.Cond.code ({ cls := "TideBoatsModel", name := "type", desc := "(C)I" } : Jvm.MethodName) prog_8_method_37_code (2 : Nat) (Option.some Jvm.ClassFile.FieldType.int)) ∈ lw_all := all_mem 925 (by decide +kernel) (by decide +kernel)
theorem q922 : (Jvm.Cond.methodLink "TideBoatsLaw" (41 : Nat) ({ cls := "TideBoatsModel", name := "type", desc := "(C)I" } : Jvm.MethodName)) ∈ lw_all := all_mem 922 (by decide +kernel) (by decide +kernel)
theorem q923 : (Jvm.Cond.instanceMethod ({ cls := "TideBoatsModel", name := "type", desc := "(C)I" } : Jvm.MethodName)) ∈ lw_all := all_mem 923 (by decide +kernel) (by decide +kernel)
theorem q924 : (Jvm.Cond.selects "TideBoatsModel" ({ cls := "TideBoatsModel", name := "type", desc := "(C)I" } : Jvm.MethodName) ({ cls := "TideBoatsModel", name := "type", desc := "(C)I" } : Jvm.MethodName)) ∈ lw_all := all_mem 924 (by decide +kernel) (by decide +kernel)
theorem kV_L_41 : CWV RL 41 RX6 yX6_type cX6_type 2 (some .int) 1 := cwv_mk q922 q923 q924 q7 q925 ⟨rfl, ⟨by decide +kernel, by decide +kernel, by decide +kernel⟩⟩
theorem q385 : (Jvm.Cond.code ({ cls := "TideBoats", name := "clearText", desc := "()I" } : Jvm.MethodName) prog_1_method_8_code (1 : Nat) (Option.some Jvm.ClassFile.FieldType.int)) ∈ lw_all := all_mem 385 (by decide +kernel) (by decide +kernel)
theorem q382 : (Jvm.Cond.methodLink "TideBoatsLaw" (42 : Nat) ({ cls := "TideBoats", name := "clearText", desc := "()I" } : Jvm.MethodName)) ∈ lw_all := all_mem 382 (by decide +kernel) (by decide +kernel)
theorem q383 : (Jvm.Cond.instanceMethod ({ cls := "TideBoats", name := "clearText", desc := "()I" } : Jvm.MethodName)) ∈ lw_all := all_mem 383 (by decide +kernel) (by decide +kernel)
theorem q384 : (Jvm.Cond.selects "TideBoats" ({ cls := "TideBoats", name := "clearText", desc := "()I" } : Jvm.MethodName) ({ cls := "TideBoats", name := "clearText", desc := "()I" } : Jvm.MethodName)) ∈ lw_all := all_mem 384 (by decide +kernel) (by decide +kernel)
theorem kV_L_42 : CWV RL 42 RX5 yX5_clearText cX5_clearText 1 (some .int) 0 := cwv_mk q382 q383 q384 q1 q385 ⟨rfl, ⟨by decide +kernel, by decide +kernel, by decide +kernel⟩⟩
theorem q929 : (Jvm.Cond.code ({ cls := "TideBoatsModel", name := "clearText", desc := "()I" } : Jvm.MethodName) prog_8_method_38_code (2 : Nat) (Option.some Jvm.ClassFile.FieldType.int)) ∈ lw_all := all_mem 929 (by decide +kernel) (by decide +kernel)
theorem q926 : (Jvm.Cond.methodLink "TideBoatsLaw" (45 : Nat) ({ cls := "TideBoatsModel", name := "clearText", desc := "()I" } : Jvm.MethodName)) ∈ lw_all := all_mem 926 (by decide +kernel) (by decide +kernel)
theorem q927 : (Jvm.Cond.instanceMethod ({ cls := "TideBoatsModel", name := "clearText", desc := "()I" } : Jvm.MethodName)) ∈ lw_all := all_mem 927 (by decide +kernel) (by decide +kernel)
theorem q928 : (Jvm.Cond.selects "TideBoatsModel" ({ cls := "TideBoatsModel", name := "clearText", desc := "()I" } : Jvm.MethodName) ({ cls := "TideBoatsModel", name := "clearText", desc := "()I" } : Jvm.MethodName)) ∈ lw_all := all_mem 928 (by decide +kernel) (by decide +kernel)
theorem kV_L_45 : CWV RL 45 RX6 yX6_clearText cX6_clearText 2 (some .int) 0 := cwv_mk q926 q927 q928 q7 q929 ⟨rfl, ⟨by decide +kernel, by decide +kernel, by decide +kernel⟩⟩
theorem q393 : (Jvm.Cond.code ({ cls := "TideBoats", name := "fault", desc := "()I" } : Jvm.MethodName) prog_1_method_9_code (1 : Nat) (Option.some Jvm.ClassFile.FieldType.int)) ∈ lw_all := all_mem 393 (by decide +kernel) (by decide +kernel)
theorem q390 : (Jvm.Cond.methodLink "TideBoatsLaw" (46 : Nat) ({ cls := "TideBoats", name := "fault", desc := "()I" } : Jvm.MethodName)) ∈ lw_all := all_mem 390 (by decide +kernel) (by decide +kernel)
theorem q391 : (Jvm.Cond.instanceMethod ({ cls := "TideBoats", name := "fault", desc := "()I" } : Jvm.MethodName)) ∈ lw_all := all_mem 391 (by decide +kernel) (by decide +kernel)
theorem q392 : (Jvm.Cond.selects "TideBoats" ({ cls := "TideBoats", name := "fault", desc := "()I" } : Jvm.MethodName) ({ cls := "TideBoats", name := "fault", desc := "()I" } : Jvm.MethodName)) ∈ lw_all := all_mem 392 (by decide +kernel) (by decide +kernel)
theorem kV_L_46 : CWV RL 46 RX5 yX5_fault cX5_fault 1 (some .int) 0 := cwv_mk q390 q391 q392 q1 q393 ⟨rfl, ⟨by decide +kernel, by decide +kernel, by decide +kernel⟩⟩
theorem q930 : (Jvm.Cond.methodLink "TideBoatsLaw" (49 : Nat) ({ cls := "TideBoatsModel", name := "fault", desc := "()I" } : Jvm.MethodName)) ∈ lw_all := all_mem 930 (by decide +kernel) (by decide +kernel)
theorem kV_L_49 : CWV RL 49 RX6 yX6_fault cX6_fault 4 (some .int) 0 := cwv_mk q930 q931 q932 q7 q933 ⟨rfl, ⟨by decide +kernel, by decide +kernel, by decide +kernel⟩⟩
theorem q549 : (Jvm.Cond.code ({ cls := "TideBoats", name := "doAll", desc := "()I" } : Jvm.MethodName) prog_1_method_10_code (6 : Nat) (Option.some Jvm.ClassFile.FieldType.int)) ∈ lw_all := all_mem 549 (by decide +kernel) (by decide +kernel)
theorem q546 : (Jvm.Cond.methodLink "TideBoatsLaw" (50 : Nat) ({ cls := "TideBoats", name := "doAll", desc := "()I" } : Jvm.MethodName)) ∈ lw_all := all_mem 546 (by decide +kernel) (by decide +kernel)
theorem q547 : (Jvm.Cond.instanceMethod ({ cls := "TideBoats", name := "doAll", desc := "()I" } : Jvm.MethodName)) ∈ lw_all := all_mem 547 (by decide +kernel) (by decide +kernel)
theorem q548 : (Jvm.Cond.selects "TideBoats" ({ cls := "TideBoats", name := "doAll", desc := "()I" } : Jvm.MethodName) ({ cls := "TideBoats", name := "doAll", desc := "()I" } : Jvm.MethodName)) ∈ lw_all := all_mem 548 (by decide +kernel) (by decide +kernel)
theorem kV_L_50 : CWV RL 50 RX5 yX5_doAll cX5_doAll 6 (some .int) 0 := cwv_mk q546 q547 q548 q1 q549 ⟨rfl, ⟨by decide +kernel, by decide +kernel, by decide +kernel⟩⟩
theorem q961 : (Jvm.Cond.code ({ cls := "TideBoatsModel", name := "doAll", desc := "()I" } : Jvm.MethodName) prog_8_method_48_code (5 : Nat) (Option.some Jvm.ClassFile.FieldType.int)) ∈ lw_all := all_mem 961 (by decide +kernel) (by decide +kernel)
theorem q958 : (Jvm.Cond.methodLink "TideBoatsLaw" (53 : Nat) ({ cls := "TideBoatsModel", name := "doAll", desc := "()I" } : Jvm.MethodName)) ∈ lw_all := all_mem 958 (by decide +kernel) (by decide +kernel)
theorem q959 : (Jvm.Cond.instanceMethod ({ cls := "TideBoatsModel", name := "doAll", desc := "()I" } : Jvm.MethodName)) ∈ lw_all := all_mem 959 (by decide +kernel) (by decide +kernel)
theorem q960 : (Jvm.Cond.selects "TideBoatsModel" ({ cls := "TideBoatsModel", name := "doAll", desc := "()I" } : Jvm.MethodName) ({ cls := "TideBoatsModel", name := "doAll", desc := "()I" } : Jvm.MethodName)) ∈ lw_all := all_mem 960 (by decide +kernel) (by decide +kernel)
theorem kV_L_53 : CWV RL 53 RX6 yX6_doAll cX6_doAll 5 (some .int) 0 := cwv_mk q958 q959 q960 q7 q961 ⟨rfl, ⟨by decide +kernel, by decide +kernel, by decide +kernel⟩⟩
theorem q589 : (Jvm.Cond.code ({ cls := "TideBoats", name := "undo", desc := "()I" } : Jvm.MethodName) prog_1_method_11_code (1 : Nat) (Option.some Jvm.ClassFile.FieldType.int)) ∈ lw_all := all_mem 589 (by decide +kernel) (by decide +kernel)
theorem q586 : (Jvm.Cond.methodLink "TideBoatsLaw" (54 : Nat) ({ cls := "TideBoats", name := "undo", desc := "()I" } : Jvm.MethodName)) ∈ lw_all := all_mem 586 (by decide +kernel) (by decide +kernel)
theorem q587 : (Jvm.Cond.instanceMethod ({ cls := "TideBoats", name := "undo", desc := "()I" } : Jvm.MethodName)) ∈ lw_all := all_mem 587 (by decide +kernel) (by decide +kernel)
theorem q588 : (Jvm.Cond.selects "TideBoats" ({ cls := "TideBoats", name := "undo", desc := "()I" } : Jvm.MethodName) ({ cls := "TideBoats", name := "undo", desc := "()I" } : Jvm.MethodName)) ∈ lw_all := all_mem 588 (by decide +kernel) (by decide +kernel)
theorem kV_L_54 : CWV RL 54 RX5 yX5_undo cX5_undo 1 (some .int) 0 := cwv_mk q586 q587 q588 q1 q589 ⟨rfl, ⟨by decide +kernel, by decide +kernel, by decide +kernel⟩⟩
theorem q974 : (Jvm.Cond.code ({ cls := "TideBoatsModel", name := "undo", desc := "()I" } : Jvm.MethodName) prog_8_method_49_code (2 : Nat) (Option.some Jvm.ClassFile.FieldType.int)) ∈ lw_all := all_mem 974 (by decide +kernel) (by decide +kernel)
theorem q971 : (Jvm.Cond.methodLink "TideBoatsLaw" (57 : Nat) ({ cls := "TideBoatsModel", name := "undo", desc := "()I" } : Jvm.MethodName)) ∈ lw_all := all_mem 971 (by decide +kernel) (by decide +kernel)
theorem q972 : (Jvm.Cond.instanceMethod ({ cls := "TideBoatsModel", name := "undo", desc := "()I" } : Jvm.MethodName)) ∈ lw_all := all_mem 972 (by decide +kernel) (by decide +kernel)
theorem q973 : (Jvm.Cond.selects "TideBoatsModel" ({ cls := "TideBoatsModel", name := "undo", desc := "()I" } : Jvm.MethodName) ({ cls := "TideBoatsModel", name := "undo", desc := "()I" } : Jvm.MethodName)) ∈ lw_all := all_mem 973 (by decide +kernel) (by decide +kernel)
theorem kV_L_57 : CWV RL 57 RX6 yX6_undo cX6_undo 2 (some .int) 0 := cwv_mk q971 q972 q973 q7 q974 ⟨rfl, ⟨by decide +kernel, by decide +kernel, by decide +kernel⟩⟩
theorem q597 : (Jvm.Cond.code ({ cls := "TideBoats", name := "keep", desc := "()I" } : Jvm.MethodName) prog_1_method_12_code (1 : Nat) (Option.some Jvm.ClassFile.FieldType.int)) ∈ lw_all := all_mem 597 (by decide +kernel) (by decide +kernel)
theorem q594 : (Jvm.Cond.methodLink "TideBoatsLaw" (58 : Nat) ({ cls := "TideBoats", name := "keep", desc := "()I" } : Jvm.MethodName)) ∈ lw_all := all_mem 594 (by decide +kernel) (by decide +kernel)
theorem q595 : (Jvm.Cond.instanceMethod ({ cls := "TideBoats", name := "keep", desc := "()I" } : Jvm.MethodName)) ∈ lw_all := all_mem 595 (by decide +kernel) (by decide +kernel)
theorem q596 : (Jvm.Cond.selects "TideBoats" ({ cls := "TideBoats", name := "keep", desc := "()I" } : Jvm.MethodName) ({ cls := "TideBoats", name := "keep", desc := "()I" } : Jvm.MethodName)) ∈ lw_all := all_mem 596 (by decide +kernel) (by decide +kernel)
theorem kV_L_58 : CWV RL 58 RX5 yX5_keep cX5_keep 1 (some .int) 0 := cwv_mk q594 q595 q596 q1 q597 ⟨rfl, ⟨by decide +kernel, by decide +kernel, by decide +kernel⟩⟩
theorem q978 : (Jvm.Cond.code ({ cls := "TideBoatsModel", name := "keep", desc := "()I" } : Jvm.MethodName) prog_8_method_50_code (2 : Nat) (Option.some Jvm.ClassFile.FieldType.int)) ∈ lw_all := all_mem 978 (by decide +kernel) (by decide +kernel)
theorem q975 : (Jvm.Cond.methodLink "TideBoatsLaw" (61 : Nat) ({ cls := "TideBoatsModel", name := "keep", desc := "()I" } : Jvm.MethodName)) ∈ lw_all := all_mem 975 (by decide +kernel) (by decide +kernel)
theorem q976 : (Jvm.Cond.instanceMethod ({ cls := "TideBoatsModel", name := "keep", desc := "()I" } : Jvm.MethodName)) ∈ lw_all := all_mem 976 (by decide +kernel) (by decide +kernel)
theorem q977 : (Jvm.Cond.selects "TideBoatsModel" ({ cls := "TideBoatsModel", name := "keep", desc := "()I" } : Jvm.MethodName) ({ cls := "TideBoatsModel", name := "keep", desc := "()I" } : Jvm.MethodName)) ∈ lw_all := all_mem 977 (by decide +kernel) (by decide +kernel)
theorem kV_L_61 : CWV RL 61 RX6 yX6_keep cX6_keep 2 (some .int) 0 := cwv_mk q975 q976 q977 q7 q978 ⟨rfl, ⟨by decide +kernel, by decide +kernel, by decide +kernel⟩⟩
theorem q605 : (Jvm.Cond.code ({ cls := "TideBoats", name := "restore", desc := "()I" } : Jvm.MethodName) prog_1_method_13_code (1 : Nat) (Option.some Jvm.ClassFile.FieldType.int)) ∈ lw_all := all_mem 605 (by decide +kernel) (by decide +kernel)
theorem q602 : (Jvm.Cond.methodLink "TideBoatsLaw" (62 : Nat) ({ cls := "TideBoats", name := "restore", desc := "()I" } : Jvm.MethodName)) ∈ lw_all := all_mem 602 (by decide +kernel) (by decide +kernel)
theorem q603 : (Jvm.Cond.instanceMethod ({ cls := "TideBoats", name := "restore", desc := "()I" } : Jvm.MethodName)) ∈ lw_all := all_mem 603 (by decide +kernel) (by decide +kernel)
theorem q604 : (Jvm.Cond.selects "TideBoats" ({ cls := "TideBoats", name := "restore", desc := "()I" } : Jvm.MethodName) ({ cls := "TideBoats", name := "restore", desc := "()I" } : Jvm.MethodName)) ∈ lw_all := all_mem 604 (by decide +kernel) (by decide +kernel)
theorem kV_L_62 : CWV RL 62 RX5 yX5_restore cX5_restore 1 (some .int) 0 := cwv_mk q602 q603 q604 q1 q605 ⟨rfl, ⟨by decide +kernel, by decide +kernel, by decide +kernel⟩⟩
theorem q982 : (Jvm.Cond.code ({ cls := "TideBoatsModel", name := "restore", desc := "()I" } : Jvm.MethodName) prog_8_method_51_code (2 : Nat) (Option.some Jvm.ClassFile.FieldType.int)) ∈ lw_all := all_mem 982 (by decide +kernel) (by decide +kernel)
theorem q979 : (Jvm.Cond.methodLink "TideBoatsLaw" (65 : Nat) ({ cls := "TideBoatsModel", name := "restore", desc := "()I" } : Jvm.MethodName)) ∈ lw_all := all_mem 979 (by decide +kernel) (by decide +kernel)
theorem q980 : (Jvm.Cond.instanceMethod ({ cls := "TideBoatsModel", name := "restore", desc := "()I" } : Jvm.MethodName)) ∈ lw_all := all_mem 980 (by decide +kernel) (by decide +kernel)
theorem q981 : (Jvm.Cond.selects "TideBoatsModel" ({ cls := "TideBoatsModel", name := "restore", desc := "()I" } : Jvm.MethodName) ({ cls := "TideBoatsModel", name := "restore", desc := "()I" } : Jvm.MethodName)) ∈ lw_all := all_mem 981 (by decide +kernel) (by decide +kernel)
theorem kV_L_65 : CWV RL 65 RX6 yX6_restore cX6_restore 2 (some .int) 0 := cwv_mk q979 q980 q981 q7 q982 ⟨rfl, ⟨by decide +kernel, by decide +kernel, by decide +kernel⟩⟩
theorem q613 : (Jvm.Cond.code ({ cls := "TideBoats", name := "cellOf", desc := "(II)I" } : Jvm.MethodName) prog_1_method_14_code (3 : Nat) (Option.some Jvm.ClassFile.FieldType.int)) ∈ lw_all := all_mem 613 (by decide +kernel) (by decide +kernel)
theorem q610 : (Jvm.Cond.methodLink "TideBoatsLaw" (66 : Nat) ({ cls := "TideBoats", name := "cellOf", desc := "(II)I" } : Jvm.MethodName)) ∈ lw_all := all_mem 610 (by decide +kernel) (by decide +kernel)
theorem q611 : (Jvm.Cond.instanceMethod ({ cls := "TideBoats", name := "cellOf", desc := "(II)I" } : Jvm.MethodName)) ∈ lw_all := all_mem 611 (by decide +kernel) (by decide +kernel)
theorem q612 : (Jvm.Cond.selects "TideBoats" ({ cls := "TideBoats", name := "cellOf", desc := "(II)I" } : Jvm.MethodName) ({ cls := "TideBoats", name := "cellOf", desc := "(II)I" } : Jvm.MethodName)) ∈ lw_all := all_mem 612 (by decide +kernel) (by decide +kernel)
theorem kV_L_66 : CWV RL 66 RX5 yX5_cellOf cX5_cellOf 3 (some .int) 2 := cwv_mk q610 q611 q612 q1 q613 ⟨rfl, ⟨by decide +kernel, by decide +kernel, by decide +kernel⟩⟩
theorem q986 : (Jvm.Cond.code ({ cls := "TideBoatsModel", name := "cellOf", desc := "(II)I" } : Jvm.MethodName) prog_8_method_52_code (3 : Nat) (Option.some Jvm.ClassFile.FieldType.int)) ∈ lw_all := all_mem 986 (by decide +kernel) (by decide +kernel)
theorem q983 : (Jvm.Cond.methodLink "TideBoatsLaw" (69 : Nat) ({ cls := "TideBoatsModel", name := "cellOf", desc := "(II)I" } : Jvm.MethodName)) ∈ lw_all := all_mem 983 (by decide +kernel) (by decide +kernel)
theorem q984 : (Jvm.Cond.instanceMethod ({ cls := "TideBoatsModel", name := "cellOf", desc := "(II)I" } : Jvm.MethodName)) ∈ lw_all := all_mem 984 (by decide +kernel) (by decide +kernel)
theorem q985 : (Jvm.Cond.selects "TideBoatsModel" ({ cls := "TideBoatsModel", name := "cellOf", desc := "(II)I" } : Jvm.MethodName) ({ cls := "TideBoatsModel", name := "cellOf", desc := "(II)I" } : Jvm.MethodName)) ∈ lw_all := all_mem 985 (by decide +kernel) (by decide +kernel)
theorem kV_L_69 : CWV RL 69 RX6 yX6_cellOf cX6_cellOf 3 (some .int) 2 := cwv_mk q983 q984 q985 q7 q986 ⟨rfl, ⟨by decide +kernel, by decide +kernel, by decide +kernel⟩⟩
theorem q624 : (Jvm.Cond.code ({ cls := "TideBoats", name := "boatOf", desc := "(II)I" } : Jvm.MethodName) prog_1_method_15_code (3 : Nat) (Option.some Jvm.ClassFile.FieldType.int)) ∈ lw_all := all_mem 624 (by decide +kernel) (by decide +kernel)
theorem q621 : (Jvm.Cond.methodLink "TideBoatsLaw" (70 : Nat) ({ cls := "TideBoats", name := "boatOf", desc := "(II)I" } : Jvm.MethodName)) ∈ lw_all := all_mem 621 (by decide +kernel) (by decide +kernel)
theorem q622 : (Jvm.Cond.instanceMethod ({ cls := "TideBoats", name := "boatOf", desc := "(II)I" } : Jvm.MethodName)) ∈ lw_all := all_mem 622 (by decide +kernel) (by decide +kernel)
theorem q623 : (Jvm.Cond.selects "TideBoats" ({ cls := "TideBoats", name := "boatOf", desc := "(II)I" } : Jvm.MethodName) ({ cls := "TideBoats", name := "boatOf", desc := "(II)I" } : Jvm.MethodName)) ∈ lw_all := all_mem 623 (by decide +kernel) (by decide +kernel)
theorem kV_L_70 : CWV RL 70 RX5 yX5_boatOf cX5_boatOf 3 (some .int) 2 := cwv_mk q621 q622 q623 q1 q624 ⟨rfl, ⟨by decide +kernel, by decide +kernel, by decide +kernel⟩⟩
theorem q990 : (Jvm.Cond.code ({ cls := "TideBoatsModel", name := "boatOf", desc := "(II)I" } : Jvm.MethodName) prog_8_method_54_code (3 : Nat) (Option.some Jvm.ClassFile.FieldType.int)) ∈ lw_all := all_mem 990 (by decide +kernel) (by decide +kernel)
theorem q987 : (Jvm.Cond.methodLink "TideBoatsLaw" (73 : Nat) ({ cls := "TideBoatsModel", name := "boatOf", desc := "(II)I" } : Jvm.MethodName)) ∈ lw_all := all_mem 987 (by decide +kernel) (by decide +kernel)
theorem q988 : (Jvm.Cond.instanceMethod ({ cls := "TideBoatsModel", name := "boatOf", desc := "(II)I" } : Jvm.MethodName)) ∈ lw_all := all_mem 988 (by decide +kernel) (by decide +kernel)
theorem q989 : (Jvm.Cond.selects "TideBoatsModel" ({ cls := "TideBoatsModel", name := "boatOf", desc := "(II)I" } : Jvm.MethodName) ({ cls := "TideBoatsModel", name := "boatOf", desc := "(II)I" } : Jvm.MethodName)) ∈ lw_all := all_mem 989 (by decide +kernel) (by decide +kernel)
theorem kV_L_73 : CWV RL 73 RX6 yX6_boatOf cX6_boatOf 3 (some .int) 2 := cwv_mk q987 q988 q989 q7 q990 ⟨rfl, ⟨by decide +kernel, by decide +kernel, by decide +kernel⟩⟩
theorem q635 : (Jvm.Cond.code ({ cls := "TideBoats", name := "tide", desc := "(I)I" } : Jvm.MethodName) prog_1_method_16_code (2 : Nat) (Option.some Jvm.ClassFile.FieldType.int)) ∈ lw_all := all_mem 635 (by decide +kernel) (by decide +kernel)
theorem q632 : (Jvm.Cond.methodLink "TideBoatsLaw" (74 : Nat) ({ cls := "TideBoats", name := "tide", desc := "(I)I" } : Jvm.MethodName)) ∈ lw_all := all_mem 632 (by decide +kernel) (by decide +kernel)
theorem q633 : (Jvm.Cond.instanceMethod ({ cls := "TideBoats", name := "tide", desc := "(I)I" } : Jvm.MethodName)) ∈ lw_all := all_mem 633 (by decide +kernel) (by decide +kernel)
theorem q634 : (Jvm.Cond.selects "TideBoats" ({ cls := "TideBoats", name := "tide", desc := "(I)I" } : Jvm.MethodName) ({ cls := "TideBoats", name := "tide", desc := "(I)I" } : Jvm.MethodName)) ∈ lw_all := all_mem 634 (by decide +kernel) (by decide +kernel)
theorem kV_L_74 : CWV RL 74 RX5 yX5_tide cX5_tide 2 (some .int) 1 := cwv_mk q632 q633 q634 q1 q635 ⟨rfl, ⟨by decide +kernel, by decide +kernel, by decide +kernel⟩⟩
theorem q998 : (Jvm.Cond.code ({ cls := "TideBoatsModel", name := "tide", desc := "(I)I" } : Jvm.MethodName) prog_8_method_55_code (2 : Nat) (Option.some Jvm.ClassFile.FieldType.int)) ∈ lw_all := all_mem 998 (by decide +kernel) (by decide +kernel)
theorem q995 : (Jvm.Cond.methodLink "TideBoatsLaw" (78 : Nat) ({ cls := "TideBoatsModel", name := "tide", desc := "(I)I" } : Jvm.MethodName)) ∈ lw_all := all_mem 995 (by decide +kernel) (by decide +kernel)
theorem q996 : (Jvm.Cond.instanceMethod ({ cls := "TideBoatsModel", name := "tide", desc := "(I)I" } : Jvm.MethodName)) ∈ lw_all := all_mem 996 (by decide +kernel) (by decide +kernel)
theorem q997 : (Jvm.Cond.selects "TideBoatsModel" ({ cls := "TideBoatsModel", name := "tide", desc := "(I)I" } : Jvm.MethodName) ({ cls := "TideBoatsModel", name := "tide", desc := "(I)I" } : Jvm.MethodName)) ∈ lw_all := all_mem 997 (by decide +kernel) (by decide +kernel)
theorem kV_L_78 : CWV RL 78 RX6 yX6_tide cX6_tide 2 (some .int) 1 := cwv_mk q995 q996 q997 q7 q998 ⟨rfl, ⟨by decide +kernel, by decide +kernel, by decide +kernel⟩⟩
theorem q640 : (Jvm.Cond.code ({ cls := "TideBoats", name := "why", desc := "(III)I" } : Jvm.MethodName) prog_1_method_17_code (5 : Nat) (Option.some Jvm.ClassFile.FieldType.int)) ∈ lw_all := all_mem 640 (by decide +kernel) (by decide +kernel)
theorem q637 : (Jvm.Cond.methodLink "TideBoatsLaw" (79 : Nat) ({ cls := "TideBoats", name := "why", desc := "(III)I" } : Jvm.MethodName)) ∈ lw_all := all_mem 637 (by decide +kernel) (by decide +kernel)
theorem q638 : (Jvm.Cond.instanceMethod ({ cls := "TideBoats", name := "why", desc := "(III)I" } : Jvm.MethodName)) ∈ lw_all := all_mem 638 (by decide +kernel) (by decide +kernel)
theorem q639 : (Jvm.Cond.selects "TideBoats" ({ cls := "TideBoats", name := "why", desc := "(III)I" } : Jvm.MethodName) ({ cls := "TideBoats", name := "why", desc := "(III)I" } : Jvm.MethodName)) ∈ lw_all := all_mem 639 (by decide +kernel) (by decide +kernel)
theorem kV_L_79 : CWV RL 79 RX5 yX5_why cX5_why 5 (some .int) 3 := cwv_mk q637 q638 q639 q1 q640 ⟨rfl, ⟨by decide +kernel, by decide +kernel, by decide +kernel⟩⟩
theorem q1002 : (Jvm.Cond.code ({ cls := "TideBoatsModel", name := "why", desc := "(III)I" } : Jvm.MethodName) prog_8_method_56_code (5 : Nat) (Option.some Jvm.ClassFile.FieldType.int)) ∈ lw_all := all_mem 1002 (by decide +kernel) (by decide +kernel)
theorem q999 : (Jvm.Cond.methodLink "TideBoatsLaw" (82 : Nat) ({ cls := "TideBoatsModel", name := "why", desc := "(III)I" } : Jvm.MethodName)) ∈ lw_all := all_mem 999 (by decide +kernel) (by decide +kernel)
theorem q1000 : (Jvm.Cond.instanceMethod ({ cls := "TideBoatsModel", name := "why", desc := "(III)I" } : Jvm.MethodName)) ∈ lw_all := all_mem 1000 (by decide +kernel) (by decide +kernel)
theorem q1001 : (Jvm.Cond.selects "TideBoatsModel" ({ cls := "TideBoatsModel", name := "why", desc := "(III)I" } : Jvm.MethodName) ({ cls := "TideBoatsModel", name := "why", desc := "(III)I" } : Jvm.MethodName)) ∈ lw_all := all_mem 1001 (by decide +kernel) (by decide +kernel)
theorem kV_L_82 : CWV RL 82 RX6 yX6_why cX6_why 5 (some .int) 3 := cwv_mk q999 q1000 q1001 q7 q1002 ⟨rfl, ⟨by decide +kernel, by decide +kernel, by decide +kernel⟩⟩
theorem q646 : (Jvm.Cond.code ({ cls := "TideBoats", name := "count", desc := "(I)I" } : Jvm.MethodName) prog_1_method_18_code (2 : Nat) (Option.some Jvm.ClassFile.FieldType.int)) ∈ lw_all := all_mem 646 (by decide +kernel) (by decide +kernel)
theorem q643 : (Jvm.Cond.methodLink "TideBoatsLaw" (83 : Nat) ({ cls := "TideBoats", name := "count", desc := "(I)I" } : Jvm.MethodName)) ∈ lw_all := all_mem 643 (by decide +kernel) (by decide +kernel)
theorem q644 : (Jvm.Cond.instanceMethod ({ cls := "TideBoats", name := "count", desc := "(I)I" } : Jvm.MethodName)) ∈ lw_all := all_mem 644 (by decide +kernel) (by decide +kernel)
theorem q645 : (Jvm.Cond.selects "TideBoats" ({ cls := "TideBoats", name := "count", desc := "(I)I" } : Jvm.MethodName) ({ cls := "TideBoats", name := "count", desc := "(I)I" } : Jvm.MethodName)) ∈ lw_all := all_mem 645 (by decide +kernel) (by decide +kernel)
theorem kV_L_83 : CWV RL 83 RX5 yX5_count cX5_count 2 (some .int) 1 := cwv_mk q643 q644 q645 q1 q646 ⟨rfl, ⟨by decide +kernel, by decide +kernel, by decide +kernel⟩⟩
theorem q1006 : (Jvm.Cond.code ({ cls := "TideBoatsModel", name := "count", desc := "(I)I" } : Jvm.MethodName) prog_8_method_60_code (2 : Nat) (Option.some Jvm.ClassFile.FieldType.int)) ∈ lw_all := all_mem 1006 (by decide +kernel) (by decide +kernel)
theorem q1003 : (Jvm.Cond.methodLink "TideBoatsLaw" (86 : Nat) ({ cls := "TideBoatsModel", name := "count", desc := "(I)I" } : Jvm.MethodName)) ∈ lw_all := all_mem 1003 (by decide +kernel) (by decide +kernel)
theorem q1004 : (Jvm.Cond.instanceMethod ({ cls := "TideBoatsModel", name := "count", desc := "(I)I" } : Jvm.MethodName)) ∈ lw_all := all_mem 1004 (by decide +kernel) (by decide +kernel)
theorem q1005 : (Jvm.Cond.selects "TideBoatsModel" ({ cls := "TideBoatsModel", name := "count", desc := "(I)I" } : Jvm.MethodName) ({ cls := "TideBoatsModel", name := "count", desc := "(I)I" } : Jvm.MethodName)) ∈ lw_all := all_mem 1005 (by decide +kernel) (by decide +kernel)
theorem kV_L_86 : CWV RL 86 RX6 yX6_count cX6_count 2 (some .int) 1 := cwv_mk q1003 q1004 q1005 q7 q1006 ⟨rfl, ⟨by decide +kernel, by decide +kernel, by decide +kernel⟩⟩
theorem q666 : (Jvm.Cond.code ({ cls := "TideBoats", name := "afloat", desc := "(II)F" } : Jvm.MethodName) prog_1_method_19_code (6 : Nat) (Option.some Jvm.ClassFile.FieldType.float)) ∈ lw_all := all_mem 666 (by decide +kernel) (by decide +kernel)
theorem q663 : (Jvm.Cond.methodLink "TideBoatsLaw" (87 : Nat) ({ cls := "TideBoats", name := "afloat", desc := "(II)F" } : Jvm.MethodName)) ∈ lw_all := all_mem 663 (by decide +kernel) (by decide +kernel)
theorem q664 : (Jvm.Cond.instanceMethod ({ cls := "TideBoats", name := "afloat", desc := "(II)F" } : Jvm.MethodName)) ∈ lw_all := all_mem 664 (by decide +kernel) (by decide +kernel)
theorem q665 : (Jvm.Cond.selects "TideBoats" ({ cls := "TideBoats", name := "afloat", desc := "(II)F" } : Jvm.MethodName) ({ cls := "TideBoats", name := "afloat", desc := "(II)F" } : Jvm.MethodName)) ∈ lw_all := all_mem 665 (by decide +kernel) (by decide +kernel)
theorem kV_L_87 : CWV RL 87 RX5 yX5_afloat cX5_afloat 6 (some .float) 2 := cwv_mk q663 q664 q665 q1 q666 ⟨rfl, ⟨by decide +kernel, by decide +kernel, by decide +kernel⟩⟩
theorem q1022 : (Jvm.Cond.code ({ cls := "TideBoatsModel", name := "afloat", desc := "(II)F" } : Jvm.MethodName) prog_8_method_62_code (5 : Nat) (Option.some Jvm.ClassFile.FieldType.float)) ∈ lw_all := all_mem 1022 (by decide +kernel) (by decide +kernel)
theorem q1019 : (Jvm.Cond.methodLink "TideBoatsLaw" (91 : Nat) ({ cls := "TideBoatsModel", name := "afloat", desc := "(II)F" } : Jvm.MethodName)) ∈ lw_all := all_mem 1019 (by decide +kernel) (by decide +kernel)
theorem q1020 : (Jvm.Cond.instanceMethod ({ cls := "TideBoatsModel", name := "afloat", desc := "(II)F" } : Jvm.MethodName)) ∈ lw_all := all_mem 1020 (by decide +kernel) (by decide +kernel)
theorem q1021 : (Jvm.Cond.selects "TideBoatsModel" ({ cls := "TideBoatsModel", name := "afloat", desc := "(II)F" } : Jvm.MethodName) ({ cls := "TideBoatsModel", name := "afloat", desc := "(II)F" } : Jvm.MethodName)) ∈ lw_all := all_mem 1021 (by decide +kernel) (by decide +kernel)
theorem kV_L_91 : CWV RL 91 RX6 yX6_afloat cX6_afloat 5 (some .float) 2 := cwv_mk q1019 q1020 q1021 q7 q1022 ⟨rfl, ⟨by decide +kernel, by decide +kernel, by decide +kernel⟩⟩
theorem q677 : (Jvm.Cond.code ({ cls := "TideBoats", name := "floatsIn", desc := "(I)I" } : Jvm.MethodName) prog_1_method_20_code (6 : Nat) (Option.some Jvm.ClassFile.FieldType.int)) ∈ lw_all := all_mem 677 (by decide +kernel) (by decide +kernel)
theorem q674 : (Jvm.Cond.methodLink "TideBoatsLaw" (92 : Nat) ({ cls := "TideBoats", name := "floatsIn", desc := "(I)I" } : Jvm.MethodName)) ∈ lw_all := all_mem 674 (by decide +kernel) (by decide +kernel)
theorem q675 : (Jvm.Cond.instanceMethod ({ cls := "TideBoats", name := "floatsIn", desc := "(I)I" } : Jvm.MethodName)) ∈ lw_all := all_mem 675 (by decide +kernel) (by decide +kernel)
theorem q676 : (Jvm.Cond.selects "TideBoats" ({ cls := "TideBoats", name := "floatsIn", desc := "(I)I" } : Jvm.MethodName) ({ cls := "TideBoats", name := "floatsIn", desc := "(I)I" } : Jvm.MethodName)) ∈ lw_all := all_mem 676 (by decide +kernel) (by decide +kernel)
theorem kV_L_92 : CWV RL 92 RX5 yX5_floatsIn cX5_floatsIn 6 (some .int) 1 := cwv_mk q674 q675 q676 q1 q677 ⟨rfl, ⟨by decide +kernel, by decide +kernel, by decide +kernel⟩⟩
theorem q1031 : (Jvm.Cond.code ({ cls := "TideBoatsModel", name := "floatsIn", desc := "(I)I" } : Jvm.MethodName) prog_8_method_63_code (3 : Nat) (Option.some Jvm.ClassFile.FieldType.int)) ∈ lw_all := all_mem 1031 (by decide +kernel) (by decide +kernel)
theorem q1028 : (Jvm.Cond.methodLink "TideBoatsLaw" (95 : Nat) ({ cls := "TideBoatsModel", name := "floatsIn", desc := "(I)I" } : Jvm.MethodName)) ∈ lw_all := all_mem 1028 (by decide +kernel) (by decide +kernel)
theorem q1029 : (Jvm.Cond.instanceMethod ({ cls := "TideBoatsModel", name := "floatsIn", desc := "(I)I" } : Jvm.MethodName)) ∈ lw_all := all_mem 1029 (by decide +kernel) (by decide +kernel)
theorem q1030 : (Jvm.Cond.selects "TideBoatsModel" ({ cls := "TideBoatsModel", name := "floatsIn", desc := "(I)I" } : Jvm.MethodName) ({ cls := "TideBoatsModel", name := "floatsIn", desc := "(I)I" } : Jvm.MethodName)) ∈ lw_all := all_mem 1030 (by decide +kernel) (by decide +kernel)
theorem kV_L_95 : CWV RL 95 RX6 yX6_floatsIn cX6_floatsIn 3 (some .int) 1 := cwv_mk q1028 q1029 q1030 q7 q1031 ⟨rfl, ⟨by decide +kernel, by decide +kernel, by decide +kernel⟩⟩
theorem q681 : (Jvm.Cond.code ({ cls := "TideBoats", name := "homeIn", desc := "(II)I" } : Jvm.MethodName) prog_1_method_21_code (4 : Nat) (Option.some Jvm.ClassFile.FieldType.int)) ∈ lw_all := all_mem 681 (by decide +kernel) (by decide +kernel)
theorem q678 : (Jvm.Cond.methodLink "TideBoatsLaw" (96 : Nat) ({ cls := "TideBoats", name := "homeIn", desc := "(II)I" } : Jvm.MethodName)) ∈ lw_all := all_mem 678 (by decide +kernel) (by decide +kernel)
theorem q679 : (Jvm.Cond.instanceMethod ({ cls := "TideBoats", name := "homeIn", desc := "(II)I" } : Jvm.MethodName)) ∈ lw_all := all_mem 679 (by decide +kernel) (by decide +kernel)
theorem q680 : (Jvm.Cond.selects "TideBoats" ({ cls := "TideBoats", name := "homeIn", desc := "(II)I" } : Jvm.MethodName) ({ cls := "TideBoats", name := "homeIn", desc := "(II)I" } : Jvm.MethodName)) ∈ lw_all := all_mem 680 (by decide +kernel) (by decide +kernel)
theorem kV_L_96 : CWV RL 96 RX5 yX5_homeIn cX5_homeIn 4 (some .int) 2 := cwv_mk q678 q679 q680 q1 q681 ⟨rfl, ⟨by decide +kernel, by decide +kernel, by decide +kernel⟩⟩
theorem q1035 : (Jvm.Cond.code ({ cls := "TideBoatsModel", name := "homeIn", desc := "(II)I" } : Jvm.MethodName) prog_8_method_68_code (3 : Nat) (Option.some Jvm.ClassFile.FieldType.int)) ∈ lw_all := all_mem 1035 (by decide +kernel) (by decide +kernel)
theorem q1032 : (Jvm.Cond.methodLink "TideBoatsLaw" (99 : Nat) ({ cls := "TideBoatsModel", name := "homeIn", desc := "(II)I" } : Jvm.MethodName)) ∈ lw_all := all_mem 1032 (by decide +kernel) (by decide +kernel)
theorem q1033 : (Jvm.Cond.instanceMethod ({ cls := "TideBoatsModel", name := "homeIn", desc := "(II)I" } : Jvm.MethodName)) ∈ lw_all := all_mem 1033 (by decide +kernel) (by decide +kernel)
theorem q1034 : (Jvm.Cond.selects "TideBoatsModel" ({ cls := "TideBoatsModel", name := "homeIn", desc := "(II)I" } : Jvm.MethodName) ({ cls := "TideBoatsModel", name := "homeIn", desc := "(II)I" } : Jvm.MethodName)) ∈ lw_all := all_mem 1034 (by decide +kernel) (by decide +kernel)
theorem kV_L_99 : CWV RL 99 RX6 yX6_homeIn cX6_homeIn 3 (some .int) 2 := cwv_mk q1032 q1033 q1034 q7 q1035 ⟨rfl, ⟨by decide +kernel, by decide +kernel, by decide +kernel⟩⟩
theorem q733 : (Jvm.Cond.code ({ cls := "TideBoats", name := "inDanger", desc := "(I)I" } : Jvm.MethodName) prog_1_method_22_code (4 : Nat) (Option.some Jvm.ClassFile.FieldType.int)) ∈ lw_all := all_mem 733 (by decide +kernel) (by decide +kernel)
theorem q730 : (Jvm.Cond.methodLink "TideBoatsLaw" (100 : Nat) ({ cls := "TideBoats", name := "inDanger", desc := "(I)I" } : Jvm.MethodName)) ∈ lw_all := all_mem 730 (by decide +kernel) (by decide +kernel)
theorem q731 : (Jvm.Cond.instanceMethod ({ cls := "TideBoats", name := "inDanger", desc := "(I)I" } : Jvm.MethodName)) ∈ lw_all := all_mem 731 (by decide +kernel) (by decide +kernel)
theorem q732 : (Jvm.Cond.selects "TideBoats" ({ cls := "TideBoats", name := "inDanger", desc := "(I)I" } : Jvm.MethodName) ({ cls := "TideBoats", name := "inDanger", desc := "(I)I" } : Jvm.MethodName)) ∈ lw_all := all_mem 732 (by decide +kernel) (by decide +kernel)
theorem kV_L_100 : CWV RL 100 RX5 yX5_inDanger cX5_inDanger 4 (some .int) 1 := cwv_mk q730 q731 q732 q1 q733 ⟨rfl, ⟨by decide +kernel, by decide +kernel, by decide +kernel⟩⟩
theorem q1055 : (Jvm.Cond.code ({ cls := "TideBoatsModel", name := "inDanger", desc := "(I)I" } : Jvm.MethodName) prog_8_method_69_code (5 : Nat) (Option.some Jvm.ClassFile.FieldType.int)) ∈ lw_all := all_mem 1055 (by decide +kernel) (by decide +kernel)
theorem q1052 : (Jvm.Cond.methodLink "TideBoatsLaw" (103 : Nat) ({ cls := "TideBoatsModel", name := "inDanger", desc := "(I)I" } : Jvm.MethodName)) ∈ lw_all := all_mem 1052 (by decide +kernel) (by decide +kernel)
theorem q1053 : (Jvm.Cond.instanceMethod ({ cls := "TideBoatsModel", name := "inDanger", desc := "(I)I" } : Jvm.MethodName)) ∈ lw_all := all_mem 1053 (by decide +kernel) (by decide +kernel)
theorem q1054 : (Jvm.Cond.selects "TideBoatsModel" ({ cls := "TideBoatsModel", name := "inDanger", desc := "(I)I" } : Jvm.MethodName) ({ cls := "TideBoatsModel", name := "inDanger", desc := "(I)I" } : Jvm.MethodName)) ∈ lw_all := all_mem 1054 (by decide +kernel) (by decide +kernel)
theorem kV_L_103 : CWV RL 103 RX6 yX6_inDanger cX6_inDanger 5 (some .int) 1 := cwv_mk q1052 q1053 q1054 q7 q1055 ⟨rfl, ⟨by decide +kernel, by decide +kernel, by decide +kernel⟩⟩
theorem q739 : (Jvm.Cond.code ({ cls := "TideBoats", name := "best", desc := "()I" } : Jvm.MethodName) prog_1_method_23_code (7 : Nat) (Option.some Jvm.ClassFile.FieldType.int)) ∈ lw_all := all_mem 739 (by decide +kernel) (by decide +kernel)
theorem q736 : (Jvm.Cond.methodLink "TideBoatsLaw" (104 : Nat) ({ cls := "TideBoats", name := "best", desc := "()I" } : Jvm.MethodName)) ∈ lw_all := all_mem 736 (by decide +kernel) (by decide +kernel)
theorem q737 : (Jvm.Cond.instanceMethod ({ cls := "TideBoats", name := "best", desc := "()I" } : Jvm.MethodName)) ∈ lw_all := all_mem 737 (by decide +kernel) (by decide +kernel)
theorem q738 : (Jvm.Cond.selects "TideBoats" ({ cls := "TideBoats", name := "best", desc := "()I" } : Jvm.MethodName) ({ cls := "TideBoats", name := "best", desc := "()I" } : Jvm.MethodName)) ∈ lw_all := all_mem 738 (by decide +kernel) (by decide +kernel)
theorem kV_L_104 : CWV RL 104 RX5 yX5_best cX5_best 7 (some .int) 0 := cwv_mk q736 q737 q738 q1 q739 ⟨rfl, ⟨by decide +kernel, by decide +kernel, by decide +kernel⟩⟩
theorem q1059 : (Jvm.Cond.code ({ cls := "TideBoatsModel", name := "best", desc := "()I" } : Jvm.MethodName) prog_8_method_71_code (7 : Nat) (Option.some Jvm.ClassFile.FieldType.int)) ∈ lw_all := all_mem 1059 (by decide +kernel) (by decide +kernel)
theorem q1056 : (Jvm.Cond.methodLink "TideBoatsLaw" (107 : Nat) ({ cls := "TideBoatsModel", name := "best", desc := "()I" } : Jvm.MethodName)) ∈ lw_all := all_mem 1056 (by decide +kernel) (by decide +kernel)
theorem q1057 : (Jvm.Cond.instanceMethod ({ cls := "TideBoatsModel", name := "best", desc := "()I" } : Jvm.MethodName)) ∈ lw_all := all_mem 1057 (by decide +kernel) (by decide +kernel)
theorem q1058 : (Jvm.Cond.selects "TideBoatsModel" ({ cls := "TideBoatsModel", name := "best", desc := "()I" } : Jvm.MethodName) ({ cls := "TideBoatsModel", name := "best", desc := "()I" } : Jvm.MethodName)) ∈ lw_all := all_mem 1058 (by decide +kernel) (by decide +kernel)
theorem kV_L_107 : CWV RL 107 RX6 yX6_best cX6_best 7 (some .int) 0 := cwv_mk q1056 q1057 q1058 q7 q1059 ⟨rfl, ⟨by decide +kernel, by decide +kernel, by decide +kernel⟩⟩
end
