section
-- ===== PART A: goes FIRST, ahead of the names: the tables' words, and 'selects' of the private methods out of them =====
/-- a private method of a class that the tables say can be made, by its rows of tables_1 -/
def lw_okq (q : MethodName × Nat) : Prop := (q.1.cls ≠ "java/lang/invoke/MethodHandle" ∧ q.1.cls ≠ "java/lang/invoke/VarHandle") ∧ Cond.instantiable q.1.cls q.2 ∈ tables_1 ∧ Cond.privateMethod q.1 ∈ tables_1 ∧ Cond.instanceMethod q.1 ∈ tables_1
theorem lw_p0 : lw_okq (⟨"NinetyPlayers", "putFourBytes", "(I)V"⟩, 14) := ⟨⟨by decide +kernel, by decide +kernel⟩, List.mem_of_getElem? (i := 23) (by decide +kernel), List.mem_of_getElem? (i := 482) (by decide +kernel), List.mem_of_getElem? (i := 483) (by decide +kernel)⟩
theorem lw_p1 : lw_okq (⟨"NinetyPlayers$Tokens", "at", "(I)I"⟩, 7) := ⟨⟨by decide +kernel, by decide +kernel⟩, List.mem_of_getElem? (i := 162) (by decide +kernel), List.mem_of_getElem? (i := 513) (by decide +kernel), List.mem_of_getElem? (i := 514) (by decide +kernel)⟩
theorem lw_p2 : lw_okq (⟨"NinetyPlayers$Tokens", "takeWord", "()V"⟩, 7) := ⟨⟨by decide +kernel, by decide +kernel⟩, List.mem_of_getElem? (i := 162) (by decide +kernel), List.mem_of_getElem? (i := 523) (by decide +kernel), List.mem_of_getElem? (i := 524) (by decide +kernel)⟩
theorem lw_p3 : lw_okq (⟨"NinetyPlayers$Tokens", "takeNumber", "()V"⟩, 7) := ⟨⟨by decide +kernel, by decide +kernel⟩, List.mem_of_getElem? (i := 162) (by decide +kernel), List.mem_of_getElem? (i := 585) (by decide +kernel), List.mem_of_getElem? (i := 586) (by decide +kernel)⟩
theorem lw_p4 : lw_okq (⟨"NinetyPlayers$Reader", "line", "()V"⟩, 5) := ⟨⟨by decide +kernel, by decide +kernel⟩, List.mem_of_getElem? (i := 31) (by decide +kernel), List.mem_of_getElem? (i := 645) (by decide +kernel), List.mem_of_getElem? (i := 646) (by decide +kernel)⟩
theorem lw_p5 : lw_okq (⟨"NinetyPlayers$Reader", "mayBegin", "(I)Z"⟩, 5) := ⟨⟨by decide +kernel, by decide +kernel⟩, List.mem_of_getElem? (i := 31) (by decide +kernel), List.mem_of_getElem? (i := 649) (by decide +kernel), List.mem_of_getElem? (i := 650) (by decide +kernel)⟩
theorem lw_p6 : lw_okq (⟨"NinetyPlayers$Reader", "refuse", "(I)V"⟩, 5) := ⟨⟨by decide +kernel, by decide +kernel⟩, List.mem_of_getElem? (i := 31) (by decide +kernel), List.mem_of_getElem? (i := 653) (by decide +kernel), List.mem_of_getElem? (i := 654) (by decide +kernel)⟩
theorem lw_p7 : lw_okq (⟨"NinetyPlayers$Reader", "number", "(II)I"⟩, 5) := ⟨⟨by decide +kernel, by decide +kernel⟩, List.mem_of_getElem? (i := 31) (by decide +kernel), List.mem_of_getElem? (i := 658) (by decide +kernel), List.mem_of_getElem? (i := 659) (by decide +kernel)⟩
theorem lw_p8 : lw_okq (⟨"NinetyPlayers$Reader", "partLine", "()V"⟩, 5) := ⟨⟨by decide +kernel, by decide +kernel⟩, List.mem_of_getElem? (i := 31) (by decide +kernel), List.mem_of_getElem? (i := 662) (by decide +kernel), List.mem_of_getElem? (i := 663) (by decide +kernel)⟩
theorem lw_p9 : lw_okq (⟨"NinetyPlayers$Reader", "newName", "(Z)J"⟩, 5) := ⟨⟨by decide +kernel, by decide +kernel⟩, List.mem_of_getElem? (i := 31) (by decide +kernel), List.mem_of_getElem? (i := 670) (by decide +kernel), List.mem_of_getElem? (i := 671) (by decide +kernel)⟩
theorem lw_p10 : lw_okq (⟨"NinetyPlayers$Reader", "isWord", "(I)Z"⟩, 5) := ⟨⟨by decide +kernel, by decide +kernel⟩, List.mem_of_getElem? (i := 31) (by decide +kernel), List.mem_of_getElem? (i := 674) (by decide +kernel), List.mem_of_getElem? (i := 675) (by decide +kernel)⟩
theorem lw_p11 : lw_okq (⟨"NinetyPlayers$Reader", "noteLine", "()V"⟩, 5) := ⟨⟨by decide +kernel, by decide +kernel⟩, List.mem_of_getElem? (i := 31) (by decide +kernel), List.mem_of_getElem? (i := 682) (by decide +kernel), List.mem_of_getElem? (i := 683) (by decide +kernel)⟩
theorem lw_p12 : lw_okq (⟨"NinetyPlayers$Reader", "takeWord", "(I)V"⟩, 5) := ⟨⟨by decide +kernel, by decide +kernel⟩, List.mem_of_getElem? (i := 31) (by decide +kernel), List.mem_of_getElem? (i := 690) (by decide +kernel), List.mem_of_getElem? (i := 691) (by decide +kernel)⟩
theorem lw_p13 : lw_okq (⟨"NinetyPlayers$Reader", "knownPart", "()I"⟩, 5) := ⟨⟨by decide +kernel, by decide +kernel⟩, List.mem_of_getElem? (i := 31) (by decide +kernel), List.mem_of_getElem? (i := 694) (by decide +kernel), List.mem_of_getElem? (i := 695) (by decide +kernel)⟩
theorem lw_p14 : lw_okq (⟨"NinetyPlayers$Reader", "either", "(I)V"⟩, 5) := ⟨⟨by decide +kernel, by decide +kernel⟩, List.mem_of_getElem? (i := 31) (by decide +kernel), List.mem_of_getElem? (i := 702) (by decide +kernel), List.mem_of_getElem? (i := 703) (by decide +kernel)⟩
theorem lw_p15 : lw_okq (⟨"NinetyPlayers$Reader", "both", "(I)V"⟩, 5) := ⟨⟨by decide +kernel, by decide +kernel⟩, List.mem_of_getElem? (i := 31) (by decide +kernel), List.mem_of_getElem? (i := 706) (by decide +kernel), List.mem_of_getElem? (i := 707) (by decide +kernel)⟩
def lw_privs_1 : List (MethodName × Nat) := [(⟨"NinetyPlayers", "putFourBytes", "(I)V"⟩, 14), (⟨"NinetyPlayers$Tokens", "at", "(I)I"⟩, 7), (⟨"NinetyPlayers$Tokens", "takeWord", "()V"⟩, 7), (⟨"NinetyPlayers$Tokens", "takeNumber", "()V"⟩, 7), (⟨"NinetyPlayers$Reader", "line", "()V"⟩, 5), (⟨"NinetyPlayers$Reader", "mayBegin", "(I)Z"⟩, 5), (⟨"NinetyPlayers$Reader", "refuse", "(I)V"⟩, 5), (⟨"NinetyPlayers$Reader", "number", "(II)I"⟩, 5), (⟨"NinetyPlayers$Reader", "partLine", "()V"⟩, 5), (⟨"NinetyPlayers$Reader", "newName", "(Z)J"⟩, 5), (⟨"NinetyPlayers$Reader", "isWord", "(I)Z"⟩, 5), (⟨"NinetyPlayers$Reader", "noteLine", "()V"⟩, 5), (⟨"NinetyPlayers$Reader", "takeWord", "(I)V"⟩, 5), (⟨"NinetyPlayers$Reader", "knownPart", "()I"⟩, 5), (⟨"NinetyPlayers$Reader", "either", "(I)V"⟩, 5), (⟨"NinetyPlayers$Reader", "both", "(I)V"⟩, 5)]
theorem lw_r1 : ∀ q ∈ lw_privs_1, lw_okq q := List.forall_mem_cons.mpr ⟨lw_p0, List.forall_mem_cons.mpr ⟨lw_p1, List.forall_mem_cons.mpr ⟨lw_p2, List.forall_mem_cons.mpr ⟨lw_p3, List.forall_mem_cons.mpr ⟨lw_p4, List.forall_mem_cons.mpr ⟨lw_p5, List.forall_mem_cons.mpr ⟨lw_p6, List.forall_mem_cons.mpr ⟨lw_p7, List.forall_mem_cons.mpr ⟨lw_p8, List.forall_mem_cons.mpr ⟨lw_p9, List.forall_mem_cons.mpr ⟨lw_p10, List.forall_mem_cons.mpr ⟨lw_p11, List.forall_mem_cons.mpr ⟨lw_p12, List.forall_mem_cons.mpr ⟨lw_p13, List.forall_mem_cons.mpr ⟨lw_p14, List.forall_mem_cons.mpr ⟨lw_p15, fun _ h => absurd h List.not_mem_nil⟩⟩⟩⟩⟩⟩⟩⟩⟩⟩⟩⟩⟩⟩⟩⟩
theorem lw_p16 : lw_okq (⟨"NinetyPlayers$Reader", "one", "(I)V"⟩, 5) := ⟨⟨by decide +kernel, by decide +kernel⟩, List.mem_of_getElem? (i := 31) (by decide +kernel), List.mem_of_getElem? (i := 710) (by decide +kernel), List.mem_of_getElem? (i := 711) (by decide +kernel)⟩
theorem lw_p17 : lw_okq (⟨"NinetyPlayers$Reader", "sum", "(I)V"⟩, 5) := ⟨⟨by decide +kernel, by decide +kernel⟩, List.mem_of_getElem? (i := 31) (by decide +kernel), List.mem_of_getElem? (i := 718) (by decide +kernel), List.mem_of_getElem? (i := 719) (by decide +kernel)⟩
theorem lw_p18 : lw_okq (⟨"NinetyPlayers$Reader", "term", "(I)V"⟩, 5) := ⟨⟨by decide +kernel, by decide +kernel⟩, List.mem_of_getElem? (i := 31) (by decide +kernel), List.mem_of_getElem? (i := 722) (by decide +kernel), List.mem_of_getElem? (i := 723) (by decide +kernel)⟩
theorem lw_p19 : lw_okq (⟨"NinetyPlayers$Reader", "unit", "(I)V"⟩, 5) := ⟨⟨by decide +kernel, by decide +kernel⟩, List.mem_of_getElem? (i := 31) (by decide +kernel), List.mem_of_getElem? (i := 726) (by decide +kernel), List.mem_of_getElem? (i := 727) (by decide +kernel)⟩
theorem lw_p20 : lw_okq (⟨"NinetyPlayers$Reader", "isSign", "(C)Z"⟩, 5) := ⟨⟨by decide +kernel, by decide +kernel⟩, List.mem_of_getElem? (i := 31) (by decide +kernel), List.mem_of_getElem? (i := 730) (by decide +kernel), List.mem_of_getElem? (i := 731) (by decide +kernel)⟩
theorem lw_p21 : lw_okq (⟨"NinetyPlayers$Reader", "takeSign", "(C)V"⟩, 5) := ⟨⟨by decide +kernel, by decide +kernel⟩, List.mem_of_getElem? (i := 31) (by decide +kernel), List.mem_of_getElem? (i := 734) (by decide +kernel), List.mem_of_getElem? (i := 735) (by decide +kernel)⟩
theorem lw_p22 : lw_okq (⟨"NinetyPlayers", "isNote", "(I)Z"⟩, 14) := ⟨⟨by decide +kernel, by decide +kernel⟩, List.mem_of_getElem? (i := 23) (by decide +kernel), List.mem_of_getElem? (i := 758) (by decide +kernel), List.mem_of_getElem? (i := 759) (by decide +kernel)⟩
theorem lw_p23 : lw_okq (⟨"NinetyPlayers", "missedOf", "(I)I"⟩, 14) := ⟨⟨by decide +kernel, by decide +kernel⟩, List.mem_of_getElem? (i := 23) (by decide +kernel), List.mem_of_getElem? (i := 762) (by decide +kernel), List.mem_of_getElem? (i := 763) (by decide +kernel)⟩
theorem lw_p24 : lw_okq (⟨"NinetyPlayers", "doublesOf", "(I)I"⟩, 14) := ⟨⟨by decide +kernel, by decide +kernel⟩, List.mem_of_getElem? (i := 23) (by decide +kernel), List.mem_of_getElem? (i := 770) (by decide +kernel), List.mem_of_getElem? (i := 771) (by decide +kernel)⟩
theorem lw_p25 : lw_okq (⟨"NinetyPlayers$Formula", "step", "(I)V"⟩, 6) := ⟨⟨by decide +kernel, by decide +kernel⟩, List.mem_of_getElem? (i := 43) (by decide +kernel), List.mem_of_getElem? (i := 788) (by decide +kernel), List.mem_of_getElem? (i := 789) (by decide +kernel)⟩
theorem lw_p26 : lw_okq (⟨"NinetyPlayers$Formula", "push", "(I)V"⟩, 6) := ⟨⟨by decide +kernel, by decide +kernel⟩, List.mem_of_getElem? (i := 43) (by decide +kernel), List.mem_of_getElem? (i := 792) (by decide +kernel), List.mem_of_getElem? (i := 793) (by decide +kernel)⟩
theorem lw_p27 : lw_okq (⟨"NinetyPlayers", "givenSet", "()I"⟩, 14) := ⟨⟨by decide +kernel, by decide +kernel⟩, List.mem_of_getElem? (i := 23) (by decide +kernel), List.mem_of_getElem? (i := 809) (by decide +kernel), List.mem_of_getElem? (i := 810) (by decide +kernel)⟩
theorem lw_p28 : lw_okq (⟨"NinetyPlayers", "isBeat", "(I)Z"⟩, 14) := ⟨⟨by decide +kernel, by decide +kernel⟩, List.mem_of_getElem? (i := 23) (by decide +kernel), List.mem_of_getElem? (i := 821) (by decide +kernel), List.mem_of_getElem? (i := 822) (by decide +kernel)⟩
theorem lw_p29 : lw_okq (⟨"NinetyPlayers", "lookAtKeys", "()V"⟩, 14) := ⟨⟨by decide +kernel, by decide +kernel⟩, List.mem_of_getElem? (i := 23) (by decide +kernel), List.mem_of_getElem? (i := 828) (by decide +kernel), List.mem_of_getElem? (i := 829) (by decide +kernel)⟩
theorem lw_p30 : lw_okq (⟨"NinetyPlayers$Keyboard", "hasPedal", "(I)Z"⟩, 12) := ⟨⟨by decide +kernel, by decide +kernel⟩, List.mem_of_getElem? (i := 275) (by decide +kernel), List.mem_of_getElem? (i := 837) (by decide +kernel), List.mem_of_getElem? (i := 838) (by decide +kernel)⟩
theorem lw_p31 : lw_okq (⟨"NinetyPlayers$Keyboard", "clashesOfHand", "(II)I"⟩, 12) := ⟨⟨by decide +kernel, by decide +kernel⟩, List.mem_of_getElem? (i := 275) (by decide +kernel), List.mem_of_getElem? (i := 877) (by decide +kernel), List.mem_of_getElem? (i := 878) (by decide +kernel)⟩
def lw_privs_2 : List (MethodName × Nat) := [(⟨"NinetyPlayers$Reader", "one", "(I)V"⟩, 5), (⟨"NinetyPlayers$Reader", "sum", "(I)V"⟩, 5), (⟨"NinetyPlayers$Reader", "term", "(I)V"⟩, 5), (⟨"NinetyPlayers$Reader", "unit", "(I)V"⟩, 5), (⟨"NinetyPlayers$Reader", "isSign", "(C)Z"⟩, 5), (⟨"NinetyPlayers$Reader", "takeSign", "(C)V"⟩, 5), (⟨"NinetyPlayers", "isNote", "(I)Z"⟩, 14), (⟨"NinetyPlayers", "missedOf", "(I)I"⟩, 14), (⟨"NinetyPlayers", "doublesOf", "(I)I"⟩, 14), (⟨"NinetyPlayers$Formula", "step", "(I)V"⟩, 6), (⟨"NinetyPlayers$Formula", "push", "(I)V"⟩, 6), (⟨"NinetyPlayers", "givenSet", "()I"⟩, 14), (⟨"NinetyPlayers", "isBeat", "(I)Z"⟩, 14), (⟨"NinetyPlayers", "lookAtKeys", "()V"⟩, 14), (⟨"NinetyPlayers$Keyboard", "hasPedal", "(I)Z"⟩, 12), (⟨"NinetyPlayers$Keyboard", "clashesOfHand", "(II)I"⟩, 12)]
theorem lw_r2 : ∀ q ∈ lw_privs_2, lw_okq q := List.forall_mem_cons.mpr ⟨lw_p16, List.forall_mem_cons.mpr ⟨lw_p17, List.forall_mem_cons.mpr ⟨lw_p18, List.forall_mem_cons.mpr ⟨lw_p19, List.forall_mem_cons.mpr ⟨lw_p20, List.forall_mem_cons.mpr ⟨lw_p21, List.forall_mem_cons.mpr ⟨lw_p22, List.forall_mem_cons.mpr ⟨lw_p23, List.forall_mem_cons.mpr ⟨lw_p24, List.forall_mem_cons.mpr ⟨lw_p25, List.forall_mem_cons.mpr ⟨lw_p26, List.forall_mem_cons.mpr ⟨lw_p27, List.forall_mem_cons.mpr ⟨lw_p28, List.forall_mem_cons.mpr ⟨lw_p29, List.forall_mem_cons.mpr ⟨lw_p30, List.forall_mem_cons.mpr ⟨lw_p31, fun _ h => absurd h List.not_mem_nil⟩⟩⟩⟩⟩⟩⟩⟩⟩⟩⟩⟩⟩⟩⟩⟩
theorem lw_p32 : lw_okq (⟨"NinetyPlayers$Keyboard", "lowest", "(I)I"⟩, 12) := ⟨⟨by decide +kernel, by decide +kernel⟩, List.mem_of_getElem? (i := 275) (by decide +kernel), List.mem_of_getElem? (i := 881) (by decide +kernel), List.mem_of_getElem? (i := 882) (by decide +kernel)⟩
theorem lw_p33 : lw_okq (⟨"NinetyPlayers$Keyboard", "highest", "(I)I"⟩, 12) := ⟨⟨by decide +kernel, by decide +kernel⟩, List.mem_of_getElem? (i := 275) (by decide +kernel), List.mem_of_getElem? (i := 886) (by decide +kernel), List.mem_of_getElem? (i := 887) (by decide +kernel)⟩
theorem lw_p34 : lw_okq (⟨"NinetyPlayers$Keyboard", "hasKeyTwice", "(I)Z"⟩, 12) := ⟨⟨by decide +kernel, by decide +kernel⟩, List.mem_of_getElem? (i := 275) (by decide +kernel), List.mem_of_getElem? (i := 893) (by decide +kernel), List.mem_of_getElem? (i := 894) (by decide +kernel)⟩
theorem lw_p35 : lw_okq (⟨"NinetyPlayers$Acts", "dropOldest", "()V"⟩, 6) := ⟨⟨by decide +kernel, by decide +kernel⟩, List.mem_of_getElem? (i := 248) (by decide +kernel), List.mem_of_getElem? (i := 905) (by decide +kernel), List.mem_of_getElem? (i := 906) (by decide +kernel)⟩
theorem lw_p36 : lw_okq (⟨"NinetyPlayers$Laying", "rowOf", "(I)[I"⟩, 6) := ⟨⟨by decide +kernel, by decide +kernel⟩, List.mem_of_getElem? (i := 214) (by decide +kernel), List.mem_of_getElem? (i := 916) (by decide +kernel), List.mem_of_getElem? (i := 917) (by decide +kernel)⟩
theorem lw_p37 : lw_okq (⟨"NinetyPlayers", "layLeastMissed", "(II)V"⟩, 14) := ⟨⟨by decide +kernel, by decide +kernel⟩, List.mem_of_getElem? (i := 23) (by decide +kernel), List.mem_of_getElem? (i := 977) (by decide +kernel), List.mem_of_getElem? (i := 978) (by decide +kernel)⟩
theorem lw_p38 : lw_okq (⟨"NinetyPlayers", "weighAll", "()V"⟩, 14) := ⟨⟨by decide +kernel, by decide +kernel⟩, List.mem_of_getElem? (i := 23) (by decide +kernel), List.mem_of_getElem? (i := 981) (by decide +kernel), List.mem_of_getElem? (i := 982) (by decide +kernel)⟩
theorem lw_p39 : lw_okq (⟨"NinetyPlayers$Arranger", "findBars", "(I)V"⟩, 9) := ⟨⟨by decide +kernel, by decide +kernel⟩, List.mem_of_getElem? (i := 333) (by decide +kernel), List.mem_of_getElem? (i := 989) (by decide +kernel), List.mem_of_getElem? (i := 990) (by decide +kernel)⟩
theorem lw_p40 : lw_okq (⟨"NinetyPlayers$Arranger", "findSettledLeaps", "(I)V"⟩, 9) := ⟨⟨by decide +kernel, by decide +kernel⟩, List.mem_of_getElem? (i := 333) (by decide +kernel), List.mem_of_getElem? (i := 995) (by decide +kernel), List.mem_of_getElem? (i := 996) (by decide +kernel)⟩
theorem lw_p41 : lw_okq (⟨"NinetyPlayers$Arranger", "search", "(IIII)V"⟩, 9) := ⟨⟨by decide +kernel, by decide +kernel⟩, List.mem_of_getElem? (i := 333) (by decide +kernel), List.mem_of_getElem? (i := 999) (by decide +kernel), List.mem_of_getElem? (i := 1000) (by decide +kernel)⟩
theorem lw_p42 : lw_okq (⟨"NinetyPlayers$Arranger", "isFreeLeft", "(III)Z"⟩, 9) := ⟨⟨by decide +kernel, by decide +kernel⟩, List.mem_of_getElem? (i := 333) (by decide +kernel), List.mem_of_getElem? (i := 1003) (by decide +kernel), List.mem_of_getElem? (i := 1004) (by decide +kernel)⟩
theorem lw_p43 : lw_okq (⟨"NinetyPlayers$Arranger", "fingersReach", "(II)Z"⟩, 9) := ⟨⟨by decide +kernel, by decide +kernel⟩, List.mem_of_getElem? (i := 333) (by decide +kernel), List.mem_of_getElem? (i := 1007) (by decide +kernel), List.mem_of_getElem? (i := 1008) (by decide +kernel)⟩
theorem lw_p44 : lw_okq (⟨"NinetyPlayers$Arranger", "leapsFit", "(III)Z"⟩, 9) := ⟨⟨by decide +kernel, by decide +kernel⟩, List.mem_of_getElem? (i := 333) (by decide +kernel), List.mem_of_getElem? (i := 1012) (by decide +kernel), List.mem_of_getElem? (i := 1013) (by decide +kernel)⟩
theorem lw_p45 : lw_okq (⟨"NinetyPlayers$Arranger", "isFreeRight", "(III)Z"⟩, 9) := ⟨⟨by decide +kernel, by decide +kernel⟩, List.mem_of_getElem? (i := 333) (by decide +kernel), List.mem_of_getElem? (i := 1020) (by decide +kernel), List.mem_of_getElem? (i := 1021) (by decide +kernel)⟩
theorem lw_p46 : lw_okq (⟨"NinetyPlayers", "isLeftOut", "(I)Z"⟩, 14) := ⟨⟨by decide +kernel, by decide +kernel⟩, List.mem_of_getElem? (i := 23) (by decide +kernel), List.mem_of_getElem? (i := 1036) (by decide +kernel), List.mem_of_getElem? (i := 1037) (by decide +kernel)⟩
theorem lw_p47 : lw_okq (⟨"NinetyPlayers$Arranger", "isLessMissed", "(II)Z"⟩, 9) := ⟨⟨by decide +kernel, by decide +kernel⟩, List.mem_of_getElem? (i := 333) (by decide +kernel), List.mem_of_getElem? (i := 1052) (by decide +kernel), List.mem_of_getElem? (i := 1053) (by decide +kernel)⟩
def lw_privs_3 : List (MethodName × Nat) := [(⟨"NinetyPlayers$Keyboard", "lowest", "(I)I"⟩, 12), (⟨"NinetyPlayers$Keyboard", "highest", "(I)I"⟩, 12), (⟨"NinetyPlayers$Keyboard", "hasKeyTwice", "(I)Z"⟩, 12), (⟨"NinetyPlayers$Acts", "dropOldest", "()V"⟩, 6), (⟨"NinetyPlayers$Laying", "rowOf", "(I)[I"⟩, 6), (⟨"NinetyPlayers", "layLeastMissed", "(II)V"⟩, 14), (⟨"NinetyPlayers", "weighAll", "()V"⟩, 14), (⟨"NinetyPlayers$Arranger", "findBars", "(I)V"⟩, 9), (⟨"NinetyPlayers$Arranger", "findSettledLeaps", "(I)V"⟩, 9), (⟨"NinetyPlayers$Arranger", "search", "(IIII)V"⟩, 9), (⟨"NinetyPlayers$Arranger", "isFreeLeft", "(III)Z"⟩, 9), (⟨"NinetyPlayers$Arranger", "fingersReach", "(II)Z"⟩, 9), (⟨"NinetyPlayers$Arranger", "leapsFit", "(III)Z"⟩, 9), (⟨"NinetyPlayers$Arranger", "isFreeRight", "(III)Z"⟩, 9), (⟨"NinetyPlayers", "isLeftOut", "(I)Z"⟩, 14), (⟨"NinetyPlayers$Arranger", "isLessMissed", "(II)Z"⟩, 9)]
theorem lw_r3 : ∀ q ∈ lw_privs_3, lw_okq q := List.forall_mem_cons.mpr ⟨lw_p32, List.forall_mem_cons.mpr ⟨lw_p33, List.forall_mem_cons.mpr ⟨lw_p34, List.forall_mem_cons.mpr ⟨lw_p35, List.forall_mem_cons.mpr ⟨lw_p36, List.forall_mem_cons.mpr ⟨lw_p37, List.forall_mem_cons.mpr ⟨lw_p38, List.forall_mem_cons.mpr ⟨lw_p39, List.forall_mem_cons.mpr ⟨lw_p40, List.forall_mem_cons.mpr ⟨lw_p41, List.forall_mem_cons.mpr ⟨lw_p42, List.forall_mem_cons.mpr ⟨lw_p43, List.forall_mem_cons.mpr ⟨lw_p44, List.forall_mem_cons.mpr ⟨lw_p45, List.forall_mem_cons.mpr ⟨lw_p46, List.forall_mem_cons.mpr ⟨lw_p47, fun _ h => absurd h List.not_mem_nil⟩⟩⟩⟩⟩⟩⟩⟩⟩⟩⟩⟩⟩⟩⟩⟩
theorem lw_p48 : lw_okq (⟨"NinetyPlayers$Arranger", "missedTogether", "(I)I"⟩, 9) := ⟨⟨by decide +kernel, by decide +kernel⟩, List.mem_of_getElem? (i := 333) (by decide +kernel), List.mem_of_getElem? (i := 1056) (by decide +kernel), List.mem_of_getElem? (i := 1057) (by decide +kernel)⟩
theorem lw_p49 : lw_okq (⟨"NinetyPlayers$Pedaller", "isFree", "(III)Z"⟩, 2) := ⟨⟨by decide +kernel, by decide +kernel⟩, List.mem_of_getElem? (i := 370) (by decide +kernel), List.mem_of_getElem? (i := 1082) (by decide +kernel), List.mem_of_getElem? (i := 1083) (by decide +kernel)⟩
theorem lw_p50 : lw_okq (⟨"NinetyPlayers$Pedaller", "bestWithPedalAt", "(I)I"⟩, 2) := ⟨⟨by decide +kernel, by decide +kernel⟩, List.mem_of_getElem? (i := 370) (by decide +kernel), List.mem_of_getElem? (i := 1088) (by decide +kernel), List.mem_of_getElem? (i := 1089) (by decide +kernel)⟩
theorem lw_p51 : lw_okq (⟨"NinetyPlayers", "openAt", "(I)I"⟩, 14) := ⟨⟨by decide +kernel, by decide +kernel⟩, List.mem_of_getElem? (i := 23) (by decide +kernel), List.mem_of_getElem? (i := 1122) (by decide +kernel), List.mem_of_getElem? (i := 1123) (by decide +kernel)⟩
theorem lw_p52 : lw_okq (⟨"NinetyPlayers$Witness", "gather", "(LNinetyPlayers$Score;I)V"⟩, 12) := ⟨⟨by decide +kernel, by decide +kernel⟩, List.mem_of_getElem? (i := 383) (by decide +kernel), List.mem_of_getElem? (i := 1200) (by decide +kernel), List.mem_of_getElem? (i := 1201) (by decide +kernel)⟩
theorem lw_p53 : lw_okq (⟨"NinetyPlayers$Witness", "isSo", "(I)Z"⟩, 12) := ⟨⟨by decide +kernel, by decide +kernel⟩, List.mem_of_getElem? (i := 383) (by decide +kernel), List.mem_of_getElem? (i := 1207) (by decide +kernel), List.mem_of_getElem? (i := 1208) (by decide +kernel)⟩
theorem lw_p54 : lw_okq (⟨"NinetyPlayers$Witness", "countIn", "(I)V"⟩, 12) := ⟨⟨by decide +kernel, by decide +kernel⟩, List.mem_of_getElem? (i := 383) (by decide +kernel), List.mem_of_getElem? (i := 1211) (by decide +kernel), List.mem_of_getElem? (i := 1212) (by decide +kernel)⟩
theorem lw_p55 : lw_okq (⟨"NinetyPlayers", "isKept", "(I)Z"⟩, 14) := ⟨⟨by decide +kernel, by decide +kernel⟩, List.mem_of_getElem? (i := 23) (by decide +kernel), List.mem_of_getElem? (i := 1235) (by decide +kernel), List.mem_of_getElem? (i := 1236) (by decide +kernel)⟩
theorem lw_p56 : lw_okq (⟨"NinetyPlayers", "aboutTheRest", "(I)I"⟩, 14) := ⟨⟨by decide +kernel, by decide +kernel⟩, List.mem_of_getElem? (i := 23) (by decide +kernel), List.mem_of_getElem? (i := 1251) (by decide +kernel), List.mem_of_getElem? (i := 1252) (by decide +kernel)⟩
theorem lw_p57 : lw_okq (⟨"NinetyPlayersModel", "four", "(I)V"⟩, 80) := ⟨⟨by decide +kernel, by decide +kernel⟩, List.mem_of_getElem? (i := 1255) (by decide +kernel), List.mem_of_getElem? (i := 1506) (by decide +kernel), List.mem_of_getElem? (i := 1507) (by decide +kernel)⟩
theorem lw_p58 : lw_okq (⟨"NinetyPlayersModel", "readAll", "()V"⟩, 80) := ⟨⟨by decide +kernel, by decide +kernel⟩, List.mem_of_getElem? (i := 1255) (by decide +kernel), List.mem_of_getElem? (i := 1518) (by decide +kernel), List.mem_of_getElem? (i := 1519) (by decide +kernel)⟩
theorem lw_p59 : lw_okq (⟨"NinetyPlayersModel", "token", "()V"⟩, 80) := ⟨⟨by decide +kernel, by decide +kernel⟩, List.mem_of_getElem? (i := 1255) (by decide +kernel), List.mem_of_getElem? (i := 1522) (by decide +kernel), List.mem_of_getElem? (i := 1523) (by decide +kernel)⟩
theorem lw_p60 : lw_okq (⟨"NinetyPlayersModel", "here", "(I)I"⟩, 80) := ⟨⟨by decide +kernel, by decide +kernel⟩, List.mem_of_getElem? (i := 1255) (by decide +kernel), List.mem_of_getElem? (i := 1526) (by decide +kernel), List.mem_of_getElem? (i := 1527) (by decide +kernel)⟩
theorem lw_p61 : lw_okq (⟨"NinetyPlayersModel", "readLine", "()V"⟩, 80) := ⟨⟨by decide +kernel, by decide +kernel⟩, List.mem_of_getElem? (i := 1255) (by decide +kernel), List.mem_of_getElem? (i := 1539) (by decide +kernel), List.mem_of_getElem? (i := 1540) (by decide +kernel)⟩
theorem lw_p62 : lw_okq (⟨"NinetyPlayersModel", "isWord", "(J)Z"⟩, 80) := ⟨⟨by decide +kernel, by decide +kernel⟩, List.mem_of_getElem? (i := 1255) (by decide +kernel), List.mem_of_getElem? (i := 1544) (by decide +kernel), List.mem_of_getElem? (i := 1545) (by decide +kernel)⟩
theorem lw_p63 : lw_okq (⟨"NinetyPlayersModel", "told", "(JII)I"⟩, 80) := ⟨⟨by decide +kernel, by decide +kernel⟩, List.mem_of_getElem? (i := 1255) (by decide +kernel), List.mem_of_getElem? (i := 1548) (by decide +kernel), List.mem_of_getElem? (i := 1549) (by decide +kernel)⟩
def lw_privs_4 : List (MethodName × Nat) := [(⟨"NinetyPlayers$Arranger", "missedTogether", "(I)I"⟩, 9), (⟨"NinetyPlayers$Pedaller", "isFree", "(III)Z"⟩, 2), (⟨"NinetyPlayers$Pedaller", "bestWithPedalAt", "(I)I"⟩, 2), (⟨"NinetyPlayers", "openAt", "(I)I"⟩, 14), (⟨"NinetyPlayers$Witness", "gather", "(LNinetyPlayers$Score;I)V"⟩, 12), (⟨"NinetyPlayers$Witness", "isSo", "(I)Z"⟩, 12), (⟨"NinetyPlayers$Witness", "countIn", "(I)V"⟩, 12), (⟨"NinetyPlayers", "isKept", "(I)Z"⟩, 14), (⟨"NinetyPlayers", "aboutTheRest", "(I)I"⟩, 14), (⟨"NinetyPlayersModel", "four", "(I)V"⟩, 80), (⟨"NinetyPlayersModel", "readAll", "()V"⟩, 80), (⟨"NinetyPlayersModel", "token", "()V"⟩, 80), (⟨"NinetyPlayersModel", "here", "(I)I"⟩, 80), (⟨"NinetyPlayersModel", "readLine", "()V"⟩, 80), (⟨"NinetyPlayersModel", "isWord", "(J)Z"⟩, 80), (⟨"NinetyPlayersModel", "told", "(JII)I"⟩, 80)]
theorem lw_r4 : ∀ q ∈ lw_privs_4, lw_okq q := List.forall_mem_cons.mpr ⟨lw_p48, List.forall_mem_cons.mpr ⟨lw_p49, List.forall_mem_cons.mpr ⟨lw_p50, List.forall_mem_cons.mpr ⟨lw_p51, List.forall_mem_cons.mpr ⟨lw_p52, List.forall_mem_cons.mpr ⟨lw_p53, List.forall_mem_cons.mpr ⟨lw_p54, List.forall_mem_cons.mpr ⟨lw_p55, List.forall_mem_cons.mpr ⟨lw_p56, List.forall_mem_cons.mpr ⟨lw_p57, List.forall_mem_cons.mpr ⟨lw_p58, List.forall_mem_cons.mpr ⟨lw_p59, List.forall_mem_cons.mpr ⟨lw_p60, List.forall_mem_cons.mpr ⟨lw_p61, List.forall_mem_cons.mpr ⟨lw_p62, List.forall_mem_cons.mpr ⟨lw_p63, fun _ h => absurd h List.not_mem_nil⟩⟩⟩⟩⟩⟩⟩⟩⟩⟩⟩⟩⟩⟩⟩⟩
theorem lw_p64 : lw_okq (⟨"NinetyPlayersModel", "want", "(J)V"⟩, 80) := ⟨⟨by decide +kernel, by decide +kernel⟩, List.mem_of_getElem? (i := 1255) (by decide +kernel), List.mem_of_getElem? (i := 1552) (by decide +kernel), List.mem_of_getElem? (i := 1553) (by decide +kernel)⟩
theorem lw_p65 : lw_okq (⟨"NinetyPlayersModel", "wrong", "(I)V"⟩, 80) := ⟨⟨by decide +kernel, by decide +kernel⟩, List.mem_of_getElem? (i := 1255) (by decide +kernel), List.mem_of_getElem? (i := 1556) (by decide +kernel), List.mem_of_getElem? (i := 1557) (by decide +kernel)⟩
theorem lw_p66 : lw_okq (⟨"NinetyPlayersModel", "toldNumber", "(II)I"⟩, 80) := ⟨⟨by decide +kernel, by decide +kernel⟩, List.mem_of_getElem? (i := 1255) (by decide +kernel), List.mem_of_getElem? (i := 1560) (by decide +kernel), List.mem_of_getElem? (i := 1561) (by decide +kernel)⟩
theorem lw_p67 : lw_okq (⟨"NinetyPlayersModel", "readPart", "()V"⟩, 80) := ⟨⟨by decide +kernel, by decide +kernel⟩, List.mem_of_getElem? (i := 1255) (by decide +kernel), List.mem_of_getElem? (i := 1565) (by decide +kernel), List.mem_of_getElem? (i := 1566) (by decide +kernel)⟩
theorem lw_p68 : lw_okq (⟨"NinetyPlayersModel", "newName", "(II)V"⟩, 80) := ⟨⟨by decide +kernel, by decide +kernel⟩, List.mem_of_getElem? (i := 1255) (by decide +kernel), List.mem_of_getElem? (i := 1569) (by decide +kernel), List.mem_of_getElem? (i := 1570) (by decide +kernel)⟩
theorem lw_p69 : lw_okq (⟨"NinetyPlayersModel", "isName", "()Z"⟩, 80) := ⟨⟨by decide +kernel, by decide +kernel⟩, List.mem_of_getElem? (i := 1255) (by decide +kernel), List.mem_of_getElem? (i := 1573) (by decide +kernel), List.mem_of_getElem? (i := 1574) (by decide +kernel)⟩
theorem lw_p70 : lw_okq (⟨"NinetyPlayersModel", "isOwn", "()Z"⟩, 80) := ⟨⟨by decide +kernel, by decide +kernel⟩, List.mem_of_getElem? (i := 1255) (by decide +kernel), List.mem_of_getElem? (i := 1577) (by decide +kernel), List.mem_of_getElem? (i := 1578) (by decide +kernel)⟩
theorem lw_p71 : lw_okq (⟨"NinetyPlayersModel", "find", "(II)I"⟩, 80) := ⟨⟨by decide +kernel, by decide +kernel⟩, List.mem_of_getElem? (i := 1255) (by decide +kernel), List.mem_of_getElem? (i := 1600) (by decide +kernel), List.mem_of_getElem? (i := 1601) (by decide +kernel)⟩
theorem lw_p72 : lw_okq (⟨"NinetyPlayersModel", "readNote", "()V"⟩, 80) := ⟨⟨by decide +kernel, by decide +kernel⟩, List.mem_of_getElem? (i := 1255) (by decide +kernel), List.mem_of_getElem? (i := 1607) (by decide +kernel), List.mem_of_getElem? (i := 1608) (by decide +kernel)⟩
theorem lw_p73 : lw_okq (⟨"NinetyPlayersModel", "oldPart", "()I"⟩, 80) := ⟨⟨by decide +kernel, by decide +kernel⟩, List.mem_of_getElem? (i := 1255) (by decide +kernel), List.mem_of_getElem? (i := 1611) (by decide +kernel), List.mem_of_getElem? (i := 1612) (by decide +kernel)⟩
theorem lw_p74 : lw_okq (⟨"NinetyPlayersModel", "formula", "()V"⟩, 80) := ⟨⟨by decide +kernel, by decide +kernel⟩, List.mem_of_getElem? (i := 1255) (by decide +kernel), List.mem_of_getElem? (i := 1615) (by decide +kernel), List.mem_of_getElem? (i := 1616) (by decide +kernel)⟩
theorem lw_p75 : lw_okq (⟨"NinetyPlayersModel", "unit", "()V"⟩, 80) := ⟨⟨by decide +kernel, by decide +kernel⟩, List.mem_of_getElem? (i := 1255) (by decide +kernel), List.mem_of_getElem? (i := 1619) (by decide +kernel), List.mem_of_getElem? (i := 1620) (by decide +kernel)⟩
theorem lw_p76 : lw_okq (⟨"NinetyPlayersModel", "mayNot", "()Z"⟩, 80) := ⟨⟨by decide +kernel, by decide +kernel⟩, List.mem_of_getElem? (i := 1255) (by decide +kernel), List.mem_of_getElem? (i := 1623) (by decide +kernel), List.mem_of_getElem? (i := 1624) (by decide +kernel)⟩
theorem lw_p77 : lw_okq (⟨"NinetyPlayersModel", "openUp", "(I)V"⟩, 80) := ⟨⟨by decide +kernel, by decide +kernel⟩, List.mem_of_getElem? (i := 1255) (by decide +kernel), List.mem_of_getElem? (i := 1630) (by decide +kernel), List.mem_of_getElem? (i := 1631) (by decide +kernel)⟩
theorem lw_p78 : lw_okq (⟨"NinetyPlayersModel", "isFull", "()Z"⟩, 80) := ⟨⟨by decide +kernel, by decide +kernel⟩, List.mem_of_getElem? (i := 1255) (by decide +kernel), List.mem_of_getElem? (i := 1634) (by decide +kernel), List.mem_of_getElem? (i := 1635) (by decide +kernel)⟩
theorem lw_p79 : lw_okq (⟨"NinetyPlayersModel", "countUnit", "()V"⟩, 80) := ⟨⟨by decide +kernel, by decide +kernel⟩, List.mem_of_getElem? (i := 1255) (by decide +kernel), List.mem_of_getElem? (i := 1638) (by decide +kernel), List.mem_of_getElem? (i := 1639) (by decide +kernel)⟩
def lw_privs_5 : List (MethodName × Nat) := [(⟨"NinetyPlayersModel", "want", "(J)V"⟩, 80), (⟨"NinetyPlayersModel", "wrong", "(I)V"⟩, 80), (⟨"NinetyPlayersModel", "toldNumber", "(II)I"⟩, 80), (⟨"NinetyPlayersModel", "readPart", "()V"⟩, 80), (⟨"NinetyPlayersModel", "newName", "(II)V"⟩, 80), (⟨"NinetyPlayersModel", "isName", "()Z"⟩, 80), (⟨"NinetyPlayersModel", "isOwn", "()Z"⟩, 80), (⟨"NinetyPlayersModel", "find", "(II)I"⟩, 80), (⟨"NinetyPlayersModel", "readNote", "()V"⟩, 80), (⟨"NinetyPlayersModel", "oldPart", "()I"⟩, 80), (⟨"NinetyPlayersModel", "formula", "()V"⟩, 80), (⟨"NinetyPlayersModel", "unit", "()V"⟩, 80), (⟨"NinetyPlayersModel", "mayNot", "()Z"⟩, 80), (⟨"NinetyPlayersModel", "openUp", "(I)V"⟩, 80), (⟨"NinetyPlayersModel", "isFull", "()Z"⟩, 80), (⟨"NinetyPlayersModel", "countUnit", "()V"⟩, 80)]
theorem lw_r5 : ∀ q ∈ lw_privs_5, lw_okq q := List.forall_mem_cons.mpr ⟨lw_p64, List.forall_mem_cons.mpr ⟨lw_p65, List.forall_mem_cons.mpr ⟨lw_p66, List.forall_mem_cons.mpr ⟨lw_p67, List.forall_mem_cons.mpr ⟨lw_p68, List.forall_mem_cons.mpr ⟨lw_p69, List.forall_mem_cons.mpr ⟨lw_p70, List.forall_mem_cons.mpr ⟨lw_p71, List.forall_mem_cons.mpr ⟨lw_p72, List.forall_mem_cons.mpr ⟨lw_p73, List.forall_mem_cons.mpr ⟨lw_p74, List.forall_mem_cons.mpr ⟨lw_p75, List.forall_mem_cons.mpr ⟨lw_p76, List.forall_mem_cons.mpr ⟨lw_p77, List.forall_mem_cons.mpr ⟨lw_p78, List.forall_mem_cons.mpr ⟨lw_p79, fun _ h => absurd h List.not_mem_nil⟩⟩⟩⟩⟩⟩⟩⟩⟩⟩⟩⟩⟩⟩⟩⟩
theorem lw_p80 : lw_okq (⟨"NinetyPlayersModel", "asked", "()I"⟩, 80) := ⟨⟨by decide +kernel, by decide +kernel⟩, List.mem_of_getElem? (i := 1255) (by decide +kernel), List.mem_of_getElem? (i := 1642) (by decide +kernel), List.mem_of_getElem? (i := 1643) (by decide +kernel)⟩
theorem lw_p81 : lw_okq (⟨"NinetyPlayersModel", "add", "(II)V"⟩, 80) := ⟨⟨by decide +kernel, by decide +kernel⟩, List.mem_of_getElem? (i := 1255) (by decide +kernel), List.mem_of_getElem? (i := 1646) (by decide +kernel), List.mem_of_getElem? (i := 1647) (by decide +kernel)⟩
theorem lw_p82 : lw_okq (⟨"NinetyPlayersModel", "sign", "()I"⟩, 80) := ⟨⟨by decide +kernel, by decide +kernel⟩, List.mem_of_getElem? (i := 1255) (by decide +kernel), List.mem_of_getElem? (i := 1650) (by decide +kernel), List.mem_of_getElem? (i := 1651) (by decide +kernel)⟩
theorem lw_p83 : lw_okq (⟨"NinetyPlayersModel", "hasBracket", "()Z"⟩, 80) := ⟨⟨by decide +kernel, by decide +kernel⟩, List.mem_of_getElem? (i := 1255) (by decide +kernel), List.mem_of_getElem? (i := 1654) (by decide +kernel), List.mem_of_getElem? (i := 1655) (by decide +kernel)⟩
theorem lw_p84 : lw_okq (⟨"NinetyPlayersModel", "close", "(I)V"⟩, 80) := ⟨⟨by decide +kernel, by decide +kernel⟩, List.mem_of_getElem? (i := 1255) (by decide +kernel), List.mem_of_getElem? (i := 1658) (by decide +kernel), List.mem_of_getElem? (i := 1659) (by decide +kernel)⟩
theorem lw_p85 : lw_okq (⟨"NinetyPlayersModel", "hasRelation", "()Z"⟩, 80) := ⟨⟨by decide +kernel, by decide +kernel⟩, List.mem_of_getElem? (i := 1255) (by decide +kernel), List.mem_of_getElem? (i := 1662) (by decide +kernel), List.mem_of_getElem? (i := 1663) (by decide +kernel)⟩
theorem lw_p86 : lw_okq (⟨"NinetyPlayersModel", "begin", "()V"⟩, 80) := ⟨⟨by decide +kernel, by decide +kernel⟩, List.mem_of_getElem? (i := 1255) (by decide +kernel), List.mem_of_getElem? (i := 1666) (by decide +kernel), List.mem_of_getElem? (i := 1667) (by decide +kernel)⟩
theorem lw_p87 : lw_okq (⟨"NinetyPlayersModel", "keepAir", "()V"⟩, 80) := ⟨⟨by decide +kernel, by decide +kernel⟩, List.mem_of_getElem? (i := 1255) (by decide +kernel), List.mem_of_getElem? (i := 1670) (by decide +kernel), List.mem_of_getElem? (i := 1671) (by decide +kernel)⟩
theorem lw_p88 : lw_okq (⟨"NinetyPlayersModel", "isNote", "(I)Z"⟩, 80) := ⟨⟨by decide +kernel, by decide +kernel⟩, List.mem_of_getElem? (i := 1255) (by decide +kernel), List.mem_of_getElem? (i := 1682) (by decide +kernel), List.mem_of_getElem? (i := 1683) (by decide +kernel)⟩
theorem lw_p89 : lw_okq (⟨"NinetyPlayersModel", "fill", "()V"⟩, 80) := ⟨⟨by decide +kernel, by decide +kernel⟩, List.mem_of_getElem? (i := 1255) (by decide +kernel), List.mem_of_getElem? (i := 1689) (by decide +kernel), List.mem_of_getElem? (i := 1690) (by decide +kernel)⟩
theorem lw_p90 : lw_okq (⟨"NinetyPlayersModel", "layHold", "()V"⟩, 80) := ⟨⟨by decide +kernel, by decide +kernel⟩, List.mem_of_getElem? (i := 1255) (by decide +kernel), List.mem_of_getElem? (i := 1693) (by decide +kernel), List.mem_of_getElem? (i := 1694) (by decide +kernel)⟩
theorem lw_p91 : lw_okq (⟨"NinetyPlayersModel", "missedOf", "(I)I"⟩, 80) := ⟨⟨by decide +kernel, by decide +kernel⟩, List.mem_of_getElem? (i := 1255) (by decide +kernel), List.mem_of_getElem? (i := 1697) (by decide +kernel), List.mem_of_getElem? (i := 1698) (by decide +kernel)⟩
theorem lw_p92 : lw_okq (⟨"NinetyPlayersModel", "doubles", "(I)I"⟩, 80) := ⟨⟨by decide +kernel, by decide +kernel⟩, List.mem_of_getElem? (i := 1255) (by decide +kernel), List.mem_of_getElem? (i := 1701) (by decide +kernel), List.mem_of_getElem? (i := 1702) (by decide +kernel)⟩
theorem lw_p93 : lw_okq (⟨"NinetyPlayersModel", "notesOf", "(I)I"⟩, 80) := ⟨⟨by decide +kernel, by decide +kernel⟩, List.mem_of_getElem? (i := 1255) (by decide +kernel), List.mem_of_getElem? (i := 1721) (by decide +kernel), List.mem_of_getElem? (i := 1722) (by decide +kernel)⟩
theorem lw_p94 : lw_okq (⟨"NinetyPlayersModel", "given", "(I)I"⟩, 80) := ⟨⟨by decide +kernel, by decide +kernel⟩, List.mem_of_getElem? (i := 1255) (by decide +kernel), List.mem_of_getElem? (i := 1725) (by decide +kernel), List.mem_of_getElem? (i := 1726) (by decide +kernel)⟩
theorem lw_p95 : lw_okq (⟨"NinetyPlayersModel", "isBeat", "(I)Z"⟩, 80) := ⟨⟨by decide +kernel, by decide +kernel⟩, List.mem_of_getElem? (i := 1255) (by decide +kernel), List.mem_of_getElem? (i := 1733) (by decide +kernel), List.mem_of_getElem? (i := 1734) (by decide +kernel)⟩
def lw_privs_6 : List (MethodName × Nat) := [(⟨"NinetyPlayersModel", "asked", "()I"⟩, 80), (⟨"NinetyPlayersModel", "add", "(II)V"⟩, 80), (⟨"NinetyPlayersModel", "sign", "()I"⟩, 80), (⟨"NinetyPlayersModel", "hasBracket", "()Z"⟩, 80), (⟨"NinetyPlayersModel", "close", "(I)V"⟩, 80), (⟨"NinetyPlayersModel", "hasRelation", "()Z"⟩, 80), (⟨"NinetyPlayersModel", "begin", "()V"⟩, 80), (⟨"NinetyPlayersModel", "keepAir", "()V"⟩, 80), (⟨"NinetyPlayersModel", "isNote", "(I)Z"⟩, 80), (⟨"NinetyPlayersModel", "fill", "()V"⟩, 80), (⟨"NinetyPlayersModel", "layHold", "()V"⟩, 80), (⟨"NinetyPlayersModel", "missedOf", "(I)I"⟩, 80), (⟨"NinetyPlayersModel", "doubles", "(I)I"⟩, 80), (⟨"NinetyPlayersModel", "notesOf", "(I)I"⟩, 80), (⟨"NinetyPlayersModel", "given", "(I)I"⟩, 80), (⟨"NinetyPlayersModel", "isBeat", "(I)Z"⟩, 80)]
theorem lw_r6 : ∀ q ∈ lw_privs_6, lw_okq q := List.forall_mem_cons.mpr ⟨lw_p80, List.forall_mem_cons.mpr ⟨lw_p81, List.forall_mem_cons.mpr ⟨lw_p82, List.forall_mem_cons.mpr ⟨lw_p83, List.forall_mem_cons.mpr ⟨lw_p84, List.forall_mem_cons.mpr ⟨lw_p85, List.forall_mem_cons.mpr ⟨lw_p86, List.forall_mem_cons.mpr ⟨lw_p87, List.forall_mem_cons.mpr ⟨lw_p88, List.forall_mem_cons.mpr ⟨lw_p89, List.forall_mem_cons.mpr ⟨lw_p90, List.forall_mem_cons.mpr ⟨lw_p91, List.forall_mem_cons.mpr ⟨lw_p92, List.forall_mem_cons.mpr ⟨lw_p93, List.forall_mem_cons.mpr ⟨lw_p94, List.forall_mem_cons.mpr ⟨lw_p95, fun _ h => absurd h List.not_mem_nil⟩⟩⟩⟩⟩⟩⟩⟩⟩⟩⟩⟩⟩⟩⟩⟩
theorem lw_p96 : lw_okq (⟨"NinetyPlayersModel", "laySound", "()V"⟩, 80) := ⟨⟨by decide +kernel, by decide +kernel⟩, List.mem_of_getElem? (i := 1255) (by decide +kernel), List.mem_of_getElem? (i := 1744) (by decide +kernel), List.mem_of_getElem? (i := 1745) (by decide +kernel)⟩
theorem lw_p97 : lw_okq (⟨"NinetyPlayersModel", "clashBy", "(IIIII)I"⟩, 80) := ⟨⟨by decide +kernel, by decide +kernel⟩, List.mem_of_getElem? (i := 1255) (by decide +kernel), List.mem_of_getElem? (i := 1752) (by decide +kernel), List.mem_of_getElem? (i := 1753) (by decide +kernel)⟩
theorem lw_p98 : lw_okq (⟨"NinetyPlayersModel", "ownClash", "(IIII)I"⟩, 80) := ⟨⟨by decide +kernel, by decide +kernel⟩, List.mem_of_getElem? (i := 1255) (by decide +kernel), List.mem_of_getElem? (i := 1756) (by decide +kernel), List.mem_of_getElem? (i := 1757) (by decide +kernel)⟩
theorem lw_p99 : lw_okq (⟨"NinetyPlayersModel", "lowest", "(I)I"⟩, 80) := ⟨⟨by decide +kernel, by decide +kernel⟩, List.mem_of_getElem? (i := 1255) (by decide +kernel), List.mem_of_getElem? (i := 1760) (by decide +kernel), List.mem_of_getElem? (i := 1761) (by decide +kernel)⟩
theorem lw_p100 : lw_okq (⟨"NinetyPlayersModel", "highest", "(I)I"⟩, 80) := ⟨⟨by decide +kernel, by decide +kernel⟩, List.mem_of_getElem? (i := 1255) (by decide +kernel), List.mem_of_getElem? (i := 1765) (by decide +kernel), List.mem_of_getElem? (i := 1766) (by decide +kernel)⟩
theorem lw_p101 : lw_okq (⟨"NinetyPlayersModel", "hasTwins", "(I)Z"⟩, 80) := ⟨⟨by decide +kernel, by decide +kernel⟩, List.mem_of_getElem? (i := 1255) (by decide +kernel), List.mem_of_getElem? (i := 1769) (by decide +kernel), List.mem_of_getElem? (i := 1770) (by decide +kernel)⟩
theorem lw_p102 : lw_okq (⟨"NinetyPlayersModel", "clashBeats", "(I)I"⟩, 80) := ⟨⟨by decide +kernel, by decide +kernel⟩, List.mem_of_getElem? (i := 1255) (by decide +kernel), List.mem_of_getElem? (i := 1777) (by decide +kernel), List.mem_of_getElem? (i := 1778) (by decide +kernel)⟩
theorem lw_p103 : lw_okq (⟨"NinetyPlayersModel", "act", "()V"⟩, 80) := ⟨⟨by decide +kernel, by decide +kernel⟩, List.mem_of_getElem? (i := 1255) (by decide +kernel), List.mem_of_getElem? (i := 1785) (by decide +kernel), List.mem_of_getElem? (i := 1786) (by decide +kernel)⟩
theorem lw_p104 : lw_okq (⟨"NinetyPlayersModel", "change", "(II)I"⟩, 80) := ⟨⟨by decide +kernel, by decide +kernel⟩, List.mem_of_getElem? (i := 1255) (by decide +kernel), List.mem_of_getElem? (i := 1798) (by decide +kernel), List.mem_of_getElem? (i := 1799) (by decide +kernel)⟩
theorem lw_p105 : lw_okq (⟨"NinetyPlayersModel", "exchange", "(I)V"⟩, 80) := ⟨⟨by decide +kernel, by decide +kernel⟩, List.mem_of_getElem? (i := 1255) (by decide +kernel), List.mem_of_getElem? (i := 1814) (by decide +kernel), List.mem_of_getElem? (i := 1815) (by decide +kernel)⟩
theorem lw_p106 : lw_okq (⟨"NinetyPlayersModel", "layMissed", "()V"⟩, 80) := ⟨⟨by decide +kernel, by decide +kernel⟩, List.mem_of_getElem? (i := 1255) (by decide +kernel), List.mem_of_getElem? (i := 1826) (by decide +kernel), List.mem_of_getElem? (i := 1827) (by decide +kernel)⟩
theorem lw_p107 : lw_okq (⟨"NinetyPlayersModel", "missedBy", "(I)I"⟩, 80) := ⟨⟨by decide +kernel, by decide +kernel⟩, List.mem_of_getElem? (i := 1255) (by decide +kernel), List.mem_of_getElem? (i := 1830) (by decide +kernel), List.mem_of_getElem? (i := 1831) (by decide +kernel)⟩
theorem lw_p108 : lw_okq (⟨"NinetyPlayersModel", "best", "(II)I"⟩, 80) := ⟨⟨by decide +kernel, by decide +kernel⟩, List.mem_of_getElem? (i := 1255) (by decide +kernel), List.mem_of_getElem? (i := 1838) (by decide +kernel), List.mem_of_getElem? (i := 1839) (by decide +kernel)⟩
theorem lw_p109 : lw_okq (⟨"NinetyPlayersModel", "layVersion", "(I)I"⟩, 80) := ⟨⟨by decide +kernel, by decide +kernel⟩, List.mem_of_getElem? (i := 1255) (by decide +kernel), List.mem_of_getElem? (i := 1845) (by decide +kernel), List.mem_of_getElem? (i := 1846) (by decide +kernel)⟩
theorem lw_p110 : lw_okq (⟨"NinetyPlayersModel", "rowOf", "(I)I"⟩, 80) := ⟨⟨by decide +kernel, by decide +kernel⟩, List.mem_of_getElem? (i := 1255) (by decide +kernel), List.mem_of_getElem? (i := 1849) (by decide +kernel), List.mem_of_getElem? (i := 1850) (by decide +kernel)⟩
theorem lw_p111 : lw_okq (⟨"NinetyPlayersModel", "canBePlayed", "(IIII)Z"⟩, 80) := ⟨⟨by decide +kernel, by decide +kernel⟩, List.mem_of_getElem? (i := 1255) (by decide +kernel), List.mem_of_getElem? (i := 1853) (by decide +kernel), List.mem_of_getElem? (i := 1854) (by decide +kernel)⟩
def lw_privs_7 : List (MethodName × Nat) := [(⟨"NinetyPlayersModel", "laySound", "()V"⟩, 80), (⟨"NinetyPlayersModel", "clashBy", "(IIIII)I"⟩, 80), (⟨"NinetyPlayersModel", "ownClash", "(IIII)I"⟩, 80), (⟨"NinetyPlayersModel", "lowest", "(I)I"⟩, 80), (⟨"NinetyPlayersModel", "highest", "(I)I"⟩, 80), (⟨"NinetyPlayersModel", "hasTwins", "(I)Z"⟩, 80), (⟨"NinetyPlayersModel", "clashBeats", "(I)I"⟩, 80), (⟨"NinetyPlayersModel", "act", "()V"⟩, 80), (⟨"NinetyPlayersModel", "change", "(II)I"⟩, 80), (⟨"NinetyPlayersModel", "exchange", "(I)V"⟩, 80), (⟨"NinetyPlayersModel", "layMissed", "()V"⟩, 80), (⟨"NinetyPlayersModel", "missedBy", "(I)I"⟩, 80), (⟨"NinetyPlayersModel", "best", "(II)I"⟩, 80), (⟨"NinetyPlayersModel", "layVersion", "(I)I"⟩, 80), (⟨"NinetyPlayersModel", "rowOf", "(I)I"⟩, 80), (⟨"NinetyPlayersModel", "canBePlayed", "(IIII)Z"⟩, 80)]
theorem lw_r7 : ∀ q ∈ lw_privs_7, lw_okq q := List.forall_mem_cons.mpr ⟨lw_p96, List.forall_mem_cons.mpr ⟨lw_p97, List.forall_mem_cons.mpr ⟨lw_p98, List.forall_mem_cons.mpr ⟨lw_p99, List.forall_mem_cons.mpr ⟨lw_p100, List.forall_mem_cons.mpr ⟨lw_p101, List.forall_mem_cons.mpr ⟨lw_p102, List.forall_mem_cons.mpr ⟨lw_p103, List.forall_mem_cons.mpr ⟨lw_p104, List.forall_mem_cons.mpr ⟨lw_p105, List.forall_mem_cons.mpr ⟨lw_p106, List.forall_mem_cons.mpr ⟨lw_p107, List.forall_mem_cons.mpr ⟨lw_p108, List.forall_mem_cons.mpr ⟨lw_p109, List.forall_mem_cons.mpr ⟨lw_p110, List.forall_mem_cons.mpr ⟨lw_p111, fun _ h => absurd h List.not_mem_nil⟩⟩⟩⟩⟩⟩⟩⟩⟩⟩⟩⟩⟩⟩⟩⟩
theorem lw_p112 : lw_okq (⟨"NinetyPlayersModel", "isOut", "(I)Z"⟩, 80) := ⟨⟨by decide +kernel, by decide +kernel⟩, List.mem_of_getElem? (i := 1255) (by decide +kernel), List.mem_of_getElem? (i := 1865) (by decide +kernel), List.mem_of_getElem? (i := 1866) (by decide +kernel)⟩
theorem lw_p113 : lw_okq (⟨"NinetyPlayersModel", "forbidden", "(II)I"⟩, 80) := ⟨⟨by decide +kernel, by decide +kernel⟩, List.mem_of_getElem? (i := 1255) (by decide +kernel), List.mem_of_getElem? (i := 1869) (by decide +kernel), List.mem_of_getElem? (i := 1870) (by decide +kernel)⟩
theorem lw_p114 : lw_okq (⟨"NinetyPlayersModel", "letsIn", "(III)Z"⟩, 80) := ⟨⟨by decide +kernel, by decide +kernel⟩, List.mem_of_getElem? (i := 1255) (by decide +kernel), List.mem_of_getElem? (i := 1885) (by decide +kernel), List.mem_of_getElem? (i := 1886) (by decide +kernel)⟩
theorem lw_p115 : lw_okq (⟨"NinetyPlayersModel", "canBePlayedSo", "()Z"⟩, 80) := ⟨⟨by decide +kernel, by decide +kernel⟩, List.mem_of_getElem? (i := 1255) (by decide +kernel), List.mem_of_getElem? (i := 1889) (by decide +kernel), List.mem_of_getElem? (i := 1890) (by decide +kernel)⟩
theorem lw_p116 : lw_okq (⟨"NinetyPlayersModel", "blurs", "(III)Z"⟩, 80) := ⟨⟨by decide +kernel, by decide +kernel⟩, List.mem_of_getElem? (i := 1255) (by decide +kernel), List.mem_of_getElem? (i := 1916) (by decide +kernel), List.mem_of_getElem? (i := 1917) (by decide +kernel)⟩
theorem lw_p117 : lw_okq (⟨"NinetyPlayersModel", "openAt", "(I)I"⟩, 80) := ⟨⟨by decide +kernel, by decide +kernel⟩, List.mem_of_getElem? (i := 1255) (by decide +kernel), List.mem_of_getElem? (i := 1924) (by decide +kernel), List.mem_of_getElem? (i := 1925) (by decide +kernel)⟩
theorem lw_p118 : lw_okq (⟨"NinetyPlayersModel", "tunes", "()I"⟩, 80) := ⟨⟨by decide +kernel, by decide +kernel⟩, List.mem_of_getElem? (i := 1255) (by decide +kernel), List.mem_of_getElem? (i := 1932) (by decide +kernel), List.mem_of_getElem? (i := 1933) (by decide +kernel)⟩
theorem lw_p119 : lw_okq (⟨"NinetyPlayersModel", "laySets", "(I)I"⟩, 80) := ⟨⟨by decide +kernel, by decide +kernel⟩, List.mem_of_getElem? (i := 1255) (by decide +kernel), List.mem_of_getElem? (i := 1977) (by decide +kernel), List.mem_of_getElem? (i := 1978) (by decide +kernel)⟩
theorem lw_p120 : lw_okq (⟨"NinetyPlayersModel", "sayersOf", "(I)I"⟩, 80) := ⟨⟨by decide +kernel, by decide +kernel⟩, List.mem_of_getElem? (i := 1255) (by decide +kernel), List.mem_of_getElem? (i := 1981) (by decide +kernel), List.mem_of_getElem? (i := 1982) (by decide +kernel)⟩
theorem lw_p121 : lw_okq (⟨"NinetyPlayersModel", "counts", "(II)Z"⟩, 80) := ⟨⟨by decide +kernel, by decide +kernel⟩, List.mem_of_getElem? (i := 1255) (by decide +kernel), List.mem_of_getElem? (i := 1985) (by decide +kernel), List.mem_of_getElem? (i := 1986) (by decide +kernel)⟩
theorem lw_p122 : lw_okq (⟨"NinetyPlayersModel", "played", "()I"⟩, 80) := ⟨⟨by decide +kernel, by decide +kernel⟩, List.mem_of_getElem? (i := 1255) (by decide +kernel), List.mem_of_getElem? (i := 2004) (by decide +kernel), List.mem_of_getElem? (i := 2005) (by decide +kernel)⟩
def lw_privs_8 : List (MethodName × Nat) := [(⟨"NinetyPlayersModel", "isOut", "(I)Z"⟩, 80), (⟨"NinetyPlayersModel", "forbidden", "(II)I"⟩, 80), (⟨"NinetyPlayersModel", "letsIn", "(III)Z"⟩, 80), (⟨"NinetyPlayersModel", "canBePlayedSo", "()Z"⟩, 80), (⟨"NinetyPlayersModel", "blurs", "(III)Z"⟩, 80), (⟨"NinetyPlayersModel", "openAt", "(I)I"⟩, 80), (⟨"NinetyPlayersModel", "tunes", "()I"⟩, 80), (⟨"NinetyPlayersModel", "laySets", "(I)I"⟩, 80), (⟨"NinetyPlayersModel", "sayersOf", "(I)I"⟩, 80), (⟨"NinetyPlayersModel", "counts", "(II)Z"⟩, 80), (⟨"NinetyPlayersModel", "played", "()I"⟩, 80)]
theorem lw_r8 : ∀ q ∈ lw_privs_8, lw_okq q := List.forall_mem_cons.mpr ⟨lw_p112, List.forall_mem_cons.mpr ⟨lw_p113, List.forall_mem_cons.mpr ⟨lw_p114, List.forall_mem_cons.mpr ⟨lw_p115, List.forall_mem_cons.mpr ⟨lw_p116, List.forall_mem_cons.mpr ⟨lw_p117, List.forall_mem_cons.mpr ⟨lw_p118, List.forall_mem_cons.mpr ⟨lw_p119, List.forall_mem_cons.mpr ⟨lw_p120, List.forall_mem_cons.mpr ⟨lw_p121, List.forall_mem_cons.mpr ⟨lw_p122, fun _ h => absurd h List.not_mem_nil⟩⟩⟩⟩⟩⟩⟩⟩⟩⟩⟩
def lw_privs : List (MethodName × Nat) := lw_privs_1 ++ (lw_privs_2 ++ (lw_privs_3 ++ (lw_privs_4 ++ (lw_privs_5 ++ (lw_privs_6 ++ (lw_privs_7 ++ (lw_privs_8)))))))
def lw_tbl : List Cond := k2_sels lw_privs ++ tables_1
theorem lw_privs_ok : ∀ q ∈ lw_privs, lw_okq q := by
  show ∀ q ∈ lw_privs_1 ++ (lw_privs_2 ++ (lw_privs_3 ++ (lw_privs_4 ++ (lw_privs_5 ++ (lw_privs_6 ++ (lw_privs_7 ++ (lw_privs_8))))))), lw_okq q
  exact List.forall_mem_append.mpr ⟨lw_r1, List.forall_mem_append.mpr ⟨lw_r2, List.forall_mem_append.mpr ⟨lw_r3, List.forall_mem_append.mpr ⟨lw_r4, List.forall_mem_append.mpr ⟨lw_r5, List.forall_mem_append.mpr ⟨lw_r6, List.forall_mem_append.mpr ⟨lw_r7, lw_r8⟩⟩⟩⟩⟩⟩⟩
end
section
/-! class tables: a class by its number, its fields in the order of their slots -/
def cT0 : u_T := fun k => match k with
  | 0 => ("NinetyPlayers", "tape", "[B", true)
  | 1 => ("NinetyPlayers", "tapeSize", "I", false)
  | 2 => ("NinetyPlayers", "reader", "LNinetyPlayers$Reader;", true)
  | 3 => ("NinetyPlayers", "told", "LNinetyPlayers$Score;", false)
  | 4 => ("NinetyPlayers", "now", "LNinetyPlayers$Laying;", true)
  | 5 => ("NinetyPlayers", "boxes", "[LNinetyPlayers$Laying;", true)
  | 6 => ("NinetyPlayers", "acts", "LNinetyPlayers$Acts;", true)
  | 7 => ("NinetyPlayers", "keyboard", "LNinetyPlayers$Keyboard;", true)
  | 8 => ("NinetyPlayers", "missed", "[I", true)
  | 9 => ("NinetyPlayers", "arranger", "LNinetyPlayers$Arranger;", true)
  | 10 => ("NinetyPlayers", "pedaller", "LNinetyPlayers$Pedaller;", true)
  | 11 => ("NinetyPlayers", "witness", "LNinetyPlayers$Witness;", true)
  | 12 => ("NinetyPlayers", "lying", "[I", true)
  | _ => ("NinetyPlayers", "lyingSize", "I", false)
def cY0 : Nat → FieldType := fun k => match k with
  | 0 => .array .byte
  | 1 => .int
  | 2 => .object "NinetyPlayers$Reader"
  | 3 => .object "NinetyPlayers$Score"
  | 4 => .object "NinetyPlayers$Laying"
  | 5 => .array (.object "NinetyPlayers$Laying")
  | 6 => .object "NinetyPlayers$Acts"
  | 7 => .object "NinetyPlayers$Keyboard"
  | 8 => .array .int
  | 9 => .object "NinetyPlayers$Arranger"
  | 10 => .object "NinetyPlayers$Pedaller"
  | 11 => .object "NinetyPlayers$Witness"
  | 12 => .array .int
  | _ => .int
def cT1 : u_T := fun k => match k with
  | 0 => ("NinetyPlayers$Reader", "fault", "I", false)
  | 1 => ("NinetyPlayers$Reader", "place", "I", false)
  | 2 => ("NinetyPlayers$Reader", "tokens", "LNinetyPlayers$Tokens;", true)
  | 3 => ("NinetyPlayers$Reader", "draft", "LNinetyPlayers$Score;", false)
  | _ => ("NinetyPlayers$Reader", "begun", "I", false)
def cY1 : Nat → FieldType := fun k => match k with
  | 0 => .int
  | 1 => .int
  | 2 => .object "NinetyPlayers$Tokens"
  | 3 => .object "NinetyPlayers$Score"
  | _ => .int
def cT2 : u_T := fun k => match k with
  | 0 => ("NinetyPlayers$Score", "beats", "I", false)
  | 1 => ("NinetyPlayers$Score", "span", "I", false)
  | 2 => ("NinetyPlayers$Score", "fingers", "I", false)
  | 3 => ("NinetyPlayers$Score", "leap", "I", false)
  | 4 => ("NinetyPlayers$Score", "ear", "I", false)
  | 5 => ("NinetyPlayers$Score", "parts", "I", false)
  | 6 => ("NinetyPlayers$Score", "notes", "I", false)
  | 7 => ("NinetyPlayers$Score", "partNames", "[J", true)
  | 8 => ("NinetyPlayers$Score", "roles", "[I", true)
  | 9 => ("NinetyPlayers$Score", "noteNames", "[J", true)
  | 10 => ("NinetyPlayers$Score", "partOf", "[I", true)
  | 11 => ("NinetyPlayers$Score", "begins", "[I", true)
  | 12 => ("NinetyPlayers$Score", "keys", "[I", true)
  | 13 => ("NinetyPlayers$Score", "lengths", "[I", true)
  | 14 => ("NinetyPlayers$Score", "louds", "[I", true)
  | _ => ("NinetyPlayers$Score", "formula", "LNinetyPlayers$Formula;", true)
def cY2 : Nat → FieldType := fun k => match k with
  | 0 => .int
  | 1 => .int
  | 2 => .int
  | 3 => .int
  | 4 => .int
  | 5 => .int
  | 6 => .int
  | 7 => .array .long
  | 8 => .array .int
  | 9 => .array .long
  | 10 => .array .int
  | 11 => .array .int
  | 12 => .array .int
  | 13 => .array .int
  | 14 => .array .int
  | _ => .object "NinetyPlayers$Formula"
def cT3 : u_T := fun k => match k with
  | 0 => ("NinetyPlayers$Formula", "units", "I", false)
  | 1 => ("NinetyPlayers$Formula", "size", "I", false)
  | 2 => ("NinetyPlayers$Formula", "code", "[I", true)
  | 3 => ("NinetyPlayers$Formula", "stack", "[I", true)
  | 4 => ("NinetyPlayers$Formula", "facts", "[I", true)
  | _ => ("NinetyPlayers$Formula", "depth", "I", false)
def cY3 : Nat → FieldType := fun k => match k with
  | 0 => .int
  | 1 => .int
  | 2 => .array .int
  | 3 => .array .int
  | 4 => .array .int
  | _ => .int
def cT4 : u_T := fun k => match k with
  | 0 => ("NinetyPlayers$Tokens", "text", "[B", true)
  | 1 => ("NinetyPlayers$Tokens", "size", "I", false)
  | 2 => ("NinetyPlayers$Tokens", "next", "I", false)
  | 3 => ("NinetyPlayers$Tokens", "place", "I", false)
  | 4 => ("NinetyPlayers$Tokens", "kind", "I", false)
  | 5 => ("NinetyPlayers$Tokens", "value", "I", false)
  | _ => ("NinetyPlayers$Tokens", "name", "J", false)
def cY4 : Nat → FieldType := fun k => match k with
  | 0 => .array .byte
  | 1 => .int
  | 2 => .int
  | 3 => .int
  | 4 => .int
  | 5 => .int
  | _ => .long
def cT5 : u_T := fun k => match k with
  | 0 => ("NinetyPlayers$Laying", "kept", "Z", false)
  | 1 => ("NinetyPlayers$Laying", "pedal", "I", false)
  | 2 => ("NinetyPlayers$Laying", "hands", "[I", true)
  | 3 => ("NinetyPlayers$Laying", "keys", "[I", true)
  | 4 => ("NinetyPlayers$Laying", "lengths", "[I", true)
  | _ => ("NinetyPlayers$Laying", "louds", "[I", true)
def cY5 : Nat → FieldType := fun k => match k with
  | 0 => .boolean
  | 1 => .int
  | 2 => .array .int
  | 3 => .array .int
  | 4 => .array .int
  | _ => .array .int
def cT6 : u_T := fun k => match k with
  | 0 => ("NinetyPlayers$Acts", "done", "I", false)
  | 1 => ("NinetyPlayers$Acts", "kept", "I", false)
  | 2 => ("NinetyPlayers$Acts", "kinds", "[I", true)
  | 3 => ("NinetyPlayers$Acts", "whichs", "[I", true)
  | 4 => ("NinetyPlayers$Acts", "befores", "[I", true)
  | _ => ("NinetyPlayers$Acts", "afters", "[I", true)
def cY6 : Nat → FieldType := fun k => match k with
  | 0 => .int
  | 1 => .int
  | 2 => .array .int
  | 3 => .array .int
  | 4 => .array .int
  | _ => .array .int
def cT7 : u_T := fun k => match k with
  | 0 => ("NinetyPlayers$Keyboard", "beats", "I", false)
  | 1 => ("NinetyPlayers$Keyboard", "notes", "I", false)
  | 2 => ("NinetyPlayers$Keyboard", "span", "I", false)
  | 3 => ("NinetyPlayers$Keyboard", "fingers", "I", false)
  | 4 => ("NinetyPlayers$Keyboard", "leap", "I", false)
  | 5 => ("NinetyPlayers$Keyboard", "left", "I", false)
  | 6 => ("NinetyPlayers$Keyboard", "right", "I", false)
  | 7 => ("NinetyPlayers$Keyboard", "pedal", "I", false)
  | 8 => ("NinetyPlayers$Keyboard", "keys", "[I", true)
  | 9 => ("NinetyPlayers$Keyboard", "begins", "[I", true)
  | 10 => ("NinetyPlayers$Keyboard", "lengths", "[I", true)
  | _ => ("NinetyPlayers$Keyboard", "timely", "[I", true)
def cY7 : Nat → FieldType := fun k => match k with
  | 0 => .int
  | 1 => .int
  | 2 => .int
  | 3 => .int
  | 4 => .int
  | 5 => .int
  | 6 => .int
  | 7 => .int
  | 8 => .array .int
  | 9 => .array .int
  | 10 => .array .int
  | _ => .array .int
def cT8 : u_T := fun k => match k with
  | 0 => ("NinetyPlayers$Arranger", "keyboard", "LNinetyPlayers$Keyboard;", true)
  | 1 => ("NinetyPlayers$Arranger", "missed", "[I", true)
  | 2 => ("NinetyPlayers$Arranger", "loss", "I", false)
  | 3 => ("NinetyPlayers$Arranger", "left", "I", false)
  | 4 => ("NinetyPlayers$Arranger", "right", "I", false)
  | 5 => ("NinetyPlayers$Arranger", "barsSame", "[I", true)
  | 6 => ("NinetyPlayers$Arranger", "barsRight", "[I", true)
  | 7 => ("NinetyPlayers$Arranger", "barsLeft", "[I", true)
  | _ => ("NinetyPlayers$Arranger", "settledLeaps", "[I", true)
def cY8 : Nat → FieldType := fun k => match k with
  | 0 => .object "NinetyPlayers$Keyboard"
  | 1 => .array .int
  | 2 => .int
  | 3 => .int
  | 4 => .int
  | 5 => .array .int
  | 6 => .array .int
  | 7 => .array .int
  | _ => .array .int
def cT9 : u_T := fun k => match k with
  | 0 => ("NinetyPlayers$Pedaller", "keyboard", "LNinetyPlayers$Keyboard;", true)
  | _ => ("NinetyPlayers$Pedaller", "bests", "[I", true)
def cY9 : Nat → FieldType := fun k => match k with
  | 0 => .object "NinetyPlayers$Keyboard"
  | _ => .array .int
def cT10 : u_T := fun k => match k with
  | 0 => ("NinetyPlayers$Witness", "size", "I", false)
  | 1 => ("NinetyPlayers$Witness", "time", "I", false)
  | 2 => ("NinetyPlayers$Witness", "all", "I", false)
  | 3 => ("NinetyPlayers$Witness", "with", "[I", true)
  | 4 => ("NinetyPlayers$Witness", "beats", "[I", true)
  | 5 => ("NinetyPlayers$Witness", "keys", "[I", true)
  | 6 => ("NinetyPlayers$Witness", "was", "[Z", true)
  | 7 => ("NinetyPlayers$Witness", "toldAt", "[I", true)
  | 8 => ("NinetyPlayers$Witness", "untoldAt", "[I", true)
  | 9 => ("NinetyPlayers$Witness", "someOf", "[I", true)
  | 10 => ("NinetyPlayers$Witness", "somes", "I", false)
  | _ => ("NinetyPlayers$Witness", "noneOf", "I", false)
def cY10 : Nat → FieldType := fun k => match k with
  | 0 => .int
  | 1 => .int
  | 2 => .int
  | 3 => .array .int
  | 4 => .array .int
  | 5 => .array .int
  | 6 => .array .boolean
  | 7 => .array .int
  | 8 => .array .int
  | 9 => .array .int
  | 10 => .int
  | _ => .int
def cT11 : u_T := fun k => match k with
  | 0 => ("NinetyPlayersModel", "tape", "[I", true)
  | 1 => ("NinetyPlayersModel", "taped", "I", false)
  | 2 => ("NinetyPlayersModel", "fault", "I", false)
  | 3 => ("NinetyPlayersModel", "faultPlace", "I", false)
  | 4 => ("NinetyPlayersModel", "at", "I", false)
  | 5 => ("NinetyPlayersModel", "size", "I", false)
  | 6 => ("NinetyPlayersModel", "sort", "I", false)
  | 7 => ("NinetyPlayersModel", "place", "I", false)
  | 8 => ("NinetyPlayersModel", "number", "I", false)
  | 9 => ("NinetyPlayersModel", "word", "J", false)
  | 10 => ("NinetyPlayersModel", "nName", "[J", true)
  | 11 => ("NinetyPlayersModel", "nStep", "[I", true)
  | 12 => ("NinetyPlayersModel", "nArg", "[I", true)
  | 13 => ("NinetyPlayersModel", "step", "[I", true)
  | 14 => ("NinetyPlayersModel", "arg", "[I", true)
  | 15 => ("NinetyPlayersModel", "wait", "[I", true)
  | 16 => ("NinetyPlayersModel", "values", "[I", true)
  | 17 => ("NinetyPlayersModel", "nMany", "I", false)
  | 18 => ("NinetyPlayersModel", "steps", "I", false)
  | 19 => ("NinetyPlayersModel", "opens", "I", false)
  | 20 => ("NinetyPlayersModel", "nUnits", "I", false)
  | 21 => ("NinetyPlayersModel", "units", "I", false)
  | 22 => ("NinetyPlayersModel", "ownUnits", "I", false)
  | 23 => ("NinetyPlayersModel", "deep", "I", false)
  | 24 => ("NinetyPlayersModel", "nHasForm", "Z", false)
  | 25 => ("NinetyPlayersModel", "hasForm", "Z", false)
  | 26 => ("NinetyPlayersModel", "asks", "[I", true)
  | 27 => ("NinetyPlayersModel", "nRole", "[I", true)
  | 28 => ("NinetyPlayersModel", "nPart", "[I", true)
  | 29 => ("NinetyPlayersModel", "nBegins", "[I", true)
  | 30 => ("NinetyPlayersModel", "nKey", "[I", true)
  | 31 => ("NinetyPlayersModel", "nLong", "[I", true)
  | 32 => ("NinetyPlayersModel", "nLoud", "[I", true)
  | 33 => ("NinetyPlayersModel", "roles", "[I", true)
  | 34 => ("NinetyPlayersModel", "partOf", "[I", true)
  | 35 => ("NinetyPlayersModel", "begins", "[I", true)
  | 36 => ("NinetyPlayersModel", "keys", "[I", true)
  | 37 => ("NinetyPlayersModel", "longs", "[I", true)
  | 38 => ("NinetyPlayersModel", "louds", "[I", true)
  | 39 => ("NinetyPlayersModel", "nBeats", "I", false)
  | 40 => ("NinetyPlayersModel", "nParts", "I", false)
  | 41 => ("NinetyPlayersModel", "nNotes", "I", false)
  | 42 => ("NinetyPlayersModel", "nSpan", "I", false)
  | 43 => ("NinetyPlayersModel", "nFingers", "I", false)
  | 44 => ("NinetyPlayersModel", "nLeap", "I", false)
  | 45 => ("NinetyPlayersModel", "nEar", "I", false)
  | 46 => ("NinetyPlayersModel", "beats", "I", false)
  | 47 => ("NinetyPlayersModel", "parts", "I", false)
  | 48 => ("NinetyPlayersModel", "notes", "I", false)
  | 49 => ("NinetyPlayersModel", "span", "I", false)
  | 50 => ("NinetyPlayersModel", "fingers", "I", false)
  | 51 => ("NinetyPlayersModel", "leap", "I", false)
  | 52 => ("NinetyPlayersModel", "ear", "I", false)
  | 53 => ("NinetyPlayersModel", "nHasLine", "Z", false)
  | 54 => ("NinetyPlayersModel", "nHasSpan", "Z", false)
  | 55 => ("NinetyPlayersModel", "nHasFingers", "Z", false)
  | 56 => ("NinetyPlayersModel", "nHasLeap", "Z", false)
  | 57 => ("NinetyPlayersModel", "nHasEar", "Z", false)
  | 58 => ("NinetyPlayersModel", "now", "[I", true)
  | 59 => ("NinetyPlayersModel", "air", "[I", true)
  | 60 => ("NinetyPlayersModel", "hold", "[I", true)
  | 61 => ("NinetyPlayersModel", "sound", "[I", true)
  | 62 => ("NinetyPlayersModel", "were", "[I", true)
  | 63 => ("NinetyPlayersModel", "acts", "I", false)
  | 64 => ("NinetyPlayersModel", "undone", "I", false)
  | 65 => ("NinetyPlayersModel", "lies", "[I", true)
  | 66 => ("NinetyPlayersModel", "row", "[I", true)
  | 67 => ("NinetyPlayersModel", "missed", "[I", true)
  | 68 => ("NinetyPlayersModel", "lain", "I", false)
  | 69 => ("NinetyPlayersModel", "noiseBeat", "[I", true)
  | 70 => ("NinetyPlayersModel", "noiseKey", "[I", true)
  | 71 => ("NinetyPlayersModel", "noiseTold", "[I", true)
  | 72 => ("NinetyPlayersModel", "noiseUntold", "[I", true)
  | 73 => ("NinetyPlayersModel", "noiseIs", "[Z", true)
  | 74 => ("NinetyPlayersModel", "noises", "I", false)
  | 75 => ("NinetyPlayersModel", "time", "I", false)
  | 76 => ("NinetyPlayersModel", "sayers", "[I", true)
  | 77 => ("NinetyPlayersModel", "tally", "[I", true)
  | 78 => ("NinetyPlayersModel", "hasBox", "[Z", true)
  | _ => ("NinetyPlayersModel", "boxes", "[I", true)
def cY11 : Nat → FieldType := fun k => match k with
  | 0 => .array .int
  | 1 => .int
  | 2 => .int
  | 3 => .int
  | 4 => .int
  | 5 => .int
  | 6 => .int
  | 7 => .int
  | 8 => .int
  | 9 => .long
  | 10 => .array .long
  | 11 => .array .int
  | 12 => .array .int
  | 13 => .array .int
  | 14 => .array .int
  | 15 => .array .int
  | 16 => .array .int
  | 17 => .int
  | 18 => .int
  | 19 => .int
  | 20 => .int
  | 21 => .int
  | 22 => .int
  | 23 => .int
  | 24 => .boolean
  | 25 => .boolean
  | 26 => .array .int
  | 27 => .array .int
  | 28 => .array .int
  | 29 => .array .int
  | 30 => .array .int
  | 31 => .array .int
  | 32 => .array .int
  | 33 => .array .int
  | 34 => .array .int
  | 35 => .array .int
  | 36 => .array .int
  | 37 => .array .int
  | 38 => .array .int
  | 39 => .int
  | 40 => .int
  | 41 => .int
  | 42 => .int
  | 43 => .int
  | 44 => .int
  | 45 => .int
  | 46 => .int
  | 47 => .int
  | 48 => .int
  | 49 => .int
  | 50 => .int
  | 51 => .int
  | 52 => .int
  | 53 => .boolean
  | 54 => .boolean
  | 55 => .boolean
  | 56 => .boolean
  | 57 => .boolean
  | 58 => .array .int
  | 59 => .array .int
  | 60 => .array .int
  | 61 => .array .int
  | 62 => .array .int
  | 63 => .int
  | 64 => .int
  | 65 => .array .int
  | 66 => .array .int
  | 67 => .array .int
  | 68 => .int
  | 69 => .array .int
  | 70 => .array .int
  | 71 => .array .int
  | 72 => .array .int
  | 73 => .array .boolean
  | 74 => .int
  | 75 => .int
  | 76 => .array .int
  | 77 => .array .int
  | 78 => .array .boolean
  | _ => .array .int
abbrev classes : List vw_C := [("NinetyPlayers", cT0, 14), ("NinetyPlayers$Reader", cT1, 5), ("NinetyPlayers$Score", cT2, 16), ("NinetyPlayers$Formula", cT3, 6), ("NinetyPlayers$Tokens", cT4, 7), ("NinetyPlayers$Laying", cT5, 6), ("NinetyPlayers$Acts", cT6, 6), ("NinetyPlayers$Keyboard", cT7, 12), ("NinetyPlayers$Arranger", cT8, 9), ("NinetyPlayers$Pedaller", cT9, 2), ("NinetyPlayers$Witness", cT10, 12), ("NinetyPlayersModel", cT11, 80)]
def nF : Nat → Nat := fun c => match c with
  | 0 => 14
  | 1 => 5
  | 2 => 16
  | 3 => 6
  | 4 => 7
  | 5 => 6
  | 6 => 6
  | 7 => 12
  | 8 => 9
  | 9 => 2
  | 10 => 12
  | _ => 80
def tyT : Nat → Nat → FieldType := fun c => match c with
  | 0 => cY0
  | 1 => cY1
  | 2 => cY2
  | 3 => cY3
  | 4 => cY4
  | 5 => cY5
  | 6 => cY6
  | 7 => cY7
  | 8 => cY8
  | 9 => cY9
  | 10 => cY10
  | _ => cY11
/-- the good words of the tables -/
def GW : List Cond := lw_tbl.filter goodWord
theorem gw_of {w : Cond} (h : w ∈ tables_1) (hg : goodWord w = true) : w ∈ GW := List.mem_filter.mpr ⟨List.mem_append_right _ h, hg⟩
theorem tb_1 {w : Cond} (h : w ∈ tables_1_1) : w ∈ tables_1 := List.mem_append_left _ h
theorem tb_2 {w : Cond} (h : w ∈ tables_1_2) : w ∈ tables_1 := List.mem_append_right _ (List.mem_append_left _ h)
theorem tb_3 {w : Cond} (h : w ∈ tables_1_3) : w ∈ tables_1 := List.mem_append_right _ (List.mem_append_right _ (List.mem_append_left _ h))
theorem tb_4 {w : Cond} (h : w ∈ tables_1_4) : w ∈ tables_1 := List.mem_append_right _ (List.mem_append_right _ (List.mem_append_right _ (List.mem_append_left _ h)))
theorem tb_5 {w : Cond} (h : w ∈ tables_1_5) : w ∈ tables_1 := List.mem_append_right _ (List.mem_append_right _ (List.mem_append_right _ (List.mem_append_right _ (List.mem_append_left _ h))))
theorem tb_6 {w : Cond} (h : w ∈ tables_1_6) : w ∈ tables_1 := List.mem_append_right _ (List.mem_append_right _ (List.mem_append_right _ (List.mem_append_right _ (List.mem_append_right _ (List.mem_append_left _ h)))))
theorem tb_7 {w : Cond} (h : w ∈ tables_1_7) : w ∈ tables_1 := List.mem_append_right _ (List.mem_append_right _ (List.mem_append_right _ (List.mem_append_right _ (List.mem_append_right _ (List.mem_append_right _ (List.mem_append_left _ h))))))
theorem tb_8 {w : Cond} (h : w ∈ tables_1_8) : w ∈ tables_1 := List.mem_append_right _ (List.mem_append_right _ (List.mem_append_right _ (List.mem_append_right _ (List.mem_append_right _ (List.mem_append_right _ (List.mem_append_right _ (List.mem_append_left _ h)))))))
theorem tb_9 {w : Cond} (h : w ∈ tables_1_9) : w ∈ tables_1 := List.mem_append_right _ (List.mem_append_right _ (List.mem_append_right _ (List.mem_append_right _ (List.mem_append_right _ (List.mem_append_right _ (List.mem_append_right _ (List.mem_append_right _ (h))))))))
theorem gw_sel {w : Cond} (h : w ∈ k2_sels lw_privs) (hg : goodWord w = true) : w ∈ GW := List.mem_filter.mpr ⟨List.mem_append_left _ h, hg⟩
end
section
/-! THE WORLD: handles (small numbers) for cells; a memory of ints, longs, references by handle and place; what an address is, σ says -/
abbrev Mem : Type := (Nat → Nat → Int32) × (Nat → Nat → Int64) × (Nat → Nat → Option Nat)
abbrev Sg : Type := (Nat → Nat) × Value
abbrev Kds : Type := List (Nat × Nat)
abbrev Mt : Type := MethodName × ByteArray × Nat × Option FieldType
def rv (σ : Sg) (v : Value) : Value := match v with
  | .ref h => .ref (σ.1 h)
  | .retAddr _ => σ.2
  | .int x => .int x
  | .long x => .long x
  | .float x => .float x
  | .double x => .double x
  | .null => .null
def fvT (t : FieldType) (σ : Sg) (M : Mem) (h k : Nat) : Value := match t with
  | .long => .long (M.2.1 h k)
  | .object _ => va_rf ((M.2.2 h k).map σ.1)
  | .array _ => va_rf ((M.2.2 h k).map σ.1)
  | _ => .int (M.1 h k)
def cE (dA : Nat → ClassId) (σ : Sg) (M : Mem) (h : Nat) (kd : Nat × Nat) : va_E :=
  if kd.1 = 0 then .inr (kd.2, (List.range (nF kd.2)).map fun k => fvT (tyT kd.2 k) σ M h k)
  else if kd.1 = 2 then .inl (dA 2, kd.2, .inr (.inl (M.2.1 h)))
  else if kd.1 = 5 then .inl (dA 5, kd.2, .inr (.inr (.inr (.inr fun j => (M.2.2 h j).map σ.1))))
  else .inl (dA kd.1, kd.2, .inl (M.1 h))
def wld (dA : Nat → ClassId) (σ : Sg) (ks : Kds) (M : Mem) : va_W := ks.mapIdx fun h kd => (σ.1 h, cE dA σ M h kd)
theorem wld_at {dA : Nat → ClassId} {σ : Sg} {ks : Kds} {M : Mem} {h : Nat} {kd : Nat × Nat} (hk : ks[h]? = some kd) : (wld dA σ ks M)[h]? = some (σ.1 h, cE dA σ M h kd) := by
  simp [wld, List.getElem?_mapIdx, hk]
theorem wld_len {dA : Nat → ClassId} {σ : Sg} {ks : Kds} {M : Mem} : (wld dA σ ks M).length = ks.length := by simp [wld]
theorem cE_agree {dA : Nat → ClassId} {σ : Sg} {M M' : Mem} {h : Nat} {kd : Nat × Nat} (h1 : M'.1 h = M.1 h) (h2 : M'.2.1 h = M.2.1 h) (h3 : M'.2.2 h = M.2.2 h) : cE dA σ M' h kd = cE dA σ M h kd := by
  simp only [cE, fvT, h1, h2, h3]
theorem wld_set {dA : Nat → ClassId} {σ : Sg} {ks : Kds} {M M' : Mem} {h : Nat} {kd : Nat × Nat} (hk : ks[h]? = some kd) (ha : ∀ j, j ≠ h → M'.1 j = M.1 j ∧ M'.2.1 j = M.2.1 j ∧ M'.2.2 j = M.2.2 j) : (wld dA σ ks M).set h (σ.1 h, cE dA σ M' h kd) = wld dA σ ks M' := by
  have hl : h < ks.length := (List.getElem?_eq_some_iff.mp hk).1
  apply List.ext_getElem?
  intro j
  by_cases hj : j = h
  · subst hj
    rw [List.getElem?_set_self (by rw [wld_len]; exact hl), wld_at hk]
  · rw [List.getElem?_set_ne (fun q => hj q.symm)]
    cases hkj : ks[j]? with
    | none => simp [wld, List.getElem?_mapIdx, hkj]
    | some kj =>
      obtain ⟨a1, a2, a3⟩ := ha j hj
      rw [wld_at hkj, wld_at hkj, cE_agree a1 a2 a3]
/-- writes -/
def setI (M : Mem) (h k : Nat) (x : Int32) : Mem := (fun j => if j = h then upd (M.1 h) k x else M.1 j, M.2)
def setL (M : Mem) (h k : Nat) (x : Int64) : Mem := (M.1, fun j => if j = h then vp_updL (M.2.1 h) k x else M.2.1 j, M.2.2)
def setR (M : Mem) (h k : Nat) (x : Option Nat) : Mem := (M.1, M.2.1, fun j => if j = h then va_up (M.2.2 h) k x else M.2.2 j)
def setA (M : Mem) (h : Nat) (f : Nat → Int32) : Mem := (fun j => if j = h then f else M.1 j, M.2)
def setRA (M : Mem) (h : Nat) (f : Nat → Option Nat) : Mem := (M.1, M.2.1, fun j => if j = h then f else M.2.2 j)
def clr (M : Mem) (h : Nat) : Mem := (fun j => if j = h then (fun _ => 0) else M.1 j, fun j => if j = h then (fun _ => 0) else M.2.1 j, fun j => if j = h then (fun _ => none) else M.2.2 j)
theorem fld_at {dA : Nat → ClassId} {σ : Sg} {M : Mem} {h ci : Nat} : cE dA σ M h (0, ci) = .inr (ci, (List.range (nF ci)).map fun k => fvT (tyT ci k) σ M h k) := rfl
theorem fld_get {σ : Sg} {M : Mem} {h ci k : Nat} (hk : k < nF ci) : ((List.range (nF ci)).map fun k => fvT (tyT ci k) σ M h k)[k]? = some (fvT (tyT ci k) σ M h k) := by
  simp [List.getElem?_range, hk]
theorem fld_set {σ : Sg} {M M' : Mem} {h ci k : Nat} {v : Value} (hk : k < nF ci) (hv : fvT (tyT ci k) σ M' h k = v) (ho : ∀ j, j ≠ k → fvT (tyT ci j) σ M' h j = fvT (tyT ci j) σ M h j) :
    ((List.range (nF ci)).map fun k => fvT (tyT ci k) σ M h k).set k v = (List.range (nF ci)).map fun k => fvT (tyT ci k) σ M' h k := by
  apply List.ext_getElem?
  intro j
  by_cases hj : j = k
  · subst hj
    rw [List.getElem?_set_self (by simpa using hk), fld_get hk, hv]
  · rw [List.getElem?_set_ne (fun q => hj q.symm)]
    by_cases hl : j < nF ci
    · rw [fld_get hl, fld_get hl, ho j hj]
    · rw [List.getElem?_eq_none (by simp; omega), List.getElem?_eq_none (by simp; omega)]
def tyL (dA : Nat → ClassId) : List (ClassId × FieldType) := [(dA 0, .int), (dA 1, .int), (dA 2, .long), (dA 3, .byte), (dA 4, .boolean), (dA 5, .object "NinetyPlayers$Laying")]
/-! THE OUTSIDE: two texts, a static or two, the script, links between nest mates -/
def txW : String := "beats   part    note    missed  span    fingers leap    ear     tune    bass    of      at      or      and     not     role    key     long    loud    doubled beat    "
def txT : String := ";()<>=+-*/%"
def bytS : List (List Int32) := [txW.toList.map (fun c => Int32.ofNat c.toNat), txT.toList.map (fun c => Int32.ofNat c.toNat)]
def lenS : List Nat := [168, 11]
def nestL : List Cond := [.methodLinkNest "NinetyPlayers$Score" 39 ⟨"NinetyPlayers$Formula", "<init>", "()V"⟩ "NinetyPlayers", .methodLinkNest "NinetyPlayers" 31 ⟨"NinetyPlayers$Laying", "<init>", "()V"⟩ "NinetyPlayers", .methodLinkNest "NinetyPlayers" 42 ⟨"NinetyPlayers$Acts", "<init>", "()V"⟩ "NinetyPlayers", .methodLinkNest "NinetyPlayers" 49 ⟨"NinetyPlayers$Keyboard", "<init>", "()V"⟩ "NinetyPlayers", .methodLinkNest "NinetyPlayers" 78 ⟨"NinetyPlayers$Witness", "<init>", "()V"⟩ "NinetyPlayers", .methodLinkNest "NinetyPlayers$Keyboard" 108 ⟨"NinetyPlayers", "isKey", "(I)Z"⟩ "NinetyPlayers"]
def isNest (w : Cond) : Prop := ∃ a i x h, w = .methodLinkNest a i x h
def Ext (X : Nat × (Nat → Int32)) (σ : Sg) (A : Nat → Prop) (s : State) : Prop :=
  vk_S 2 lenS bytS (fun i => σ.1 (1000 + 2 * i)) (fun i => σ.1 (1001 + 2 * i)) A s s.heap
  ∧ (vk_R "NinetyPlayers$Word" 15 txW (σ.1 1000) s ∧ vk_R "NinetyPlayers$Tokens" 60 txT (σ.1 1002) s)
  ∧ va_Z "java/lang/String" "COMPACT_STRINGS" "Z" (.int 1) A s s.heap
  ∧ (va_Z "jdk/internal/util/Preconditions" "SIOOBE_FORMATTER" "Ljava/util/function/BiFunction;" σ.2 A s s.heap ∧ (σ.2 = .null ∨ ∃ t, σ.2 = .ref t))
  ∧ (∀ w ∈ nestL, va_Nw w s)
  ∧ va_AO "NinetyPlayers$Laying" s
  ∧ (va_X (σ.1 1010) X.1 X.2 s s.heap ∧ σ.1 1010 < s.heap.size ∧ ¬ A (σ.1 1010))
theorem nest_all : ∀ w ∈ nestL, isNest w := by
  intro w hw
  simp only [nestL, List.mem_cons, List.not_mem_nil, or_false] at hw
  rcases hw with h | h | h | h | h | h <;> exact ⟨_, _, _, _, h⟩
theorem nest_warm {w : Cond} (h : isNest w) {s U : State} (hW : s.WarmedH U.vm) (hZ : va_Nw w s) : va_Nw w U := by
  obtain ⟨a, i, x, n, rfl⟩ := h
  exact va_Nw.warmM hW hZ
/-- what lies outside stays, for a callee too -/
theorem Ext.call {X : Nat × (Nat → Int32)} {σ : Sg} {A A1 : Nat → Prop} {s U : State} {H : Heap} {locs : List Loc} (h : Ext X σ A s) (hS : va_S A s.heap H locs) (hU : U.heap = H) (hW : s.WarmedH U.vm) (hA : ∀ q, A1 q → A q) : Ext X σ A1 U := by
  obtain ⟨h1, ⟨h2, h3⟩, h4, ⟨h5, h5'⟩, h6, h7, h8, h9, h10⟩ := h
  have hal := hW.alike
  refine ⟨?_, ⟨vk_R.warm hW h2, vk_R.warm hW h3⟩, ?_, ⟨?_, h5'⟩, fun w hw => nest_warm (nest_all w hw) hW (h6 w hw), h7.moved hal, ?_, ?_, fun q => h10 (hA _ q)⟩
  · rw [hU]; exact ((h1.moved hal).kept hS.2.1).narrow hA
  · rw [hU]; exact ((h4.moved hal).kept hS.2.1).narrow hA
  · rw [hU]; exact ((h5.moved hal).kept hS.2.1).narrow hA
  · rw [hU]; exact (h8.moved hal).kept (hS.2.1 _ h9 h10)
  · rw [hU]; exact Nat.lt_of_lt_of_le h9 hS.1
theorem Ext.sig {X : Nat × (Nat → Int32)} {σ σ' : Sg} {A : Nat → Prop} {s : State} (h : Ext X σ A s) (h1 : ∀ j, 1000 ≤ j → σ'.1 j = σ.1 j) (h2 : σ'.2 = σ.2) : Ext X σ' A s := by
  obtain ⟨a1, a2, a3, a4, a5, a6, a7⟩ := h
  refine ⟨?_, ?_, a3, by rw [h2]; exact a4, a5, a6, ?_⟩
  · have e1 : (fun i => σ'.1 (1000 + 2 * i)) = fun i => σ.1 (1000 + 2 * i) := funext fun i => h1 _ (by omega)
    have e2 : (fun i => σ'.1 (1001 + 2 * i)) = fun i => σ.1 (1001 + 2 * i) := funext fun i => h1 _ (by omega)
    rw [e1, e2]; exact a1
  · rw [h1 1000 (by omega), h1 1002 (by omega)]; exact a2
  · rw [h1 1010 (by omega)]; exact a7
/-! THE JUDGEMENT: the machine, in method μ at pc with these locals and this stack over this memory, comes to μ's return with r, the memory being M' -/
def Cx (X : Nat × (Nat → Int32)) (d : Nat) (μ : Mt) (p : Program) (R : Room) (s : State) (m : MethodId) (args : Array Value) (meth : Method) (c : Code) (D : va_G) (dA : Nat → ClassId) (σ : Sg) (A : Nat → Prop) : Prop :=
  p.tables.exec = Jvm.exec ∧ c.code = μ.2.1 ∧ c.maxLocals = μ.2.2.1 ∧ s.vm.findClass μ.1.cls = some m.cls ∧ (∀ w ∈ GW, w.before args s = true) ∧ meth.sig.returnType = μ.2.2.2 ∧ meth.locks = false ∧ meth.name = μ.1.name ∧ va_K D classes (tyL dA) s ∧ (∀ q, s.heap.size ≤ q → A q) ∧ Ext X σ A s ∧ d ≤ R.frames ∧ 64 * d ≤ R.locals
def rIns (t : Option FieldType) : Instr := match t with
  | none => .return_
  | some .long => .lreturn
  | some (.object _) => .areturn
  | some (.array _) => .areturn
  | _ => .ireturn
def rOK (t : Option FieldType) (r : Option Value) : Prop := match t with
  | none => r = none
  | some .long => ∃ v, r = some (.long v)
  | some (.object _) => ∃ a, r = some (.ref a)
  | some (.array _) => ∃ a, r = some (.ref a)
  | some .float => False
  | some .double => False
  | some ty => ∃ v, r = some (.int v) ∧ narrow ty (.int v) = .int v
def kz (ks : Kds) : Nat := (ks.map fun kd => if kd.1 = 0 then nF kd.2 else kd.2).sum
def lvr (σ : Sg) (L : List (Nat × Value)) : List (Nat × Value) := L.map fun q => (q.1, rv σ q.2)
def Same (σ σ' : Sg) (n : Nat) : Prop := (∀ j, j < n ∨ 1000 ≤ j → σ'.1 j = σ.1 j) ∧ σ'.2 = σ.2
theorem Same.rf {σ : Sg} {n : Nat} : Same σ σ n := ⟨fun _ _ => rfl, rfl⟩
def Ev (X : Nat × (Nat → Int32)) (d : Nat) (μ : Mt) (pc : Nat) (L : List (Nat × Value)) (st : List Value) (ks : Kds) (M : Mem) (r : Option Value) (ks' : Kds) (M' : Mem) : Prop :=
  ∀ (l : Launch) (p : Program) (e : Env) (R : Room) (s : State) (m : MethodId) (args : Array Value) (below : List Frame) (meth : Method) (c : Code) (D : va_G) (dA : Nat → ClassId) (σ : Sg) (A : Nat → Prop) (H : Heap) (locs : List Loc) (cells slots mc ms : Nat) (ls : Array Slot) (Q : State → Prop),
    Cx X d μ p R s m args meth c D dA σ A → va_P D classes (wld dA σ ks M) H → va_D A (wld dA σ ks M) → va_S A s.heap H locs → lv_has ls μ.2.2.1 (lvr σ L) →
    cells + ks'.length = mc + ks.length → slots + kz ks' = ms + kz ks → mc ≤ R.cells → ms ≤ R.slots →
    (∀ (pc' : Nat) (ls' : Array Slot) (σ' : Sg) (H' : Heap) (locs' : List Loc), decode μ.2.1 pc' = .ok (rIns μ.2.2.2, 1) → rOK μ.2.2.2 r → Same σ σ' ks.length → va_P D classes (wld dA σ' ks' M') H' → va_D A (wld dA σ' ks' M') → va_S A s.heap H' locs' →
      W p l e R s m args below meth c H' locs' mc ms Q (F0 m pc' ls' (r.toList.map (rv σ')))) →
    W p l e R s m args below meth c H locs cells slots Q (F0 m pc ls (st.map (rv σ)))
end
