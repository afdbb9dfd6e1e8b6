section
-- ===== PART A: goes FIRST, ahead of the names: the tables' words, and 'selects' of the private methods out of them =====
/-- a private method of a class that the tables say can be made, by its rows of tables_1 -/
def lw_okq (q : MethodName × Nat) : Prop := (q.1.cls ≠ "java/lang/invoke/MethodHandle" ∧ q.1.cls ≠ "java/lang/invoke/VarHandle") ∧ Cond.instantiable q.1.cls q.2 ∈ tables_1 ∧ Cond.privateMethod q.1 ∈ tables_1 ∧ Cond.instanceMethod q.1 ∈ tables_1
theorem lw_p0 : lw_okq (⟨"NinetyPlayers", "putFourBytes", "(I)V"⟩, 14) := ⟨⟨by decide +kernel, by decide +kernel⟩, List.mem_of_getElem? (i := 23) (by decide +kernel), List.mem_of_getElem? (i := 482) (by decide +kernel), List.mem_of_getElem? (i := 483) (by decide +kernel)⟩
theorem lw_p1 : lw_okq (⟨"NinetyPlayers$Tokens", "at", "(I)I"⟩, 7) := ⟨⟨by decide +kernel, by decide +kernel⟩, List.mem_of_getElem? (i := 162) (by decide +kernel), List.mem_of_getElem? (i := 513) (by decide +kernel), List.mem_of_getElem? (i := 514) (by decide +kernel)⟩
theorem lw_p2 : lw_okq (⟨"NinetyPlayers$Tokens", "takeWord", "()V"⟩, 7) := ⟨⟨by decide +kernel, by decide +kernel⟩, List.mem_of_getElem? (i := 162) (by decide +kernel), List.mem_of_getElem? (i := 523) (by decide +kernel), List.mem_of_getElem? (i := 524) (by decide +kernel)⟩
theorem lw_p3 : lw_okq (⟨"NinetyPlayers$Tokens", "takeNumber", "()V"⟩, 7) := ⟨⟨by decide +kernel, by decide +kernel⟩, List.mem_of_getElem? (i := 162) (by decide +kernel), List.mem_of_getElem? (i := 585) (by decide +kernel), List.mem_of_getElem? (i := 586) (by decide +kernel)⟩
theorem lw_p4 : lw_okq (⟨"NinetyPlayers$Reader", "line", "()V"⟩, 5) := ⟨⟨by decide +kernel, by decide +kernel⟩, List.mem_of_getElem? (i := 31) (by decide +kernel), List.mem_of_getElem? (i := 645) (by decide +kernel), List.mem_of_getElem? (i := 646) (by decide +kernel)⟩
theorem lw_p5 : lw_okq (⟨"NinetyPlayers$Reader", "mayBegin", "(I)Z"⟩, 5) := ⟨⟨by decide +kernel, by decide +kernel⟩, List.mem_of_getElem? (i := 31) (by decide +kernel), List.mem_of_getElem? (i := 649) (by decide +kernel), List.mem_of_getElem? (i := 650) (by decide +kernel)⟩
theorem lw_p6 : lw_okq (⟨"NinetyPlayers$Reader", "refuse", "(I)V"⟩, 5) := ⟨⟨by decide +kernel, by decide +kernel⟩, List.mem_of_getElem? (i := 31) (by decide +kernel), List.mem_of_getElem? (i := 653) (by decide +kernel), List.mem_of_getElem? (i := 654) (by decide +kernel)⟩
theorem lw_p7 : lw_okq (⟨"NinetyPlayers$Reader", "number", "(II)I"⟩, 5) := ⟨⟨by decide +kernel, by decide +kernel⟩, List.mem_of_getElem? (i := 31) (by decide +kernel), List.mem_of_getElem? (i := 658) (by decide +kernel), List.mem_of_getElem? (i := 659) (by decide +kernel)⟩
theorem lw_p8 : lw_okq (⟨"NinetyPlayers$Reader", "partLine", "()V"⟩, 5) := ⟨⟨by decide +kernel, by decide +kernel⟩, List.mem_of_getElem? (i := 31) (by decide +kernel), List.mem_of_getElem? (i := 662) (by decide +kernel), List.mem_of_getElem? (i := 663) (by decide +kernel)⟩
theorem lw_p9 : lw_okq (⟨"NinetyPlayers$Reader", "newName", "(Z)J"⟩, 5) := ⟨⟨by decide +kernel, by decide +kernel⟩, List.mem_of_getElem? (i := 31) (by decide +kernel), List.mem_of_getElem? (i := 670) (by decide +kernel), List.mem_of_getElem? (i := 671) (by decide +kernel)⟩
theorem lw_p10 : lw_okq (⟨"NinetyPlayers$Reader", "isWord", "(I)Z"⟩, 5) := ⟨⟨by decide +kernel, by decide +kernel⟩, List.mem_of_getElem? (i := 31) (by decide +kernel), List.mem_of_getElem? (i := 674) (by decide +kernel), List.mem_of_getElem? (i := 675) (by decide +kernel)⟩
theorem lw_p11 : lw_okq (⟨"NinetyPlayers$Reader", "noteLine", "()V"⟩, 5) := ⟨⟨by decide +kernel, by decide +kernel⟩, List.mem_of_getElem? (i := 31) (by decide +kernel), List.mem_of_getElem? (i := 682) (by decide +kernel), List.mem_of_getElem? (i := 683) (by decide +kernel)⟩
theorem lw_p12 : lw_okq (⟨"NinetyPlayers$Reader", "takeWord", "(I)V"⟩, 5) := ⟨⟨by decide +kernel, by decide +kernel⟩, List.mem_of_getElem? (i := 31) (by decide +kernel), List.mem_of_getElem? (i := 690) (by decide +kernel), List.mem_of_getElem? (i := 691) (by decide +kernel)⟩
theorem lw_p13 : lw_okq (⟨"NinetyPlayers$Reader", "knownPart", "()I"⟩, 5) := ⟨⟨by decide +kernel, by decide +kernel⟩, List.mem_of_getElem? (i := 31) (by decide +kernel), List.mem_of_getElem? (i := 694) (by decide +kernel), List.mem_of_getElem? (i := 695) (by decide +kernel)⟩
theorem lw_p14 : lw_okq (⟨"NinetyPlayers$Reader", "either", "(I)V"⟩, 5) := ⟨⟨by decide +kernel, by decide +kernel⟩, List.mem_of_getElem? (i := 31) (by decide +kernel), List.mem_of_getElem? (i := 702) (by decide +kernel), List.mem_of_getElem? (i := 703) (by decide +kernel)⟩
theorem lw_p15 : lw_okq (⟨"NinetyPlayers$Reader", "both", "(I)V"⟩, 5) := ⟨⟨by decide +kernel, by decide +kernel⟩, List.mem_of_getElem? (i := 31) (by decide +kernel), List.mem_of_getElem? (i := 706) (by decide +kernel), List.mem_of_getElem? (i := 707) (by decide +kernel)⟩
def lw_privs_1 : List (MethodName × Nat) := [(⟨"NinetyPlayers", "putFourBytes", "(I)V"⟩, 14), (⟨"NinetyPlayers$Tokens", "at", "(I)I"⟩, 7), (⟨"NinetyPlayers$Tokens", "takeWord", "()V"⟩, 7), (⟨"NinetyPlayers$Tokens", "takeNumber", "()V"⟩, 7), (⟨"NinetyPlayers$Reader", "line", "()V"⟩, 5), (⟨"NinetyPlayers$Reader", "mayBegin", "(I)Z"⟩, 5), (⟨"NinetyPlayers$Reader", "refuse", "(I)V"⟩, 5), (⟨"NinetyPlayers$Reader", "number", "(II)I"⟩, 5), (⟨"NinetyPlayers$Reader", "partLine", "()V"⟩, 5), (⟨"NinetyPlayers$Reader", "newName", "(Z)J"⟩, 5), (⟨"NinetyPlayers$Reader", "isWord", "(I)Z"⟩, 5), (⟨"NinetyPlayers$Reader", "noteLine", "()V"⟩, 5), (⟨"NinetyPlayers$Reader", "takeWord", "(I)V"⟩, 5), (⟨"NinetyPlayers$Reader", "knownPart", "()I"⟩, 5), (⟨"NinetyPlayers$Reader", "either", "(I)V"⟩, 5), (⟨"NinetyPlayers$Reader", "both", "(I)V"⟩, 5)]
theorem lw_r1 : ∀ q ∈ lw_privs_1, lw_okq q := List.forall_mem_cons.mpr ⟨lw_p0, List.forall_mem_cons.mpr ⟨lw_p1, List.forall_mem_cons.mpr ⟨lw_p2, List.forall_mem_cons.mpr ⟨lw_p3, List.forall_mem_cons.mpr ⟨lw_p4, List.forall_mem_cons.mpr ⟨lw_p5, List.forall_mem_cons.mpr ⟨lw_p6, List.forall_mem_cons.mpr ⟨lw_p7, List.forall_mem_cons.mpr ⟨lw_p8, List.forall_mem_cons.mpr ⟨lw_p9, List.forall_mem_cons.mpr ⟨lw_p10, List.forall_mem_cons.mpr ⟨lw_p11, List.forall_mem_cons.mpr ⟨lw_p12, List.forall_mem_cons.mpr ⟨lw_p13, List.forall_mem_cons.mpr ⟨lw_p14, List.forall_mem_cons.mpr ⟨lw_p15, fun _ h => absurd h List.not_mem_nil⟩⟩⟩⟩⟩⟩⟩⟩⟩⟩⟩⟩⟩⟩⟩⟩
theorem lw_p16 : lw_okq (⟨"NinetyPlayers$Reader", "one", "(I)V"⟩, 5) := ⟨⟨by decide +kernel, by decide +kernel⟩, List.mem_of_getElem? (i := 31) (by decide +kernel), List.mem_of_getElem? (i := 710) (by decide +kernel), List.mem_of_getElem? (i := 711) (by decide +kernel)⟩
theorem lw_p17 : lw_okq (⟨"NinetyPlayers$Reader", "sum", "(I)V"⟩, 5) := ⟨⟨by decide +kernel, by decide +kernel⟩, List.mem_of_getElem? (i := 31) (by decide +kernel), List.mem_of_getElem? (i := 718) (by decide +kernel), List.mem_of_getElem? (i := 719) (by decide +kernel)⟩
theorem lw_p18 : lw_okq (⟨"NinetyPlayers$Reader", "term", "(I)V"⟩, 5) := ⟨⟨by decide +kernel, by decide +kernel⟩, List.mem_of_getElem? (i := 31) (by decide +kernel), List.mem_of_getElem? (i := 722) (by decide +kernel), List.mem_of_getElem? (i := 723) (by decide +kernel)⟩
theorem lw_p19 : lw_okq (⟨"NinetyPlayers$Reader", "unit", "(I)V"⟩, 5) := ⟨⟨by decide +kernel, by decide +kernel⟩, List.mem_of_getElem? (i := 31) (by decide +kernel), List.mem_of_getElem? (i := 726) (by decide +kernel), List.mem_of_getElem? (i := 727) (by decide +kernel)⟩
theorem lw_p20 : lw_okq (⟨"NinetyPlayers$Reader", "isSign", "(C)Z"⟩, 5) := ⟨⟨by decide +kernel, by decide +kernel⟩, List.mem_of_getElem? (i := 31) (by decide +kernel), List.mem_of_getElem? (i := 730) (by decide +kernel), List.mem_of_getElem? (i := 731) (by decide +kernel)⟩
theorem lw_p21 : lw_okq (⟨"NinetyPlayers$Reader", "takeSign", "(C)V"⟩, 5) := ⟨⟨by decide +kernel, by decide +kernel⟩, List.mem_of_getElem? (i := 31) (by decide +kernel), List.mem_of_getElem? (i := 734) (by decide +kernel), List.mem_of_getElem? (i := 735) (by decide +kernel)⟩
theorem lw_p22 : lw_okq (⟨"NinetyPlayers", "isNote", "(I)Z"⟩, 14) := ⟨⟨by decide +kernel, by decide +kernel⟩, List.mem_of_getElem? (i := 23) (by decide +kernel), List.mem_of_getElem? (i := 758) (by decide +kernel), List.mem_of_getElem? (i := 759) (by decide +kernel)⟩
theorem lw_p23 : lw_okq (⟨"NinetyPlayers", "missedOf", "(I)I"⟩, 14) := ⟨⟨by decide +kernel, by decide +kernel⟩, List.mem_of_getElem? (i := 23) (by decide +kernel), List.mem_of_getElem? (i := 762) (by decide +kernel), List.mem_of_getElem? (i := 763) (by decide +kernel)⟩
theorem lw_p24 : lw_okq (⟨"NinetyPlayers", "doublesOf", "(I)I"⟩, 14) := ⟨⟨by decide +kernel, by decide +kernel⟩, List.mem_of_getElem? (i := 23) (by decide +kernel), List.mem_of_getElem? (i := 770) (by decide +kernel), List.mem_of_getElem? (i := 771) (by decide +kernel)⟩
theorem lw_p25 : lw_okq (⟨"NinetyPlayers$Formula", "step", "(I)V"⟩, 6) := ⟨⟨by decide +kernel, by decide +kernel⟩, List.mem_of_getElem? (i := 43) (by decide +kernel), List.mem_of_getElem? (i := 788) (by decide +kernel), List.mem_of_getElem? (i := 789) (by decide +kernel)⟩
theorem lw_p26 : lw_okq (⟨"NinetyPlayers$Formula", "push", "(I)V"⟩, 6) := ⟨⟨by decide +kernel, by decide +kernel⟩, List.mem_of_getElem? (i := 43) (by decide +kernel), List.mem_of_getElem? (i := 792) (by decide +kernel), List.mem_of_getElem? (i := 793) (by decide +kernel)⟩
theorem lw_p27 : lw_okq (⟨"NinetyPlayers", "givenSet", "()I"⟩, 14) := ⟨⟨by decide +kernel, by decide +kernel⟩, List.mem_of_getElem? (i := 23) (by decide +kernel), List.mem_of_getElem? (i := 809) (by decide +kernel), List.mem_of_getElem? (i := 810) (by decide +kernel)⟩
theorem lw_p28 : lw_okq (⟨"NinetyPlayers", "isBeat", "(I)Z"⟩, 14) := ⟨⟨by decide +kernel, by decide +kernel⟩, List.mem_of_getElem? (i := 23) (by decide +kernel), List.mem_of_getElem? (i := 821) (by decide +kernel), List.mem_of_getElem? (i := 822) (by decide +kernel)⟩
theorem lw_p29 : lw_okq (⟨"NinetyPlayers", "lookAtKeys", "()V"⟩, 14) := ⟨⟨by decide +kernel, by decide +kernel⟩, List.mem_of_getElem? (i := 23) (by decide +kernel), List.mem_of_getElem? (i := 828) (by decide +kernel), List.mem_of_getElem? (i := 829) (by decide +kernel)⟩
theorem lw_p30 : lw_okq (⟨"NinetyPlayers$Keyboard", "hasPedal", "(I)Z"⟩, 12) := ⟨⟨by decide +kernel, by decide +kernel⟩, List.mem_of_getElem? (i := 275) (by decide +kernel), List.mem_of_getElem? (i := 837) (by decide +kernel), List.mem_of_getElem? (i := 838) (by decide +kernel)⟩
theorem lw_p31 : lw_okq (⟨"NinetyPlayers$Keyboard", "clashesOfHand", "(II)I"⟩, 12) := ⟨⟨by decide +kernel, by decide +kernel⟩, List.mem_of_getElem? (i := 275) (by decide +kernel), List.mem_of_getElem? (i := 877) (by decide +kernel), List.mem_of_getElem? (i := 878) (by decide +kernel)⟩
def lw_privs_2 : List (MethodName × Nat) := [(⟨"NinetyPlayers$Reader", "one", "(I)V"⟩, 5), (⟨"NinetyPlayers$Reader", "sum", "(I)V"⟩, 5), (⟨"NinetyPlayers$Reader", "term", "(I)V"⟩, 5), (⟨"NinetyPlayers$Reader", "unit", "(I)V"⟩, 5), (⟨"NinetyPlayers$Reader", "isSign", "(C)Z"⟩, 5), (⟨"NinetyPlayers$Reader", "takeSign", "(C)V"⟩, 5), (⟨"NinetyPlayers", "isNote", "(I)Z"⟩, 14), (⟨"NinetyPlayers", "missedOf", "(I)I"⟩, 14), (⟨"NinetyPlayers", "doublesOf", "(I)I"⟩, 14), (⟨"NinetyPlayers$Formula", "step", "(I)V"⟩, 6), (⟨"NinetyPlayers$Formula", "push", "(I)V"⟩, 6), (⟨"NinetyPlayers", "givenSet", "()I"⟩, 14), (⟨"NinetyPlayers", "isBeat", "(I)Z"⟩, 14), (⟨"NinetyPlayers", "lookAtKeys", "()V"⟩, 14), (⟨"NinetyPlayers$Keyboard", "hasPedal", "(I)Z"⟩, 12), (⟨"NinetyPlayers$Keyboard", "clashesOfHand", "(II)I"⟩, 12)]
theorem lw_r2 : ∀ q ∈ lw_privs_2, lw_okq q := List.forall_mem_cons.mpr ⟨lw_p16, List.forall_mem_cons.mpr ⟨lw_p17, List.forall_mem_cons.mpr ⟨lw_p18, List.forall_mem_cons.mpr ⟨lw_p19, List.forall_mem_cons.mpr ⟨lw_p20, List.forall_mem_cons.mpr ⟨lw_p21, List.forall_mem_cons.mpr ⟨lw_p22, List.forall_mem_cons.mpr ⟨lw_p23, List.forall_mem_cons.mpr ⟨lw_p24, List.forall_mem_cons.mpr ⟨lw_p25, List.forall_mem_cons.mpr ⟨lw_p26, List.forall_mem_cons.mpr ⟨lw_p27, List.forall_mem_cons.mpr ⟨lw_p28, List.forall_mem_cons.mpr ⟨lw_p29, List.forall_mem_cons.mpr ⟨lw_p30, List.forall_mem_cons.mpr ⟨lw_p31, fun _ h => absurd h List.not_mem_nil⟩⟩⟩⟩⟩⟩⟩⟩⟩⟩⟩⟩⟩⟩⟩⟩
theorem lw_p32 : lw_okq (⟨"NinetyPlayers$Keyboard", "lowest", "(I)I"⟩, 12) := ⟨⟨by decide +kernel, by decide +kernel⟩, List.mem_of_getElem? (i := 275) (by decide +kernel), List.mem_of_getElem? (i := 881) (by decide +kernel), List.mem_of_getElem? (i := 882) (by decide +kernel)⟩
theorem lw_p33 : lw_okq (⟨"NinetyPlayers$Keyboard", "highest", "(I)I"⟩, 12) := ⟨⟨by decide +kernel, by decide +kernel⟩, List.mem_of_getElem? (i := 275) (by decide +kernel), List.mem_of_getElem? (i := 886) (by decide +kernel), List.mem_of_getElem? (i := 887) (by decide +kernel)⟩
theorem lw_p34 : lw_okq (⟨"NinetyPlayers$Keyboard", "hasKeyTwice", "(I)Z"⟩, 12) := ⟨⟨by decide +kernel, by decide +kernel⟩, List.mem_of_getElem? (i := 275) (by decide +kernel), List.mem_of_getElem? (i := 893) (by decide +kernel), List.mem_of_getElem? (i := 894) (by decide +kernel)⟩
theorem lw_p35 : lw_okq (⟨"NinetyPlayers$Acts", "dropOldest", "()V"⟩, 6) := ⟨⟨by decide +kernel, by decide +kernel⟩, List.mem_of_getElem? (i := 248) (by decide +kernel), List.mem_of_getElem? (i := 905) (by decide +kernel), List.mem_of_getElem? (i := 906) (by decide +kernel)⟩
theorem lw_p36 : lw_okq (⟨"NinetyPlayers$Laying", "rowOf", "(I)[I"⟩, 6) := ⟨⟨by decide +kernel, by decide +kernel⟩, List.mem_of_getElem? (i := 214) (by decide +kernel), List.mem_of_getElem? (i := 916) (by decide +kernel), List.mem_of_getElem? (i := 917) (by decide +kernel)⟩
theorem lw_p37 : lw_okq (⟨"NinetyPlayers", "layLeastMissed", "(II)V"⟩, 14) := ⟨⟨by decide +kernel, by decide +kernel⟩, List.mem_of_getElem? (i := 23) (by decide +kernel), List.mem_of_getElem? (i := 977) (by decide +kernel), List.mem_of_getElem? (i := 978) (by decide +kernel)⟩
theorem lw_p38 : lw_okq (⟨"NinetyPlayers", "weighAll", "()V"⟩, 14) := ⟨⟨by decide +kernel, by decide +kernel⟩, List.mem_of_getElem? (i := 23) (by decide +kernel), List.mem_of_getElem? (i := 981) (by decide +kernel), List.mem_of_getElem? (i := 982) (by decide +kernel)⟩
theorem lw_p39 : lw_okq (⟨"NinetyPlayers$Arranger", "findBars", "(I)V"⟩, 9) := ⟨⟨by decide +kernel, by decide +kernel⟩, List.mem_of_getElem? (i := 333) (by decide +kernel), List.mem_of_getElem? (i := 989) (by decide +kernel), List.mem_of_getElem? (i := 990) (by decide +kernel)⟩
theorem lw_p40 : lw_okq (⟨"NinetyPlayers$Arranger", "findSettledLeaps", "(I)V"⟩, 9) := ⟨⟨by decide +kernel, by decide +kernel⟩, List.mem_of_getElem? (i := 333) (by decide +kernel), List.mem_of_getElem? (i := 995) (by decide +kernel), List.mem_of_getElem? (i := 996) (by decide +kernel)⟩
theorem lw_p41 : lw_okq (⟨"NinetyPlayers$Arranger", "search", "(IIII)V"⟩, 9) := ⟨⟨by decide +kernel, by decide +kernel⟩, List.mem_of_getElem? (i := 333) (by decide +kernel), List.mem_of_getElem? (i := 999) (by decide +kernel), List.mem_of_getElem? (i := 1000) (by decide +kernel)⟩
theorem lw_p42 : lw_okq (⟨"NinetyPlayers$Arranger", "isFreeLeft", "(III)Z"⟩, 9) := ⟨⟨by decide +kernel, by decide +kernel⟩, List.mem_of_getElem? (i := 333) (by decide +kernel), List.mem_of_getElem? (i := 1003) (by decide +kernel), List.mem_of_getElem? (i := 1004) (by decide +kernel)⟩
theorem lw_p43 : lw_okq (⟨"NinetyPlayers$Arranger", "fingersReach", "(II)Z"⟩, 9) := ⟨⟨by decide +kernel, by decide +kernel⟩, List.mem_of_getElem? (i := 333) (by decide +kernel), List.mem_of_getElem? (i := 1007) (by decide +kernel), List.mem_of_getElem? (i := 1008) (by decide +kernel)⟩
theorem lw_p44 : lw_okq (⟨"NinetyPlayers$Arranger", "leapsFit", "(III)Z"⟩, 9) := ⟨⟨by decide +kernel, by decide +kernel⟩, List.mem_of_getElem? (i := 333) (by decide +kernel), List.mem_of_getElem? (i := 1012) (by decide +kernel), List.mem_of_getElem? (i := 1013) (by decide +kernel)⟩
theorem lw_p45 : lw_okq (⟨"NinetyPlayers$Arranger", "isFreeRight", "(III)Z"⟩, 9) := ⟨⟨by decide +kernel, by decide +kernel⟩, List.mem_of_getElem? (i := 333) (by decide +kernel), List.mem_of_getElem? (i := 1020) (by decide +kernel), List.mem_of_getElem? (i := 1021) (by decide +kernel)⟩
theorem lw_p46 : lw_okq (⟨"NinetyPlayers", "isLeftOut", "(I)Z"⟩, 14) := ⟨⟨by decide +kernel, by decide +kernel⟩, List.mem_of_getElem? (i := 23) (by decide +kernel), List.mem_of_getElem? (i := 1036) (by decide +kernel), List.mem_of_getElem? (i := 1037) (by decide +kernel)⟩
theorem lw_p47 : lw_okq (⟨"NinetyPlayers$Arranger", "isLessMissed", "(II)Z"⟩, 9) := ⟨⟨by decide +kernel, by decide +kernel⟩, List.mem_of_getElem? (i := 333) (by decide +kernel), List.mem_of_getElem? (i := 1052) (by decide +kernel), List.mem_of_getElem? (i := 1053) (by decide +kernel)⟩
def lw_privs_3 : List (MethodName × Nat) := [(⟨"NinetyPlayers$Keyboard", "lowest", "(I)I"⟩, 12), (⟨"NinetyPlayers$Keyboard", "highest", "(I)I"⟩, 12), (⟨"NinetyPlayers$Keyboard", "hasKeyTwice", "(I)Z"⟩, 12), (⟨"NinetyPlayers$Acts", "dropOldest", "()V"⟩, 6), (⟨"NinetyPlayers$Laying", "rowOf", "(I)[I"⟩, 6), (⟨"NinetyPlayers", "layLeastMissed", "(II)V"⟩, 14), (⟨"NinetyPlayers", "weighAll", "()V"⟩, 14), (⟨"NinetyPlayers$Arranger", "findBars", "(I)V"⟩, 9), (⟨"NinetyPlayers$Arranger", "findSettledLeaps", "(I)V"⟩, 9), (⟨"NinetyPlayers$Arranger", "search", "(IIII)V"⟩, 9), (⟨"NinetyPlayers$Arranger", "isFreeLeft", "(III)Z"⟩, 9), (⟨"NinetyPlayers$Arranger", "fingersReach", "(II)Z"⟩, 9), (⟨"NinetyPlayers$Arranger", "leapsFit", "(III)Z"⟩, 9), (⟨"NinetyPlayers$Arranger", "isFreeRight", "(III)Z"⟩, 9), (⟨"NinetyPlayers", "isLeftOut", "(I)Z"⟩, 14), (⟨"NinetyPlayers$Arranger", "isLessMissed", "(II)Z"⟩, 9)]
theorem lw_r3 : ∀ q ∈ lw_privs_3, lw_okq q := List.forall_mem_cons.mpr ⟨lw_p32, List.forall_mem_cons.mpr ⟨lw_p33, List.forall_mem_cons.mpr ⟨lw_p34, List.forall_mem_cons.mpr ⟨lw_p35, List.forall_mem_cons.mpr ⟨lw_p36, List.forall_mem_cons.mpr ⟨lw_p37, List.forall_mem_cons.mpr ⟨lw_p38, List.forall_mem_cons.mpr ⟨lw_p39, List.forall_mem_cons.mpr ⟨lw_p40, List.forall_mem_cons.mpr ⟨lw_p41, List.forall_mem_cons.mpr ⟨lw_p42, List.forall_mem_cons.mpr ⟨lw_p43, List.forall_mem_cons.mpr ⟨lw_p44, List.forall_mem_cons.mpr ⟨lw_p45, List.forall_mem_cons.mpr ⟨lw_p46, List.forall_mem_cons.mpr ⟨lw_p47, fun _ h => absurd h List.not_mem_nil⟩⟩⟩⟩⟩⟩⟩⟩⟩⟩⟩⟩⟩⟩⟩⟩
theorem lw_p48 : lw_okq (⟨"NinetyPlayers$Arranger", "missedTogether", "(I)I"⟩, 9) := ⟨⟨by decide +kernel, by decide +kernel⟩, List.mem_of_getElem? (i := 333) (by decide +kernel), List.mem_of_getElem? (i := 1056) (by decide +kernel), List.mem_of_getElem? (i := 1057) (by decide +kernel)⟩
theorem lw_p49 : lw_okq (⟨"NinetyPlayers$Pedaller", "isFree", "(III)Z"⟩, 2) := ⟨⟨by decide +kernel, by decide +kernel⟩, List.mem_of_getElem? (i := 370) (by decide +kernel), List.mem_of_getElem? (i := 1082) (by decide +kernel), List.mem_of_getElem? (i := 1083) (by decide +kernel)⟩
theorem lw_p50 : lw_okq (⟨"NinetyPlayers$Pedaller", "bestWithPedalAt", "(I)I"⟩, 2) := ⟨⟨by decide +kernel, by decide +kernel⟩, List.mem_of_getElem? (i := 370) (by decide +kernel), List.mem_of_getElem? (i := 1088) (by decide +kernel), List.mem_of_getElem? (i := 1089) (by decide +kernel)⟩
theorem lw_p51 : lw_okq (⟨"NinetyPlayers", "openAt", "(I)I"⟩, 14) := ⟨⟨by decide +kernel, by decide +kernel⟩, List.mem_of_getElem? (i := 23) (by decide +kernel), List.mem_of_getElem? (i := 1122) (by decide +kernel), List.mem_of_getElem? (i := 1123) (by decide +kernel)⟩
theorem lw_p52 : lw_okq (⟨"NinetyPlayers$Witness", "gather", "(LNinetyPlayers$Score;I)V"⟩, 12) := ⟨⟨by decide +kernel, by decide +kernel⟩, List.mem_of_getElem? (i := 383) (by decide +kernel), List.mem_of_getElem? (i := 1200) (by decide +kernel), List.mem_of_getElem? (i := 1201) (by decide +kernel)⟩
theorem lw_p53 : lw_okq (⟨"NinetyPlayers$Witness", "isSo", "(I)Z"⟩, 12) := ⟨⟨by decide +kernel, by decide +kernel⟩, List.mem_of_getElem? (i := 383) (by decide +kernel), List.mem_of_getElem? (i := 1207) (by decide +kernel), List.mem_of_getElem? (i := 1208) (by decide +kernel)⟩
theorem lw_p54 : lw_okq (⟨"NinetyPlayers$Witness", "countIn", "(I)V"⟩, 12) := ⟨⟨by decide +kernel, by decide +kernel⟩, List.mem_of_getElem? (i := 383) (by decide +kernel), List.mem_of_getElem? (i := 1211) (by decide +kernel), List.mem_of_getElem? (i := 1212) (by decide +kernel)⟩
theorem lw_p55 : lw_okq (⟨"NinetyPlayers", "isKept", "(I)Z"⟩, 14) := ⟨⟨by decide +kernel, by decide +kernel⟩, List.mem_of_getElem? (i := 23) (by decide +kernel), List.mem_of_getElem? (i := 1235) (by decide +kernel), List.mem_of_getElem? (i := 1236) (by decide +kernel)⟩
theorem lw_p56 : lw_okq (⟨"NinetyPlayers", "aboutTheRest", "(I)I"⟩, 14) := ⟨⟨by decide +kernel, by decide +kernel⟩, List.mem_of_getElem? (i := 23) (by decide +kernel), List.mem_of_getElem? (i := 1251) (by decide +kernel), List.mem_of_getElem? (i := 1252) (by decide +kernel)⟩
theorem lw_p57 : lw_okq (⟨"NinetyPlayersModel", "four", "(I)V"⟩, 80) := ⟨⟨by decide +kernel, by decide +kernel⟩, List.mem_of_getElem? (i := 1255) (by decide +kernel), List.mem_of_getElem? (i := 1506) (by decide +kernel), List.mem_of_getElem? (i := 1507) (by decide +kernel)⟩
theorem lw_p58 : lw_okq (⟨"NinetyPlayersModel", "readAll", "()V"⟩, 80) := ⟨⟨by decide +kernel, by decide +kernel⟩, List.mem_of_getElem? (i := 1255) (by decide +kernel), List.mem_of_getElem? (i := 1518) (by decide +kernel), List.mem_of_getElem? (i := 1519) (by decide +kernel)⟩
theorem lw_p59 : lw_okq (⟨"NinetyPlayersModel", "token", "()V"⟩, 80) := ⟨⟨by decide +kernel, by decide +kernel⟩, List.mem_of_getElem? (i := 1255) (by decide +kernel), List.mem_of_getElem? (i := 1522) (by decide +kernel), List.mem_of_getElem? (i := 1523) (by decide +kernel)⟩
theorem lw_p60 : lw_okq (⟨"NinetyPlayersModel", "here", "(I)I"⟩, 80) := ⟨⟨by decide +kernel, by decide +kernel⟩, List.mem_of_getElem? (i := 1255) (by decide +kernel), List.mem_of_getElem? (i := 1526) (by decide +kernel), List.mem_of_getElem? (i := 1527) (by decide +kernel)⟩
theorem lw_p61 : lw_okq (⟨"NinetyPlayersModel", "readLine", "()V"⟩, 80) := ⟨⟨by decide +kernel, by decide +kernel⟩, List.mem_of_getElem? (i := 1255) (by decide +kernel), List.mem_of_getElem? (i := 1539) (by decide +kernel), List.mem_of_getElem? (i := 1540) (by decide +kernel)⟩
theorem lw_p62 : lw_okq (⟨"NinetyPlayersModel", "isWord", "(J)Z"⟩, 80) := ⟨⟨by decide +kernel, by decide +kernel⟩, List.mem_of_getElem? (i := 1255) (by decide +kernel), List.mem_of_getElem? (i := 1544) (by decide +kernel), List.mem_of_getElem? (i := 1545) (by decide +kernel)⟩
theorem lw_p63 : lw_okq (⟨"NinetyPlayersModel", "told", "(JII)I"⟩, 80) := ⟨⟨by decide +kernel, by decide +kernel⟩, List.mem_of_getElem? (i := 1255) (by decide +kernel), List.mem_of_getElem? (i := 1548) (by decide +kernel), List.mem_of_getElem? (i := 1549) (by decide +kernel)⟩
def lw_privs_4 : List (MethodName × Nat) := [(⟨"NinetyPlayers$Arranger", "missedTogether", "(I)I"⟩, 9), (⟨"NinetyPlayers$Pedaller", "isFree", "(III)Z"⟩, 2), (⟨"NinetyPlayers$Pedaller", "bestWithPedalAt", "(I)I"⟩, 2), (⟨"NinetyPlayers", "openAt", "(I)I"⟩, 14), (⟨"NinetyPlayers$Witness", "gather", "(LNinetyPlayers$Score;I)V"⟩, 12), (⟨"NinetyPlayers$Witness", "isSo", "(I)Z"⟩, 12), (⟨"NinetyPlayers$Witness", "countIn", "(I)V"⟩, 12), (⟨"NinetyPlayers", "isKept", "(I)Z"⟩, 14), (⟨"NinetyPlayers", "aboutTheRest", "(I)I"⟩, 14), (⟨"NinetyPlayersModel", "four", "(I)V"⟩, 80), (⟨"NinetyPlayersModel", "readAll", "()V"⟩, 80), (⟨"NinetyPlayersModel", "token", "()V"⟩, 80), (⟨"NinetyPlayersModel", "here", "(I)I"⟩, 80), (⟨"NinetyPlayersModel", "readLine", "()V"⟩, 80), (⟨"NinetyPlayersModel", "isWord", "(J)Z"⟩, 80), (⟨"NinetyPlayersModel", "told", "(JII)I"⟩, 80)]
theorem lw_r4 : ∀ q ∈ lw_privs_4, lw_okq q := List.forall_mem_cons.mpr ⟨lw_p48, List.forall_mem_cons.mpr ⟨lw_p49, List.forall_mem_cons.mpr ⟨lw_p50, List.forall_mem_cons.mpr ⟨lw_p51, List.forall_mem_cons.mpr ⟨lw_p52, List.forall_mem_cons.mpr ⟨lw_p53, List.forall_mem_cons.mpr ⟨lw_p54, List.forall_mem_cons.mpr ⟨lw_p55, List.forall_mem_cons.mpr ⟨lw_p56, List.forall_mem_cons.mpr ⟨lw_p57, List.forall_mem_cons.mpr ⟨lw_p58, List.forall_mem_cons.mpr ⟨lw_p59, List.forall_mem_cons.mpr ⟨lw_p60, List.forall_mem_cons.mpr ⟨lw_p61, List.forall_mem_cons.mpr ⟨lw_p62, List.forall_mem_cons.mpr ⟨lw_p63, fun _ h => absurd h List.not_mem_nil⟩⟩⟩⟩⟩⟩⟩⟩⟩⟩⟩⟩⟩⟩⟩⟩
theorem lw_p64 : lw_okq (⟨"NinetyPlayersModel", "want", "(J)V"⟩, 80) := ⟨⟨by decide +kernel, by decide +kernel⟩, List.mem_of_getElem? (i := 1255) (by decide +kernel), List.mem_of_getElem? (i := 1552) (by decide +kernel), List.mem_of_getElem? (i := 1553) (by decide +kernel)⟩
theorem lw_p65 : lw_okq (⟨"NinetyPlayersModel", "wrong", "(I)V"⟩, 80) := ⟨⟨by decide +kernel, by decide +kernel⟩, List.mem_of_getElem? (i := 1255) (by decide +kernel), List.mem_of_getElem? (i := 1556) (by decide +kernel), List.mem_of_getElem? (i := 1557) (by decide +kernel)⟩
theorem lw_p66 : lw_okq (⟨"NinetyPlayersModel", "toldNumber", "(II)I"⟩, 80) := ⟨⟨by decide +kernel, by decide +kernel⟩, List.mem_of_getElem? (i := 1255) (by decide +kernel), List.mem_of_getElem? (i := 1560) (by decide +kernel), List.mem_of_getElem? (i := 1561) (by decide +kernel)⟩
theorem lw_p67 : lw_okq (⟨"NinetyPlayersModel", "readPart", "()V"⟩, 80) := ⟨⟨by decide +kernel, by decide +kernel⟩, List.mem_of_getElem? (i := 1255) (by decide +kernel), List.mem_of_getElem? (i := 1565) (by decide +kernel), List.mem_of_getElem? (i := 1566) (by decide +kernel)⟩
theorem lw_p68 : lw_okq (⟨"NinetyPlayersModel", "newName", "(II)V"⟩, 80) := ⟨⟨by decide +kernel, by decide +kernel⟩, List.mem_of_getElem? (i := 1255) (by decide +kernel), List.mem_of_getElem? (i := 1569) (by decide +kernel), List.mem_of_getElem? (i := 1570) (by decide +kernel)⟩
theorem lw_p69 : lw_okq (⟨"NinetyPlayersModel", "isName", "()Z"⟩, 80) := ⟨⟨by decide +kernel, by decide +kernel⟩, List.mem_of_getElem? (i := 1255) (by decide +kernel), List.mem_of_getElem? (i := 1573) (by decide +kernel), List.mem_of_getElem? (i := 1574) (by decide +kernel)⟩
theorem lw_p70 : lw_okq (⟨"NinetyPlayersModel", "isOwn", "()Z"⟩, 80) := ⟨⟨by decide +kernel, by decide +kernel⟩, List.mem_of_getElem? (i := 1255) (by decide +kernel), List.mem_of_getElem? (i := 1577) (by decide +kernel), List.mem_of_getElem? (i := 1578) (by decide +kernel)⟩
theorem lw_p71 : lw_okq (⟨"NinetyPlayersModel", "find", "(II)I"⟩, 80) := ⟨⟨by decide +kernel, by decide +kernel⟩, List.mem_of_getElem? (i := 1255) (by decide +kernel), List.mem_of_getElem? (i := 1600) (by decide +kernel), List.mem_of_getElem? (i := 1601) (by decide +kernel)⟩
theorem lw_p72 : lw_okq (⟨"NinetyPlayersModel", "readNote", "()V"⟩, 80) := ⟨⟨by decide +kernel, by decide +kernel⟩, List.mem_of_getElem? (i := 1255) (by decide +kernel), List.mem_of_getElem? (i := 1607) (by decide +kernel), List.mem_of_getElem? (i := 1608) (by decide +kernel)⟩
theorem lw_p73 : lw_okq (⟨"NinetyPlayersModel", "oldPart", "()I"⟩, 80) := ⟨⟨by decide +kernel, by decide +kernel⟩, List.mem_of_getElem? (i := 1255) (by decide +kernel), List.mem_of_getElem? (i := 1611) (by decide +kernel), List.mem_of_getElem? (i := 1612) (by decide +kernel)⟩
theorem lw_p74 : lw_okq (⟨"NinetyPlayersModel", "formula", "()V"⟩, 80) := ⟨⟨by decide +kernel, by decide +kernel⟩, List.mem_of_getElem? (i := 1255) (by decide +kernel), List.mem_of_getElem? (i := 1615) (by decide +kernel), List.mem_of_getElem? (i := 1616) (by decide +kernel)⟩
theorem lw_p75 : lw_okq (⟨"NinetyPlayersModel", "unit", "()V"⟩, 80) := ⟨⟨by decide +kernel, by decide +kernel⟩, List.mem_of_getElem? (i := 1255) (by decide +kernel), List.mem_of_getElem? (i := 1619) (by decide +kernel), List.mem_of_getElem? (i := 1620) (by decide +kernel)⟩
theorem lw_p76 : lw_okq (⟨"NinetyPlayersModel", "mayNot", "()Z"⟩, 80) := ⟨⟨by decide +kernel, by decide +kernel⟩, List.mem_of_getElem? (i := 1255) (by decide +kernel), List.mem_of_getElem? (i := 1623) (by decide +kernel), List.mem_of_getElem? (i := 1624) (by decide +kernel)⟩
theorem lw_p77 : lw_okq (⟨"NinetyPlayersModel", "openUp", "(I)V"⟩, 80) := ⟨⟨by decide +kernel, by decide +kernel⟩, List.mem_of_getElem? (i := 1255) (by decide +kernel), List.mem_of_getElem? (i := 1630) (by decide +kernel), List.mem_of_getElem? (i := 1631) (by decide +kernel)⟩
theorem lw_p78 : lw_okq (⟨"NinetyPlayersModel", "isFull", "()Z"⟩, 80) := ⟨⟨by decide +kernel, by decide +kernel⟩, List.mem_of_getElem? (i := 1255) (by decide +kernel), List.mem_of_getElem? (i := 1634) (by decide +kernel), List.mem_of_getElem? (i := 1635) (by decide +kernel)⟩
theorem lw_p79 : lw_okq (⟨"NinetyPlayersModel", "countUnit", "()V"⟩, 80) := ⟨⟨by decide +kernel, by decide +kernel⟩, List.mem_of_getElem? (i := 1255) (by decide +kernel), List.mem_of_getElem? (i := 1638) (by decide +kernel), List.mem_of_getElem? (i := 1639) (by decide +kernel)⟩
def lw_privs_5 : List (MethodName × Nat) := [(⟨"NinetyPlayersModel", "want", "(J)V"⟩, 80), (⟨"NinetyPlayersModel", "wrong", "(I)V"⟩, 80), (⟨"NinetyPlayersModel", "toldNumber", "(II)I"⟩, 80), (⟨"NinetyPlayersModel", "readPart", "()V"⟩, 80), (⟨"NinetyPlayersModel", "newName", "(II)V"⟩, 80), (⟨"NinetyPlayersModel", "isName", "()Z"⟩, 80), (⟨"NinetyPlayersModel", "isOwn", "()Z"⟩, 80), (⟨"NinetyPlayersModel", "find", "(II)I"⟩, 80), (⟨"NinetyPlayersModel", "readNote", "()V"⟩, 80), (⟨"NinetyPlayersModel", "oldPart", "()I"⟩, 80), (⟨"NinetyPlayersModel", "formula", "()V"⟩, 80), (⟨"NinetyPlayersModel", "unit", "()V"⟩, 80), (⟨"NinetyPlayersModel", "mayNot", "()Z"⟩, 80), (⟨"NinetyPlayersModel", "openUp", "(I)V"⟩, 80), (⟨"NinetyPlayersModel", "isFull", "()Z"⟩, 80), (⟨"NinetyPlayersModel", "countUnit", "()V"⟩, 80)]
theorem lw_r5 : ∀ q ∈ lw_privs_5, lw_okq q := List.forall_mem_cons.mpr ⟨lw_p64, List.forall_mem_cons.mpr ⟨lw_p65, List.forall_mem_cons.mpr ⟨lw_p66, List.forall_mem_cons.mpr ⟨lw_p67, List.forall_mem_cons.mpr ⟨lw_p68, List.forall_mem_cons.mpr ⟨lw_p69, List.forall_mem_cons.mpr ⟨lw_p70, List.forall_mem_cons.mpr ⟨lw_p71, List.forall_mem_cons.mpr ⟨lw_p72, List.forall_mem_cons.mpr ⟨lw_p73, List.forall_mem_cons.mpr ⟨lw_p74, List.forall_mem_cons.mpr ⟨lw_p75, List.forall_mem_cons.mpr ⟨lw_p76, List.forall_mem_cons.mpr ⟨lw_p77, List.forall_mem_cons.mpr ⟨lw_p78, List.forall_mem_cons.mpr ⟨lw_p79, fun _ h => absurd h List.not_mem_nil⟩⟩⟩⟩⟩⟩⟩⟩⟩⟩⟩⟩⟩⟩⟩⟩
theorem lw_p80 : lw_okq (⟨"NinetyPlayersModel", "asked", "()I"⟩, 80) := ⟨⟨by decide +kernel, by decide +kernel⟩, List.mem_of_getElem? (i := 1255) (by decide +kernel), List.mem_of_getElem? (i := 1642) (by decide +kernel), List.mem_of_getElem? (i := 1643) (by decide +kernel)⟩
theorem lw_p81 : lw_okq (⟨"NinetyPlayersModel", "add", "(II)V"⟩, 80) := ⟨⟨by decide +kernel, by decide +kernel⟩, List.mem_of_getElem? (i := 1255) (by decide +kernel), List.mem_of_getElem? (i := 1646) (by decide +kernel), List.mem_of_getElem? (i := 1647) (by decide +kernel)⟩
theorem lw_p82 : lw_okq (⟨"NinetyPlayersModel", "sign", "()I"⟩, 80) := ⟨⟨by decide +kernel, by decide +kernel⟩, List.mem_of_getElem? (i := 1255) (by decide +kernel), List.mem_of_getElem? (i := 1650) (by decide +kernel), List.mem_of_getElem? (i := 1651) (by decide +kernel)⟩
theorem lw_p83 : lw_okq (⟨"NinetyPlayersModel", "hasBracket", "()Z"⟩, 80) := ⟨⟨by decide +kernel, by decide +kernel⟩, List.mem_of_getElem? (i := 1255) (by decide +kernel), List.mem_of_getElem? (i := 1654) (by decide +kernel), List.mem_of_getElem? (i := 1655) (by decide +kernel)⟩
theorem lw_p84 : lw_okq (⟨"NinetyPlayersModel", "close", "(I)V"⟩, 80) := ⟨⟨by decide +kernel, by decide +kernel⟩, List.mem_of_getElem? (i := 1255) (by decide +kernel), List.mem_of_getElem? (i := 1658) (by decide +kernel), List.mem_of_getElem? (i := 1659) (by decide +kernel)⟩
theorem lw_p85 : lw_okq (⟨"NinetyPlayersModel", "hasRelation", "()Z"⟩, 80) := ⟨⟨by decide +kernel, by decide +kernel⟩, List.mem_of_getElem? (i := 1255) (by decide +kernel), List.mem_of_getElem? (i := 1662) (by decide +kernel), List.mem_of_getElem? (i := 1663) (by decide +kernel)⟩
theorem lw_p86 : lw_okq (⟨"NinetyPlayersModel", "begin", "()V"⟩, 80) := ⟨⟨by decide +kernel, by decide +kernel⟩, List.mem_of_getElem? (i := 1255) (by decide +kernel), List.mem_of_getElem? (i := 1666) (by decide +kernel), List.mem_of_getElem? (i := 1667) (by decide +kernel)⟩
theorem lw_p87 : lw_okq (⟨"NinetyPlayersModel", "keepAir", "()V"⟩, 80) := ⟨⟨by decide +kernel, by decide +kernel⟩, List.mem_of_getElem? (i := 1255) (by decide +kernel), List.mem_of_getElem? (i := 1670) (by decide +kernel), List.mem_of_getElem? (i := 1671) (by decide +kernel)⟩
theorem lw_p88 : lw_okq (⟨"NinetyPlayersModel", "isNote", "(I)Z"⟩, 80) := ⟨⟨by decide +kernel, by decide +kernel⟩, List.mem_of_getElem? (i := 1255) (by decide +kernel), List.mem_of_getElem? (i := 1682) (by decide +kernel), List.mem_of_getElem? (i := 1683) (by decide +kernel)⟩
theorem lw_p89 : lw_okq (⟨"NinetyPlayersModel", "fill", "()V"⟩, 80) := ⟨⟨by decide +kernel, by decide +kernel⟩, List.mem_of_getElem? (i := 1255) (by decide +kernel), List.mem_of_getElem? (i := 1689) (by decide +kernel), List.mem_of_getElem? (i := 1690) (by decide +kernel)⟩
theorem lw_p90 : lw_okq (⟨"NinetyPlayersModel", "layHold", "()V"⟩, 80) := ⟨⟨by decide +kernel, by decide +kernel⟩, List.mem_of_getElem? (i := 1255) (by decide +kernel), List.mem_of_getElem? (i := 1693) (by decide +kernel), List.mem_of_getElem? (i := 1694) (by decide +kernel)⟩
theorem lw_p91 : lw_okq (⟨"NinetyPlayersModel", "missedOf", "(I)I"⟩, 80) := ⟨⟨by decide +kernel, by decide +kernel⟩, List.mem_of_getElem? (i := 1255) (by decide +kernel), List.mem_of_getElem? (i := 1697) (by decide +kernel), List.mem_of_getElem? (i := 1698) (by decide +kernel)⟩
theorem lw_p92 : lw_okq (⟨"NinetyPlayersModel", "doubles", "(I)I"⟩, 80) := ⟨⟨by decide +kernel, by decide +kernel⟩, List.mem_of_getElem? (i := 1255) (by decide +kernel), List.mem_of_getElem? (i := 1701) (by decide +kernel), List.mem_of_getElem? (i := 1702) (by decide +kernel)⟩
theorem lw_p93 : lw_okq (⟨"NinetyPlayersModel", "notesOf", "(I)I"⟩, 80) := ⟨⟨by decide +kernel, by decide +kernel⟩, List.mem_of_getElem? (i := 1255) (by decide +kernel), List.mem_of_getElem? (i := 1721) (by decide +kernel), List.mem_of_getElem? (i := 1722) (by decide +kernel)⟩
theorem lw_p94 : lw_okq (⟨"NinetyPlayersModel", "given", "(I)I"⟩, 80) := ⟨⟨by decide +kernel, by decide +kernel⟩, List.mem_of_getElem? (i := 1255) (by decide +kernel), List.mem_of_getElem? (i := 1725) (by decide +kernel), List.mem_of_getElem? (i := 1726) (by decide +kernel)⟩
theorem lw_p95 : lw_okq (⟨"NinetyPlayersModel", "isBeat", "(I)Z"⟩, 80) := ⟨⟨by decide +kernel, by decide +kernel⟩, List.mem_of_getElem? (i := 1255) (by decide +kernel), List.mem_of_getElem? (i := 1733) (by decide +kernel), List.mem_of_getElem? (i := 1734) (by decide +kernel)⟩
def lw_privs_6 : List (MethodName × Nat) := [(⟨"NinetyPlayersModel", "asked", "()I"⟩, 80), (⟨"NinetyPlayersModel", "add", "(II)V"⟩, 80), (⟨"NinetyPlayersModel", "sign", "()I"⟩, 80), (⟨"NinetyPlayersModel", "hasBracket", "()Z"⟩, 80), (⟨"NinetyPlayersModel", "close", "(I)V"⟩, 80), (⟨"NinetyPlayersModel", "hasRelation", "()Z"⟩, 80), (⟨"NinetyPlayersModel", "begin", "()V"⟩, 80), (⟨"NinetyPlayersModel", "keepAir", "()V"⟩, 80), (⟨"NinetyPlayersModel", "isNote", "(I)Z"⟩, 80), (⟨"NinetyPlayersModel", "fill", "()V"⟩, 80), (⟨"NinetyPlayersModel", "layHold", "()V"⟩, 80), (⟨"NinetyPlayersModel", "missedOf", "(I)I"⟩, 80), (⟨"NinetyPlayersModel", "doubles", "(I)I"⟩, 80), (⟨"NinetyPlayersModel", "notesOf", "(I)I"⟩, 80), (⟨"NinetyPlayersModel", "given", "(I)I"⟩, 80), (⟨"NinetyPlayersModel", "isBeat", "(I)Z"⟩, 80)]
theorem lw_r6 : ∀ q ∈ lw_privs_6, lw_okq q := List.forall_mem_cons.mpr ⟨lw_p80, List.forall_mem_cons.mpr ⟨lw_p81, List.forall_mem_cons.mpr ⟨lw_p82, List.forall_mem_cons.mpr ⟨lw_p83, List.forall_mem_cons.mpr ⟨lw_p84, List.forall_mem_cons.mpr ⟨lw_p85, List.forall_mem_cons.mpr ⟨lw_p86, List.forall_mem_cons.mpr ⟨lw_p87, List.forall_mem_cons.mpr ⟨lw_p88, List.forall_mem_cons.mpr ⟨lw_p89, List.forall_mem_cons.mpr ⟨lw_p90, List.forall_mem_cons.mpr ⟨lw_p91, List.forall_mem_cons.mpr ⟨lw_p92, List.forall_mem_cons.mpr ⟨lw_p93, List.forall_mem_cons.mpr ⟨lw_p94, List.forall_mem_cons.mpr ⟨lw_p95, fun _ h => absurd h List.not_mem_nil⟩⟩⟩⟩⟩⟩⟩⟩⟩⟩⟩⟩⟩⟩⟩⟩
theorem lw_p96 : lw_okq (⟨"NinetyPlayersModel", "laySound", "()V"⟩, 80) := ⟨⟨by decide +kernel, by decide +kernel⟩, List.mem_of_getElem? (i := 1255) (by decide +kernel), List.mem_of_getElem? (i := 1744) (by decide +kernel), List.mem_of_getElem? (i := 1745) (by decide +kernel)⟩
theorem lw_p97 : lw_okq (⟨"NinetyPlayersModel", "clashBy", "(IIIII)I"⟩, 80) := ⟨⟨by decide +kernel, by decide +kernel⟩, List.mem_of_getElem? (i := 1255) (by decide +kernel), List.mem_of_getElem? (i := 1752) (by decide +kernel), List.mem_of_getElem? (i := 1753) (by decide +kernel)⟩
theorem lw_p98 : lw_okq (⟨"NinetyPlayersModel", "ownClash", "(IIII)I"⟩, 80) := ⟨⟨by decide +kernel, by decide +kernel⟩, List.mem_of_getElem? (i := 1255) (by decide +kernel), List.mem_of_getElem? (i := 1756) (by decide +kernel), List.mem_of_getElem? (i := 1757) (by decide +kernel)⟩
theorem lw_p99 : lw_okq (⟨"NinetyPlayersModel", "lowest", "(I)I"⟩, 80) := ⟨⟨by decide +kernel, by decide +kernel⟩, List.mem_of_getElem? (i := 1255) (by decide +kernel), List.mem_of_getElem? (i := 1760) (by decide +kernel), List.mem_of_getElem? (i := 1761) (by decide +kernel)⟩
theorem lw_p100 : lw_okq (⟨"NinetyPlayersModel", "highest", "(I)I"⟩, 80) := ⟨⟨by decide +kernel, by decide +kernel⟩, List.mem_of_getElem? (i := 1255) (by decide +kernel), List.mem_of_getElem? (i := 1765) (by decide +kernel), List.mem_of_getElem? (i := 1766) (by decide +kernel)⟩
theorem lw_p101 : lw_okq (⟨"NinetyPlayersModel", "hasTwins", "(I)Z"⟩, 80) := ⟨⟨by decide +kernel, by decide +kernel⟩, List.mem_of_getElem? (i := 1255) (by decide +kernel), List.mem_of_getElem? (i := 1769) (by decide +kernel), List.mem_of_getElem? (i := 1770) (by decide +kernel)⟩
theorem lw_p102 : lw_okq (⟨"NinetyPlayersModel", "clashBeats", "(I)I"⟩, 80) := ⟨⟨by decide +kernel, by decide +kernel⟩, List.mem_of_getElem? (i := 1255) (by decide +kernel), List.mem_of_getElem? (i := 1777) (by decide +kernel), List.mem_of_getElem? (i := 1778) (by decide +kernel)⟩
theorem lw_p103 : lw_okq (⟨"NinetyPlayersModel", "act", "()V"⟩, 80) := ⟨⟨by decide +kernel, by decide +kernel⟩, List.mem_of_getElem? (i := 1255) (by decide +kernel), List.mem_of_getElem? (i := 1785) (by decide +kernel), List.mem_of_getElem? (i := 1786) (by decide +kernel)⟩
theorem lw_p104 : lw_okq (⟨"NinetyPlayersModel", "change", "(II)I"⟩, 80) := ⟨⟨by decide +kernel, by decide +kernel⟩, List.mem_of_getElem? (i := 1255) (by decide +kernel), List.mem_of_getElem? (i := 1798) (by decide +kernel), List.mem_of_getElem? (i := 1799) (by decide +kernel)⟩
theorem lw_p105 : lw_okq (⟨"NinetyPlayersModel", "exchange", "(I)V"⟩, 80) := ⟨⟨by decide +kernel, by decide +kernel⟩, List.mem_of_getElem? (i := 1255) (by decide +kernel), List.mem_of_getElem? (i := 1814) (by decide +kernel), List.mem_of_getElem? (i := 1815) (by decide +kernel)⟩
theorem lw_p106 : lw_okq (⟨"NinetyPlayersModel", "layMissed", "()V"⟩, 80) := ⟨⟨by decide +kernel, by decide +kernel⟩, List.mem_of_getElem? (i := 1255) (by decide +kernel), List.mem_of_getElem? (i := 1826) (by decide +kernel), List.mem_of_getElem? (i := 1827) (by decide +kernel)⟩
theorem lw_p107 : lw_okq (⟨"NinetyPlayersModel", "missedBy", "(I)I"⟩, 80) := ⟨⟨by decide +kernel, by decide +kernel⟩, List.mem_of_getElem? (i := 1255) (by decide +kernel), List.mem_of_getElem? (i := 1830) (by decide +kernel), List.mem_of_getElem? (i := 1831) (by decide +kernel)⟩
theorem lw_p108 : lw_okq (⟨"NinetyPlayersModel", "best", "(II)I"⟩, 80) := ⟨⟨by decide +kernel, by decide +kernel⟩, List.mem_of_getElem? (i := 1255) (by decide +kernel), List.mem_of_getElem? (i := 1838) (by decide +kernel), List.mem_of_getElem? (i := 1839) (by decide +kernel)⟩
theorem lw_p109 : lw_okq (⟨"NinetyPlayersModel", "layVersion", "(I)I"⟩, 80) := ⟨⟨by decide +kernel, by decide +kernel⟩, List.mem_of_getElem? (i := 1255) (by decide +kernel), List.mem_of_getElem? (i := 1845) (by decide +kernel), List.mem_of_getElem? (i := 1846) (by decide +kernel)⟩
theorem lw_p110 : lw_okq (⟨"NinetyPlayersModel", "rowOf", "(I)I"⟩, 80) := ⟨⟨by decide +kernel, by decide +kernel⟩, List.mem_of_getElem? (i := 1255) (by decide +kernel), List.mem_of_getElem? (i := 1849) (by decide +kernel), List.mem_of_getElem? (i := 1850) (by decide +kernel)⟩
theorem lw_p111 : lw_okq (⟨"NinetyPlayersModel", "canBePlayed", "(IIII)Z"⟩, 80) := ⟨⟨by decide +kernel, by decide +kernel⟩, List.mem_of_getElem? (i := 1255) (by decide +kernel), List.mem_of_getElem? (i := 1853) (by decide +kernel), List.mem_of_getElem? (i := 1854) (by decide +kernel)⟩
def lw_privs_7 : List (MethodName × Nat) := [(⟨"NinetyPlayersModel", "laySound", "()V"⟩, 80), (⟨"NinetyPlayersModel", "clashBy", "(IIIII)I"⟩, 80), (⟨"NinetyPlayersModel", "ownClash", "(IIII)I"⟩, 80), (⟨"NinetyPlayersModel", "lowest", "(I)I"⟩, 80), (⟨"NinetyPlayersModel", "highest", "(I)I"⟩, 80), (⟨"NinetyPlayersModel", "hasTwins", "(I)Z"⟩, 80), (⟨"NinetyPlayersModel", "clashBeats", "(I)I"⟩, 80), (⟨"NinetyPlayersModel", "act", "()V"⟩, 80), (⟨"NinetyPlayersModel", "change", "(II)I"⟩, 80), (⟨"NinetyPlayersModel", "exchange", "(I)V"⟩, 80), (⟨"NinetyPlayersModel", "layMissed", "()V"⟩, 80), (⟨"NinetyPlayersModel", "missedBy", "(I)I"⟩, 80), (⟨"NinetyPlayersModel", "best", "(II)I"⟩, 80), (⟨"NinetyPlayersModel", "layVersion", "(I)I"⟩, 80), (⟨"NinetyPlayersModel", "rowOf", "(I)I"⟩, 80), (⟨"NinetyPlayersModel", "canBePlayed", "(IIII)Z"⟩, 80)]
theorem lw_r7 : ∀ q ∈ lw_privs_7, lw_okq q := List.forall_mem_cons.mpr ⟨lw_p96, List.forall_mem_cons.mpr ⟨lw_p97, List.forall_mem_cons.mpr ⟨lw_p98, List.forall_mem_cons.mpr ⟨lw_p99, List.forall_mem_cons.mpr ⟨lw_p100, List.forall_mem_cons.mpr ⟨lw_p101, List.forall_mem_cons.mpr ⟨lw_p102, List.forall_mem_cons.mpr ⟨lw_p103, List.forall_mem_cons.mpr ⟨lw_p104, List.forall_mem_cons.mpr ⟨lw_p105, List.forall_mem_cons.mpr ⟨lw_p106, List.forall_mem_cons.mpr ⟨lw_p107, List.forall_mem_cons.mpr ⟨lw_p108, List.forall_mem_cons.mpr ⟨lw_p109, List.forall_mem_cons.mpr ⟨lw_p110, List.forall_mem_cons.mpr ⟨lw_p111, fun _ h => absurd h List.not_mem_nil⟩⟩⟩⟩⟩⟩⟩⟩⟩⟩⟩⟩⟩⟩⟩⟩
theorem lw_p112 : lw_okq (⟨"NinetyPlayersModel", "isOut", "(I)Z"⟩, 80) := ⟨⟨by decide +kernel, by decide +kernel⟩, List.mem_of_getElem? (i := 1255) (by decide +kernel), List.mem_of_getElem? (i := 1865) (by decide +kernel), List.mem_of_getElem? (i := 1866) (by decide +kernel)⟩
theorem lw_p113 : lw_okq (⟨"NinetyPlayersModel", "forbidden", "(II)I"⟩, 80) := ⟨⟨by decide +kernel, by decide +kernel⟩, List.mem_of_getElem? (i := 1255) (by decide +kernel), List.mem_of_getElem? (i := 1869) (by decide +kernel), List.mem_of_getElem? (i := 1870) (by decide +kernel)⟩
theorem lw_p114 : lw_okq (⟨"NinetyPlayersModel", "letsIn", "(III)Z"⟩, 80) := ⟨⟨by decide +kernel, by decide +kernel⟩, List.mem_of_getElem? (i := 1255) (by decide +kernel), List.mem_of_getElem? (i := 1885) (by decide +kernel), List.mem_of_getElem? (i := 1886) (by decide +kernel)⟩
theorem lw_p115 : lw_okq (⟨"NinetyPlayersModel", "canBePlayedSo", "()Z"⟩, 80) := ⟨⟨by decide +kernel, by decide +kernel⟩, List.mem_of_getElem? (i := 1255) (by decide +kernel), List.mem_of_getElem? (i := 1889) (by decide +kernel), List.mem_of_getElem? (i := 1890) (by decide +kernel)⟩
theorem lw_p116 : lw_okq (⟨"NinetyPlayersModel", "blurs", "(III)Z"⟩, 80) := ⟨⟨by decide +kernel, by decide +kernel⟩, List.mem_of_getElem? (i := 1255) (by decide +kernel), List.mem_of_getElem? (i := 1916) (by decide +kernel), List.mem_of_getElem? (i := 1917) (by decide +kernel)⟩
theorem lw_p117 : lw_okq (⟨"NinetyPlayersModel", "openAt", "(I)I"⟩, 80) := ⟨⟨by decide +kernel, by decide +kernel⟩, List.mem_of_getElem? (i := 1255) (by decide +kernel), List.mem_of_getElem? (i := 1924) (by decide +kernel), List.mem_of_getElem? (i := 1925) (by decide +kernel)⟩
theorem lw_p118 : lw_okq (⟨"NinetyPlayersModel", "tunes", "()I"⟩, 80) := ⟨⟨by decide +kernel, by decide +kernel⟩, List.mem_of_getElem? (i := 1255) (by decide +kernel), List.mem_of_getElem? (i := 1932) (by decide +kernel), List.mem_of_getElem? (i := 1933) (by decide +kernel)⟩
theorem lw_p119 : lw_okq (⟨"NinetyPlayersModel", "laySets", "(I)I"⟩, 80) := ⟨⟨by decide +kernel, by decide +kernel⟩, List.mem_of_getElem? (i := 1255) (by decide +kernel), List.mem_of_getElem? (i := 1977) (by decide +kernel), List.mem_of_getElem? (i := 1978) (by decide +kernel)⟩
theorem lw_p120 : lw_okq (⟨"NinetyPlayersModel", "sayersOf", "(I)I"⟩, 80) := ⟨⟨by decide +kernel, by decide +kernel⟩, List.mem_of_getElem? (i := 1255) (by decide +kernel), List.mem_of_getElem? (i := 1981) (by decide +kernel), List.mem_of_getElem? (i := 1982) (by decide +kernel)⟩
theorem lw_p121 : lw_okq (⟨"NinetyPlayersModel", "counts", "(II)Z"⟩, 80) := ⟨⟨by decide +kernel, by decide +kernel⟩, List.mem_of_getElem? (i := 1255) (by decide +kernel), List.mem_of_getElem? (i := 1985) (by decide +kernel), List.mem_of_getElem? (i := 1986) (by decide +kernel)⟩
theorem lw_p122 : lw_okq (⟨"NinetyPlayersModel", "played", "()I"⟩, 80) := ⟨⟨by decide +kernel, by decide +kernel⟩, List.mem_of_getElem? (i := 1255) (by decide +kernel), List.mem_of_getElem? (i := 2004) (by decide +kernel), List.mem_of_getElem? (i := 2005) (by decide +kernel)⟩
def lw_privs_8 : List (MethodName × Nat) := [(⟨"NinetyPlayersModel", "isOut", "(I)Z"⟩, 80), (⟨"NinetyPlayersModel", "forbidden", "(II)I"⟩, 80), (⟨"NinetyPlayersModel", "letsIn", "(III)Z"⟩, 80), (⟨"NinetyPlayersModel", "canBePlayedSo", "()Z"⟩, 80), (⟨"NinetyPlayersModel", "blurs", "(III)Z"⟩, 80), (⟨"NinetyPlayersModel", "openAt", "(I)I"⟩, 80), (⟨"NinetyPlayersModel", "tunes", "()I"⟩, 80), (⟨"NinetyPlayersModel", "laySets", "(I)I"⟩, 80), (⟨"NinetyPlayersModel", "sayersOf", "(I)I"⟩, 80), (⟨"NinetyPlayersModel", "counts", "(II)Z"⟩, 80), (⟨"NinetyPlayersModel", "played", "()I"⟩, 80)]
theorem lw_r8 : ∀ q ∈ lw_privs_8, lw_okq q := List.forall_mem_cons.mpr ⟨lw_p112, List.forall_mem_cons.mpr ⟨lw_p113, List.forall_mem_cons.mpr ⟨lw_p114, List.forall_mem_cons.mpr ⟨lw_p115, List.forall_mem_cons.mpr ⟨lw_p116, List.forall_mem_cons.mpr ⟨lw_p117, List.forall_mem_cons.mpr ⟨lw_p118, List.forall_mem_cons.mpr ⟨lw_p119, List.forall_mem_cons.mpr ⟨lw_p120, List.forall_mem_cons.mpr ⟨lw_p121, List.forall_mem_cons.mpr ⟨lw_p122, fun _ h => absurd h List.not_mem_nil⟩⟩⟩⟩⟩⟩⟩⟩⟩⟩⟩
def lw_privs : List (MethodName × Nat) := lw_privs_1 ++ (lw_privs_2 ++ (lw_privs_3 ++ (lw_privs_4 ++ (lw_privs_5 ++ (lw_privs_6 ++ (lw_privs_7 ++ (lw_privs_8)))))))
def lw_tbl : List Cond := k2_sels lw_privs ++ tables_1
theorem lw_privs_ok : ∀ q ∈ lw_privs, lw_okq q := by
  show ∀ q ∈ lw_privs_1 ++ (lw_privs_2 ++ (lw_privs_3 ++ (lw_privs_4 ++ (lw_privs_5 ++ (lw_privs_6 ++ (lw_privs_7 ++ (lw_privs_8))))))), lw_okq q
  exact List.forall_mem_append.mpr ⟨lw_r1, List.forall_mem_append.mpr ⟨lw_r2, List.forall_mem_append.mpr ⟨lw_r3, List.forall_mem_append.mpr ⟨lw_r4, List.forall_mem_append.mpr ⟨lw_r5, List.forall_mem_append.mpr ⟨lw_r6, List.forall_mem_append.mpr ⟨lw_r7, lw_r8⟩⟩⟩⟩⟩⟩⟩
end
section
/-! class tables: a class by its number, its fields in the order of their slots -/
def cT0 : u_T := fun k => match k with
  | 0 => ("NinetyPlayers", "tape", "[B", true)
  | 1 => ("NinetyPlayers", "tapeSize", "I", false)
  | 2 => ("NinetyPlayers", "reader", "LNinetyPlayers$Reader;", true)
  | 3 => ("NinetyPlayers", "told", "LNinetyPlayers$Score;", false)
  | 4 => ("NinetyPlayers", "now", "LNinetyPlayers$Laying;", true)
  | 5 => ("NinetyPlayers", "boxes", "[LNinetyPlayers$Laying;", true)
  | 6 => ("NinetyPlayers", "acts", "LNinetyPlayers$Acts;", true)
  | 7 => ("NinetyPlayers", "keyboard", "LNinetyPlayers$Keyboard;", true)
  | 8 => ("NinetyPlayers", "missed", "[I", true)
  | 9 => ("NinetyPlayers", "arranger", "LNinetyPlayers$Arranger;", true)
  | 10 => ("NinetyPlayers", "pedaller", "LNinetyPlayers$Pedaller;", true)
  | 11 => ("NinetyPlayers", "witness", "LNinetyPlayers$Witness;", true)
  | 12 => ("NinetyPlayers", "lying", "[I", true)
  | _ => ("NinetyPlayers", "lyingSize", "I", false)
def cY0 : Nat → FieldType := fun k => match k with
  | 0 => .array .byte
  | 1 => .int
  | 2 => .object "NinetyPlayers$Reader"
  | 3 => .object "NinetyPlayers$Score"
  | 4 => .object "NinetyPlayers$Laying"
  | 5 => .array (.object "NinetyPlayers$Laying")
  | 6 => .object "NinetyPlayers$Acts"
  | 7 => .object "NinetyPlayers$Keyboard"
  | 8 => .array .int
  | 9 => .object "NinetyPlayers$Arranger"
  | 10 => .object "NinetyPlayers$Pedaller"
  | 11 => .object "NinetyPlayers$Witness"
  | 12 => .array .int
  | _ => .int
def cT1 : u_T := fun k => match k with
  | 0 => ("NinetyPlayers$Reader", "fault", "I", false)
  | 1 => ("NinetyPlayers$Reader", "place", "I", false)
  | 2 => ("NinetyPlayers$Reader", "tokens", "LNinetyPlayers$Tokens;", true)
  | 3 => ("NinetyPlayers$Reader", "draft", "LNinetyPlayers$Score;", false)
  | _ => ("NinetyPlayers$Reader", "begun", "I", false)
def cY1 : Nat → FieldType := fun k => match k with
  | 0 => .int
  | 1 => .int
  | 2 => .object "NinetyPlayers$Tokens"
  | 3 => .object "NinetyPlayers$Score"
  | _ => .int
def cT2 : u_T := fun k => match k with
  | 0 => ("NinetyPlayers$Score", "beats", "I", false)
  | 1 => ("NinetyPlayers$Score", "span", "I", false)
  | 2 => ("NinetyPlayers$Score", "fingers", "I", false)
  | 3 => ("NinetyPlayers$Score", "leap", "I", false)
  | 4 => ("NinetyPlayers$Score", "ear", "I", false)
  | 5 => ("NinetyPlayers$Score", "parts", "I", false)
  | 6 => ("NinetyPlayers$Score", "notes", "I", false)
  | 7 => ("NinetyPlayers$Score", "partNames", "[J", true)
  | 8 => ("NinetyPlayers$Score", "roles", "[I", true)
  | 9 => ("NinetyPlayers$Score", "noteNames", "[J", true)
  | 10 => ("NinetyPlayers$Score", "partOf", "[I", true)
  | 11 => ("NinetyPlayers$Score", "begins", "[I", true)
  | 12 => ("NinetyPlayers$Score", "keys", "[I", true)
  | 13 => ("NinetyPlayers$Score", "lengths", "[I", true)
  | 14 => ("NinetyPlayers$Score", "louds", "[I", true)
  | _ => ("NinetyPlayers$Score", "formula", "LNinetyPlayers$Formula;", true)
def cY2 : Nat → FieldType := fun k => match k with
  | 0 => .int
  | 1 => .int
  | 2 => .int
  | 3 => .int
  | 4 => .int
  | 5 => .int
  | 6 => .int
  | 7 => .array .long
  | 8 => .array .int
  | 9 => .array .long
  | 10 => .array .int
  | 11 => .array .int
  | 12 => .array .int
  | 13 => .array .int
  | 14 => .array .int
  | _ => .object "NinetyPlayers$Formula"
def cT3 : u_T := fun k => match k with
  | 0 => ("NinetyPlayers$Formula", "units", "I", false)
  | 1 => ("NinetyPlayers$Formula", "size", "I", false)
  | 2 => ("NinetyPlayers$Formula", "code", "[I", true)
  | 3 => ("NinetyPlayers$Formula", "stack", "[I", true)
  | 4 => ("NinetyPlayers$Formula", "facts", "[I", true)
  | _ => ("NinetyPlayers$Formula", "depth", "I", false)
def cY3 : Nat → FieldType := fun k => match k with
  | 0 => .int
  | 1 => .int
  | 2 => .array .int
  | 3 => .array .int
  | 4 => .array .int
  | _ => .int
def cT4 : u_T := fun k => match k with
  | 0 => ("NinetyPlayers$Tokens", "text", "[B", true)
  | 1 => ("NinetyPlayers$Tokens", "size", "I", false)
  | 2 => ("NinetyPlayers$Tokens", "next", "I", false)
  | 3 => ("NinetyPlayers$Tokens", "place", "I", false)
  | 4 => ("NinetyPlayers$Tokens", "kind", "I", false)
  | 5 => ("NinetyPlayers$Tokens", "value", "I", false)
  | _ => ("NinetyPlayers$Tokens", "name", "J", false)
def cY4 : Nat → FieldType := fun k => match k with
  | 0 => .array .byte
  | 1 => .int
  | 2 => .int
  | 3 => .int
  | 4 => .int
  | 5 => .int
  | _ => .long
def cT5 : u_T := fun k => match k with
  | 0 => ("NinetyPlayers$Laying", "kept", "Z", false)
  | 1 => ("NinetyPlayers$Laying", "pedal", "I", false)
  | 2 => ("NinetyPlayers$Laying", "hands", "[I", true)
  | 3 => ("NinetyPlayers$Laying", "keys", "[I", true)
  | 4 => ("NinetyPlayers$Laying", "lengths", "[I", true)
  | _ => ("NinetyPlayers$Laying", "louds", "[I", true)
def cY5 : Nat → FieldType := fun k => match k with
  | 0 => .boolean
  | 1 => .int
  | 2 => .array .int
  | 3 => .array .int
  | 4 => .array .int
  | _ => .array .int
def cT6 : u_T := fun k => match k with
  | 0 => ("NinetyPlayers$Acts", "done", "I", false)
  | 1 => ("NinetyPlayers$Acts", "kept", "I", false)
  | 2 => ("NinetyPlayers$Acts", "kinds", "[I", true)
  | 3 => ("NinetyPlayers$Acts", "whichs", "[I", true)
  | 4 => ("NinetyPlayers$Acts", "befores", "[I", true)
  | _ => ("NinetyPlayers$Acts", "afters", "[I", true)
def cY6 : Nat → FieldType := fun k => match k with
  | 0 => .int
  | 1 => .int
  | 2 => .array .int
  | 3 => .array .int
  | 4 => .array .int
  | _ => .array .int
def cT7 : u_T := fun k => match k with
  | 0 => ("NinetyPlayers$Keyboard", "beats", "I", false)
  | 1 => ("NinetyPlayers$Keyboard", "notes", "I", false)
  | 2 => ("NinetyPlayers$Keyboard", "span", "I", false)
  | 3 => ("NinetyPlayers$Keyboard", "fingers", "I", false)
  | 4 => ("NinetyPlayers$Keyboard", "leap", "I", false)
  | 5 => ("NinetyPlayers$Keyboard", "left", "I", false)
  | 6 => ("NinetyPlayers$Keyboard", "right", "I", false)
  | 7 => ("NinetyPlayers$Keyboard", "pedal", "I", false)
  | 8 => ("NinetyPlayers$Keyboard", "keys", "[I", true)
  | 9 => ("NinetyPlayers$Keyboard", "begins", "[I", true)
  | 10 => ("NinetyPlayers$Keyboard", "lengths", "[I", true)
  | _ => ("NinetyPlayers$Keyboard", "timely", "[I", true)
def cY7 : Nat → FieldType := fun k => match k with
  | 0 => .int
  | 1 => .int
  | 2 => .int
  | 3 => .int
  | 4 => .int
  | 5 => .int
  | 6 => .int
  | 7 => .int
  | 8 => .array .int
  | 9 => .array .int
  | 10 => .array .int
  | _ => .array .int
def cT8 : u_T := fun k => match k with
  | 0 => ("NinetyPlayers$Arranger", "keyboard", "LNinetyPlayers$Keyboard;", true)
  | 1 => ("NinetyPlayers$Arranger", "missed", "[I", true)
  | 2 => ("NinetyPlayers$Arranger", "loss", "I", false)
  | 3 => ("NinetyPlayers$Arranger", "left", "I", false)
  | 4 => ("NinetyPlayers$Arranger", "right", "I", false)
  | 5 => ("NinetyPlayers$Arranger", "barsSame", "[I", true)
  | 6 => ("NinetyPlayers$Arranger", "barsRight", "[I", true)
  | 7 => ("NinetyPlayers$Arranger", "barsLeft", "[I", true)
  | _ => ("NinetyPlayers$Arranger", "settledLeaps", "[I", true)
def cY8 : Nat → FieldType := fun k => match k with
  | 0 => .object "NinetyPlayers$Keyboard"
  | 1 => .array .int
  | 2 => .int
  | 3 => .int
  | 4 => .int
  | 5 => .array .int
  | 6 => .array .int
  | 7 => .array .int
  | _ => .array .int
def cT9 : u_T := fun k => match k with
  | 0 => ("NinetyPlayers$Pedaller", "keyboard", "LNinetyPlayers$Keyboard;", true)
  | _ => ("NinetyPlayers$Pedaller", "bests", "[I", true)
def cY9 : Nat → FieldType := fun k => match k with
  | 0 => .object "NinetyPlayers$Keyboard"
  | _ => .array .int
def cT10 : u_T := fun k => match k with
  | 0 => ("NinetyPlayers$Witness", "size", "I", false)
  | 1 => ("NinetyPlayers$Witness", "time", "I", false)
  | 2 => ("NinetyPlayers$Witness", "all", "I", false)
  | 3 => ("NinetyPlayers$Witness", "with", "[I", true)
  | 4 => ("NinetyPlayers$Witness", "beats", "[I", true)
  | 5 => ("NinetyPlayers$Witness", "keys", "[I", true)
  | 6 => ("NinetyPlayers$Witness", "was", "[Z", true)
  | 7 => ("NinetyPlayers$Witness", "toldAt", "[I", true)
  | 8 => ("NinetyPlayers$Witness", "untoldAt", "[I", true)
  | 9 => ("NinetyPlayers$Witness", "someOf", "[I", true)
  | 10 => ("NinetyPlayers$Witness", "somes", "I", false)
  | _ => ("NinetyPlayers$Witness", "noneOf", "I", false)
def cY10 : Nat → FieldType := fun k => match k with
  | 0 => .int
  | 1 => .int
  | 2 => .int
  | 3 => .array .int
  | 4 => .array .int
  | 5 => .array .int
  | 6 => .array .boolean
  | 7 => .array .int
  | 8 => .array .int
  | 9 => .array .int
  | 10 => .int
  | _ => .int
def cT11 : u_T := fun k => match k with
  | 0 => ("NinetyPlayersModel", "tape", "[I", true)
  | 1 => ("NinetyPlayersModel", "taped", "I", false)
  | 2 => ("NinetyPlayersModel", "fault", "I", false)
  | 3 => ("NinetyPlayersModel", "faultPlace", "I", false)
  | 4 => ("NinetyPlayersModel", "at", "I", false)
  | 5 => ("NinetyPlayersModel", "size", "I", false)
  | 6 => ("NinetyPlayersModel", "sort", "I", false)
  | 7 => ("NinetyPlayersModel", "place", "I", false)
  | 8 => ("NinetyPlayersModel", "number", "I", false)
  | 9 => ("NinetyPlayersModel", "word", "J", false)
  | 10 => ("NinetyPlayersModel", "nName", "[J", true)
  | 11 => ("NinetyPlayersModel", "nStep", "[I", true)
  | 12 => ("NinetyPlayersModel", "nArg", "[I", true)
  | 13 => ("NinetyPlayersModel", "step", "[I", true)
  | 14 => ("NinetyPlayersModel", "arg", "[I", true)
  | 15 => ("NinetyPlayersModel", "wait", "[I", true)
  | 16 => ("NinetyPlayersModel", "values", "[I", true)
  | 17 => ("NinetyPlayersModel", "nMany", "I", false)
  | 18 => ("NinetyPlayersModel", "steps", "I", false)
  | 19 => ("NinetyPlayersModel", "opens", "I", false)
  | 20 => ("NinetyPlayersModel", "nUnits", "I", false)
  | 21 => ("NinetyPlayersModel", "units", "I", false)
  | 22 => ("NinetyPlayersModel", "ownUnits", "I", false)
  | 23 => ("NinetyPlayersModel", "deep", "I", false)
  | 24 => ("NinetyPlayersModel", "nHasForm", "Z", false)
  | 25 => ("NinetyPlayersModel", "hasForm", "Z", false)
  | 26 => ("NinetyPlayersModel", "asks", "[I", true)
  | 27 => ("NinetyPlayersModel", "nRole", "[I", true)
  | 28 => ("NinetyPlayersModel", "nPart", "[I", true)
  | 29 => ("NinetyPlayersModel", "nBegins", "[I", true)
  | 30 => ("NinetyPlayersModel", "nKey", "[I", true)
  | 31 => ("NinetyPlayersModel", "nLong", "[I", true)
  | 32 => ("NinetyPlayersModel", "nLoud", "[I", true)
  | 33 => ("NinetyPlayersModel", "roles", "[I", true)
  | 34 => ("NinetyPlayersModel", "partOf", "[I", true)
  | 35 => ("NinetyPlayersModel", "begins", "[I", true)
  | 36 => ("NinetyPlayersModel", "keys", "[I", true)
  | 37 => ("NinetyPlayersModel", "longs", "[I", true)
  | 38 => ("NinetyPlayersModel", "louds", "[I", true)
  | 39 => ("NinetyPlayersModel", "nBeats", "I", false)
  | 40 => ("NinetyPlayersModel", "nParts", "I", false)
  | 41 => ("NinetyPlayersModel", "nNotes", "I", false)
  | 42 => ("NinetyPlayersModel", "nSpan", "I", false)
  | 43 => ("NinetyPlayersModel", "nFingers", "I", false)
  | 44 => ("NinetyPlayersModel", "nLeap", "I", false)
  | 45 => ("NinetyPlayersModel", "nEar", "I", false)
  | 46 => ("NinetyPlayersModel", "beats", "I", false)
  | 47 => ("NinetyPlayersModel", "parts", "I", false)
  | 48 => ("NinetyPlayersModel", "notes", "I", false)
  | 49 => ("NinetyPlayersModel", "span", "I", false)
  | 50 => ("NinetyPlayersModel", "fingers", "I", false)
  | 51 => ("NinetyPlayersModel", "leap", "I", false)
  | 52 => ("NinetyPlayersModel", "ear", "I", false)
  | 53 => ("NinetyPlayersModel", "nHasLine", "Z", false)
  | 54 => ("NinetyPlayersModel", "nHasSpan", "Z", false)
  | 55 => ("NinetyPlayersModel", "nHasFingers", "Z", false)
  | 56 => ("NinetyPlayersModel", "nHasLeap", "Z", false)
  | 57 => ("NinetyPlayersModel", "nHasEar", "Z", false)
  | 58 => ("NinetyPlayersModel", "now", "[I", true)
  | 59 => ("NinetyPlayersModel", "air", "[I", true)
  | 60 => ("NinetyPlayersModel", "hold", "[I", true)
  | 61 => ("NinetyPlayersModel", "sound", "[I", true)
  | 62 => ("NinetyPlayersModel", "were", "[I", true)
  | 63 => ("NinetyPlayersModel", "acts", "I", false)
  | 64 => ("NinetyPlayersModel", "undone", "I", false)
  | 65 => ("NinetyPlayersModel", "lies", "[I", true)
  | 66 => ("NinetyPlayersModel", "row", "[I", true)
  | 67 => ("NinetyPlayersModel", "missed", "[I", true)
  | 68 => ("NinetyPlayersModel", "lain", "I", false)
  | 69 => ("NinetyPlayersModel", "noiseBeat", "[I", true)
  | 70 => ("NinetyPlayersModel", "noiseKey", "[I", true)
  | 71 => ("NinetyPlayersModel", "noiseTold", "[I", true)
  | 72 => ("NinetyPlayersModel", "noiseUntold", "[I", true)
  | 73 => ("NinetyPlayersModel", "noiseIs", "[Z", true)
  | 74 => ("NinetyPlayersModel", "noises", "I", false)
  | 75 => ("NinetyPlayersModel", "time", "I", false)
  | 76 => ("NinetyPlayersModel", "sayers", "[I", true)
  | 77 => ("NinetyPlayersModel", "tally", "[I", true)
  | 78 => ("NinetyPlayersModel", "hasBox", "[Z", true)
  | _ => ("NinetyPlayersModel", "boxes", "[I", true)
def cY11 : Nat → FieldType := fun k => match k with
  | 0 => .array .int
  | 1 => .int
  | 2 => .int
  | 3 => .int
  | 4 => .int
  | 5 => .int
  | 6 => .int
  | 7 => .int
  | 8 => .int
  | 9 => .long
  | 10 => .array .long
  | 11 => .array .int
  | 12 => .array .int
  | 13 => .array .int
  | 14 => .array .int
  | 15 => .array .int
  | 16 => .array .int
  | 17 => .int
  | 18 => .int
  | 19 => .int
  | 20 => .int
  | 21 => .int
  | 22 => .int
  | 23 => .int
  | 24 => .boolean
  | 25 => .boolean
  | 26 => .array .int
  | 27 => .array .int
  | 28 => .array .int
  | 29 => .array .int
  | 30 => .array .int
  | 31 => .array .int
  | 32 => .array .int
  | 33 => .array .int
  | 34 => .array .int
  | 35 => .array .int
  | 36 => .array .int
  | 37 => .array .int
  | 38 => .array .int
  | 39 => .int
  | 40 => .int
  | 41 => .int
  | 42 => .int
  | 43 => .int
  | 44 => .int
  | 45 => .int
  | 46 => .int
  | 47 => .int
  | 48 => .int
  | 49 => .int
  | 50 => .int
  | 51 => .int
  | 52 => .int
  | 53 => .boolean
  | 54 => .boolean
  | 55 => .boolean
  | 56 => .boolean
  | 57 => .boolean
  | 58 => .array .int
  | 59 => .array .int
  | 60 => .array .int
  | 61 => .array .int
  | 62 => .array .int
  | 63 => .int
  | 64 => .int
  | 65 => .array .int
  | 66 => .array .int
  | 67 => .array .int
  | 68 => .int
  | 69 => .array .int
  | 70 => .array .int
  | 71 => .array .int
  | 72 => .array .int
  | 73 => .array .boolean
  | 74 => .int
  | 75 => .int
  | 76 => .array .int
  | 77 => .array .int
  | 78 => .array .boolean
  | _ => .array .int
abbrev classes : List vw_C := [("NinetyPlayers", cT0, 14), ("NinetyPlayers$Reader", cT1, 5), ("NinetyPlayers$Score", cT2, 16), ("NinetyPlayers$Formula", cT3, 6), ("NinetyPlayers$Tokens", cT4, 7), ("NinetyPlayers$Laying", cT5, 6), ("NinetyPlayers$Acts", cT6, 6), ("NinetyPlayers$Keyboard", cT7, 12), ("NinetyPlayers$Arranger", cT8, 9), ("NinetyPlayers$Pedaller", cT9, 2), ("NinetyPlayers$Witness", cT10, 12), ("NinetyPlayersModel", cT11, 80)]
def nF : Nat → Nat := fun c => match c with
  | 0 => 14
  | 1 => 5
  | 2 => 16
  | 3 => 6
  | 4 => 7
  | 5 => 6
  | 6 => 6
  | 7 => 12
  | 8 => 9
  | 9 => 2
  | 10 => 12
  | _ => 80
def tyT : Nat → Nat → FieldType := fun c => match c with
  | 0 => cY0
  | 1 => cY1
  | 2 => cY2
  | 3 => cY3
  | 4 => cY4
  | 5 => cY5
  | 6 => cY6
  | 7 => cY7
  | 8 => cY8
  | 9 => cY9
  | 10 => cY10
  | _ => cY11
/-- the good words of the tables -/
def GW : List Cond := lw_tbl.filter goodWord
theorem gw_of {w : Cond} (h : w ∈ tables_1) (hg : goodWord w = true) : w ∈ GW := List.mem_filter.mpr ⟨List.mem_append_right _ h, hg⟩
theorem tb_1 {w : Cond} (h : w ∈ tables_1_1) : w ∈ tables_1 := List.mem_append_left _ h
theorem tb_2 {w : Cond} (h : w ∈ tables_1_2) : w ∈ tables_1 := List.mem_append_right _ (List.mem_append_left _ h)
theorem tb_3 {w : Cond} (h : w ∈ tables_1_3) : w ∈ tables_1 := List.mem_append_right _ (List.mem_append_right _ (List.mem_append_left _ h))
theorem tb_4 {w : Cond} (h : w ∈ tables_1_4) : w ∈ tables_1 := List.mem_append_right _ (List.mem_append_right _ (List.mem_append_right _ (List.mem_append_left _ h)))
theorem tb_5 {w : Cond} (h : w ∈ tables_1_5) : w ∈ tables_1 := List.mem_append_right _ (List.mem_append_right _ (List.mem_append_right _ (List.mem_append_right _ (List.mem_append_left _ h))))
theorem tb_6 {w : Cond} (h : w ∈ tables_1_6) : w ∈ tables_1 := List.mem_append_right _ (List.mem_append_right _ (List.mem_append_right _ (List.mem_append_right _ (List.mem_append_right _ (List.mem_append_left _ h)))))
theorem tb_7 {w : Cond} (h : w ∈ tables_1_7) : w ∈ tables_1 := List.mem_append_right _ (List.mem_append_right _ (List.mem_append_right _ (List.mem_append_right _ (List.mem_append_right _ (List.mem_append_right _ (List.mem_append_left _ h))))))
theorem tb_8 {w : Cond} (h : w ∈ tables_1_8) : w ∈ tables_1 := List.mem_append_right _ (List.mem_append_right _ (List.mem_append_right _ (List.mem_append_right _ (List.mem_append_right _ (List.mem_append_right _ (List.mem_append_right _ (List.mem_append_left _ h)))))))
theorem tb_9 {w : Cond} (h : w ∈ tables_1_9) : w ∈ tables_1 := List.mem_append_right _ (List.mem_append_right _ (List.mem_append_right _ (List.mem_append_right _ (List.mem_append_right _ (List.mem_append_right _ (List.mem_append_right _ (List.mem_append_right _ (h))))))))
theorem gw_sel {w : Cond} (h : w ∈ k2_sels lw_privs) (hg : goodWord w = true) : w ∈ GW := List.mem_filter.mpr ⟨List.mem_append_left _ h, hg⟩
end
section
/-! THE WORLD: handles (small numbers) for cells; a memory of ints, longs, references by handle and place; what an address is, σ says -/
abbrev Mem : Type := (Nat → Nat → Int32) × (Nat → Nat → Int64) × (Nat → Nat → Option Nat)
abbrev Sg : Type := (Nat → Nat) × Value
abbrev Kds : Type := List (Nat × Nat)
abbrev Mt : Type := MethodName × ByteArray × Nat × Option FieldType
def rv (σ : Sg) (v : Value) : Value := match v with
  | .ref h => .ref (σ.1 h)
  | .retAddr _ => σ.2
  | .int x => .int x
  | .long x => .long x
  | .float x => .float x
  | .double x => .double x
  | .null => .null
def fvT (t : FieldType) (σ : Sg) (M : Mem) (h k : Nat) : Value := match t with
  | .long => .long (M.2.1 h k)
  | .object _ => va_rf ((M.2.2 h k).map σ.1)
  | .array _ => va_rf ((M.2.2 h k).map σ.1)
  | _ => .int (M.1 h k)
def cE (dA : Nat → ClassId) (σ : Sg) (M : Mem) (h : Nat) (kd : Nat × Nat) : va_E :=
  if kd.1 = 0 then .inr (kd.2, (List.range (nF kd.2)).map fun k => fvT (tyT kd.2 k) σ M h k)
  else if kd.1 = 2 then .inl (dA 2, kd.2, .inr (.inl (M.2.1 h)))
  else if kd.1 = 5 then .inl (dA 5, kd.2, .inr (.inr (.inr (.inr fun j => (M.2.2 h j).map σ.1))))
  else .inl (dA kd.1, kd.2, .inl (M.1 h))
def wld (dA : Nat → ClassId) (σ : Sg) (ks : Kds) (M : Mem) : va_W := ks.mapIdx fun h kd => (σ.1 h, cE dA σ M h kd)
theorem wld_at {dA : Nat → ClassId} {σ : Sg} {ks : Kds} {M : Mem} {h : Nat} {kd : Nat × Nat} (hk : ks[h]? = some kd) : (wld dA σ ks M)[h]? = some (σ.1 h, cE dA σ M h kd) := by
  simp [wld, List.getElem?_mapIdx, hk]
theorem wld_len {dA : Nat → ClassId} {σ : Sg} {ks : Kds} {M : Mem} : (wld dA σ ks M).length = ks.length := by simp [wld]
theorem cE_agree {dA : Nat → ClassId} {σ : Sg} {M M' : Mem} {h : Nat} {kd : Nat × Nat} (h1 : M'.1 h = M.1 h) (h2 : M'.2.1 h = M.2.1 h) (h3 : M'.2.2 h = M.2.2 h) : cE dA σ M' h kd = cE dA σ M h kd := by
  simp only [cE, fvT, h1, h2, h3]
theorem wld_set {dA : Nat → ClassId} {σ : Sg} {ks : Kds} {M M' : Mem} {h : Nat} {kd : Nat × Nat} (hk : ks[h]? = some kd) (ha : ∀ j, j ≠ h → M'.1 j = M.1 j ∧ M'.2.1 j = M.2.1 j ∧ M'.2.2 j = M.2.2 j) : (wld dA σ ks M).set h (σ.1 h, cE dA σ M' h kd) = wld dA σ ks M' := by
  have hl : h < ks.length := (List.getElem?_eq_some_iff.mp hk).1
  apply List.ext_getElem?
  intro j
  by_cases hj : j = h
  · subst hj
    rw [List.getElem?_set_self (by rw [wld_len]; exact hl), wld_at hk]
  · rw [List.getElem?_set_ne (fun q => hj q.symm)]
    cases hkj : ks[j]? with
    | none => simp [wld, List.getElem?_mapIdx, hkj]
    | some kj =>
      obtain ⟨a1, a2, a3⟩ := ha j hj
      rw [wld_at hkj, wld_at hkj, cE_agree a1 a2 a3]
/-- writes -/
def setI (M : Mem) (h k : Nat) (x : Int32) : Mem := (fun j => if j = h then upd (M.1 h) k x else M.1 j, M.2)
def setL (M : Mem) (h k : Nat) (x : Int64) : Mem := (M.1, fun j => if j = h then vp_updL (M.2.1 h) k x else M.2.1 j, M.2.2)
def setR (M : Mem) (h k : Nat) (x : Option Nat) : Mem := (M.1, M.2.1, fun j => if j = h then va_up (M.2.2 h) k x else M.2.2 j)
def setA (M : Mem) (h : Nat) (f : Nat → Int32) : Mem := (fun j => if j = h then f else M.1 j, M.2)
def setRA (M : Mem) (h : Nat) (f : Nat → Option Nat) : Mem := (M.1, M.2.1, fun j => if j = h then f else M.2.2 j)
def clr (M : Mem) (h : Nat) : Mem := (fun j => if j = h then (fun _ => 0) else M.1 j, fun j => if j = h then (fun _ => 0) else M.2.1 j, fun j => if j = h then (fun _ => none) else M.2.2 j)
theorem fld_at {dA : Nat → ClassId} {σ : Sg} {M : Mem} {h ci : Nat} : cE dA σ M h (0, ci) = .inr (ci, (List.range (nF ci)).map fun k => fvT (tyT ci k) σ M h k) := rfl
theorem fld_get {σ : Sg} {M : Mem} {h ci k : Nat} (hk : k < nF ci) : ((List.range (nF ci)).map fun k => fvT (tyT ci k) σ M h k)[k]? = some (fvT (tyT ci k) σ M h k) := by
  simp [List.getElem?_range, hk]
theorem fld_set {σ : Sg} {M M' : Mem} {h ci k : Nat} {v : Value} (hk : k < nF ci) (hv : fvT (tyT ci k) σ M' h k = v) (ho : ∀ j, j ≠ k → fvT (tyT ci j) σ M' h j = fvT (tyT ci j) σ M h j) :
    ((List.range (nF ci)).map fun k => fvT (tyT ci k) σ M h k).set k v = (List.range (nF ci)).map fun k => fvT (tyT ci k) σ M' h k := by
  apply List.ext_getElem?
  intro j
  by_cases hj : j = k
  · subst hj
    rw [List.getElem?_set_self (by simpa using hk), fld_get hk, hv]
  · rw [List.getElem?_set_ne (fun q => hj q.symm)]
    by_cases hl : j < nF ci
    · rw [fld_get hl, fld_get hl, ho j hj]
    · rw [List.getElem?_eq_none (by simp; omega), List.getElem?_eq_none (by simp; omega)]
def tyL (dA : Nat → ClassId) : List (ClassId × FieldType) := [(dA 0, .int), (dA 1, .int), (dA 2, .long), (dA 3, .byte), (dA 4, .boolean), (dA 5, .object "NinetyPlayers$Laying")]
/-! THE OUTSIDE: two texts, a static or two, the script, links between nest mates -/
def txW : String := "beats   part    note    missed  span    fingers leap    ear     tune    bass    of      at      or      and     not     role    key     long    loud    doubled beat    "
def txT : String := ";()<>=+-*/%"
def bytS : List (List Int32) := [txW.toList.map (fun c => Int32.ofNat c.toNat), txT.toList.map (fun c => Int32.ofNat c.toNat)]
def lenS : List Nat := [168, 11]
def nestL : List Cond := [.methodLinkNest "NinetyPlayers$Score" 39 ⟨"NinetyPlayers$Formula", "<init>", "()V"⟩ "NinetyPlayers", .methodLinkNest "NinetyPlayers" 31 ⟨"NinetyPlayers$Laying", "<init>", "()V"⟩ "NinetyPlayers", .methodLinkNest "NinetyPlayers" 42 ⟨"NinetyPlayers$Acts", "<init>", "()V"⟩ "NinetyPlayers", .methodLinkNest "NinetyPlayers" 49 ⟨"NinetyPlayers$Keyboard", "<init>", "()V"⟩ "NinetyPlayers", .methodLinkNest "NinetyPlayers" 78 ⟨"NinetyPlayers$Witness", "<init>", "()V"⟩ "NinetyPlayers", .methodLinkNest "NinetyPlayers$Keyboard" 108 ⟨"NinetyPlayers", "isKey", "(I)Z"⟩ "NinetyPlayers"]
def isNest (w : Cond) : Prop := ∃ a i x h, w = .methodLinkNest a i x h
def Ext (X : Nat × (Nat → Int32)) (σ : Sg) (A : Nat → Prop) (s : State) : Prop :=
  vk_S 2 lenS bytS (fun i => σ.1 (1000 + 2 * i)) (fun i => σ.1 (1001 + 2 * i)) A s s.heap
  ∧ (vk_R "NinetyPlayers$Word" 15 txW (σ.1 1000) s ∧ vk_R "NinetyPlayers$Tokens" 60 txT (σ.1 1002) s)
  ∧ va_Z "java/lang/String" "COMPACT_STRINGS" "Z" (.int 1) A s s.heap
  ∧ (va_Z "jdk/internal/util/Preconditions" "SIOOBE_FORMATTER" "Ljava/util/function/BiFunction;" σ.2 A s s.heap ∧ (σ.2 = .null ∨ ∃ t, σ.2 = .ref t))
  ∧ (∀ w ∈ nestL, va_Nw w s)
  ∧ va_AO "NinetyPlayers$Laying" s
  ∧ (va_X (σ.1 1010) X.1 X.2 s s.heap ∧ σ.1 1010 < s.heap.size ∧ ¬ A (σ.1 1010))
theorem nest_all : ∀ w ∈ nestL, isNest w := by
  intro w hw
  simp only [nestL, List.mem_cons, List.not_mem_nil, or_false] at hw
  rcases hw with h | h | h | h | h | h <;> exact ⟨_, _, _, _, h⟩
theorem nest_warm {w : Cond} (h : isNest w) {s U : State} (hW : s.WarmedH U.vm) (hZ : va_Nw w s) : va_Nw w U := by
  obtain ⟨a, i, x, n, rfl⟩ := h
  exact va_Nw.warmM hW hZ
/-- what lies outside stays, for a callee too -/
theorem Ext.call {X : Nat × (Nat → Int32)} {σ : Sg} {A A1 : Nat → Prop} {s U : State} {H : Heap} {locs : List Loc} (h : Ext X σ A s) (hS : va_S A s.heap H locs) (hU : U.heap = H) (hW : s.WarmedH U.vm) (hA : ∀ q, A1 q → A q) : Ext X σ A1 U := by
  obtain ⟨h1, ⟨h2, h3⟩, h4, ⟨h5, h5'⟩, h6, h7, h8, h9, h10⟩ := h
  have hal := hW.alike
  refine ⟨?_, ⟨vk_R.warm hW h2, vk_R.warm hW h3⟩, ?_, ⟨?_, h5'⟩, fun w hw => nest_warm (nest_all w hw) hW (h6 w hw), h7.moved hal, ?_, ?_, fun q => h10 (hA _ q)⟩
  · rw [hU]; exact ((h1.moved hal).kept hS.2.1).narrow hA
  · rw [hU]; exact ((h4.moved hal).kept hS.2.1).narrow hA
  · rw [hU]; exact ((h5.moved hal).kept hS.2.1).narrow hA
  · rw [hU]; exact (h8.moved hal).kept (hS.2.1 _ h9 h10)
  · rw [hU]; exact Nat.lt_of_lt_of_le h9 hS.1
theorem Ext.sig {X : Nat × (Nat → Int32)} {σ σ' : Sg} {A : Nat → Prop} {s : State} (h : Ext X σ A s) (h1 : ∀ j, 1000 ≤ j → σ'.1 j = σ.1 j) (h2 : σ'.2 = σ.2) : Ext X σ' A s := by
  obtain ⟨a1, a2, a3, a4, a5, a6, a7⟩ := h
  refine ⟨?_, ?_, a3, by rw [h2]; exact a4, a5, a6, ?_⟩
  · have e1 : (fun i => σ'.1 (1000 + 2 * i)) = fun i => σ.1 (1000 + 2 * i) := funext fun i => h1 _ (by omega)
    have e2 : (fun i => σ'.1 (1001 + 2 * i)) = fun i => σ.1 (1001 + 2 * i) := funext fun i => h1 _ (by omega)
    rw [e1, e2]; exact a1
  · rw [h1 1000 (by omega), h1 1002 (by omega)]; exact a2
  · rw [h1 1010 (by omega)]; exact a7
/-! THE JUDGEMENT: the machine, in method μ at pc with these locals and this stack over this memory, comes to μ's return with r, the memory being M' -/
def Cx (X : Nat × (Nat → Int32)) (d : Nat) (μ : Mt) (p : Program) (R : Room) (s : State) (m : MethodId) (args : Array Value) (meth : Method) (c : Code) (D : va_G) (dA : Nat → ClassId) (σ : Sg) (A : Nat → Prop) : Prop :=
  p.tables.exec = Jvm.exec ∧ c.code = μ.2.1 ∧ c.maxLocals = μ.2.2.1 ∧ s.vm.findClass μ.1.cls = some m.cls ∧ (∀ w ∈ GW, w.before args s = true) ∧ meth.sig.returnType = μ.2.2.2 ∧ meth.locks = false ∧ meth.name = μ.1.name ∧ va_K D classes (tyL dA) s ∧ (∀ q, s.heap.size ≤ q → A q) ∧ Ext X σ A s ∧ d ≤ R.frames ∧ 64 * d ≤ R.locals
def rIns (t : Option FieldType) : Instr := match t with
  | none => .return_
  | some .long => .lreturn
  | some (.object _) => .areturn
  | some (.array _) => .areturn
  | _ => .ireturn
def rOK (t : Option FieldType) (r : Option Value) : Prop := match t with
  | none => r = none
  | some .long => ∃ v, r = some (.long v)
  | some (.object _) => ∃ a, r = some (.ref a)
  | some (.array _) => ∃ a, r = some (.ref a)
  | some .float => False
  | some .double => False
  | some ty => ∃ v, r = some (.int v) ∧ narrow ty (.int v) = .int v
def kz (ks : Kds) : Nat := (ks.map fun kd => if kd.1 = 0 then nF kd.2 else kd.2).sum
def lvr (σ : Sg) (L : List (Nat × Value)) : List (Nat × Value) := L.map fun q => (q.1, rv σ q.2)
def Same (σ σ' : Sg) (n n' : Nat) : Prop := (∀ j, j < n ∨ n' ≤ j → σ'.1 j = σ.1 j) ∧ σ'.2 = σ.2
theorem Same.rf {σ : Sg} {n n' : Nat} : Same σ σ n n' := ⟨fun _ _ => rfl, rfl⟩
theorem Same.eq {σ σ' : Sg} {n : Nat} (h : Same σ σ' n n) : σ' = σ := Prod.ext (funext fun j => h.1 j (Nat.lt_or_ge j n)) h.2
def Ev (X : Nat × (Nat → Int32)) (d : Nat) (μ : Mt) (pc : Nat) (L : List (Nat × Value)) (st : List Value) (ks : Kds) (M : Mem) (r : Option Value) (ks' : Kds) (M' : Mem) : Prop :=
  ∀ (l : Launch) (p : Program) (e : Env) (R : Room) (s : State) (m : MethodId) (args : Array Value) (below : List Frame) (meth : Method) (c : Code) (D : va_G) (dA : Nat → ClassId) (σ : Sg) (A : Nat → Prop) (H : Heap) (locs : List Loc) (cells slots mc ms : Nat) (ls : Array Slot) (Q : State → Prop),
    Cx X d μ p R s m args meth c D dA σ A → va_P D classes (wld dA σ ks M) H → va_D A (wld dA σ ks M) → va_S A s.heap H locs → lv_has ls μ.2.2.1 (lvr σ L) →
    cells + ks'.length = mc + ks.length → slots + kz ks' = ms + kz ks → mc ≤ R.cells → ms ≤ R.slots →
    (∀ (pc' : Nat) (ls' : Array Slot) (σ' : Sg) (H' : Heap) (locs' : List Loc), decode μ.2.1 pc' = .ok (rIns μ.2.2.2, 1) → rOK μ.2.2.2 r → Same σ σ' ks.length ks'.length → va_P D classes (wld dA σ' ks' M') H' → va_D A (wld dA σ' ks' M') → va_S A s.heap H' locs' →
      W p l e R s m args below meth c H' locs' mc ms Q (F0 m pc' ls' (r.toList.map (rv σ')))) →
    W p l e R s m args below meth c H locs cells slots Q (F0 m pc ls (st.map (rv σ)))
end
section
/-! ROWS: an instruction, a row, over the judgement -/
theorem rv_cat {σ : Sg} (h : σ.2 = .null ∨ ∃ t, σ.2 = .ref t) (v : Value) : (rv σ v).category = v.category := by
  cases v with
  | retAddr n => rcases h with h | ⟨t, h⟩ <;> simp [rv, h, Value.category]
  | _ => simp [rv, Value.category]
def ins1 (q : Nat × Value) : List (Nat × Value) → List (Nat × Value)
  | [] => [q]
  | a :: t => if q.1 < a.1 then q :: a :: t else a :: ins1 q t
theorem mem_ins1 {x q : Nat × Value} : ∀ {l : List (Nat × Value)}, x ∈ ins1 q l → x = q ∨ x ∈ l
  | [], h => by simpa [ins1] using h
  | a :: t, h => by
    unfold ins1 at h
    split at h
    · simpa using h
    · rcases List.mem_cons.mp h with h | h
      · exact Or.inr (by simp [h])
      · rcases mem_ins1 h with h | h
        · exact Or.inl h
        · exact Or.inr (List.mem_cons_of_mem _ h)
/-- the locals behind a store -/
def lput (i : Nat) (v : Value) (L : List (Nat × Value)) : List (Nat × Value) := ins1 (i, v) (L.filter fun q => !(q.1 == i))
def lok (i : Nat) (L : List (Nat × Value)) : Bool := L.all fun q => !(q.1 + 1 == i && q.2.category == 2)
theorem lput_has {σ : Sg} {ls : Array Slot} {n i : Nat} {v : Value} {L : List (Nat × Value)} (hc : σ.2 = .null ∨ ∃ t, σ.2 = .ref t) (hok : lok i L = true)
    (h : lv_has ls n ((i, rv σ v) :: (lvr σ L).filter (fun q => !(q.1 == i) && !(q.1 + 1 == i && q.2.category == 2)))) : lv_has ls n (lvr σ (lput i v L)) := by
  refine ⟨h.1, h.2.1, fun q hq => ?_⟩
  obtain ⟨q0, hq0, rfl⟩ := List.mem_map.mp hq
  rcases mem_ins1 hq0 with h0 | h0
  · subst h0
    exact h.2.2 _ List.mem_cons_self
  · obtain ⟨g1, g2⟩ := List.mem_filter.mp h0
    refine h.2.2 _ (List.mem_cons_of_mem _ (List.mem_filter.mpr ⟨List.mem_map.mpr ⟨q0, g1, rfl⟩, ?_⟩))
    have g3 := List.all_eq_true.mp hok q0 g1
    rw [rv_cat hc]
    rw [Bool.and_eq_true]
    exact ⟨g2, g3⟩
def lok2 (i : Nat) (L : List (Nat × Value)) : Bool := L.all fun q => !(q.1 == i + 1) && !(q.1 + 1 == i && q.2.category == 2)
theorem lput_has2 {σ : Sg} {ls : Array Slot} {n i : Nat} {v : Value} {L : List (Nat × Value)} (hc : σ.2 = .null ∨ ∃ t, σ.2 = .ref t) (hok : lok2 i L = true)
    (h : lv_has ls n ((i, rv σ v) :: (lvr σ L).filter (fun q => !(q.1 == i) && (!(q.1 == i + 1) && !(q.1 + 1 == i && q.2.category == 2))))) : lv_has ls n (lvr σ (lput i v L)) := by
  refine ⟨h.1, h.2.1, fun q hq => ?_⟩
  obtain ⟨q0, hq0, rfl⟩ := List.mem_map.mp hq
  rcases mem_ins1 hq0 with h0 | h0
  · subst h0
    exact h.2.2 _ List.mem_cons_self
  · obtain ⟨g1, g2⟩ := List.mem_filter.mp h0
    refine h.2.2 _ (List.mem_cons_of_mem _ (List.mem_filter.mpr ⟨List.mem_map.mpr ⟨q0, g1, rfl⟩, ?_⟩))
    have g3 := List.all_eq_true.mp hok q0 g1
    rw [rv_cat hc]
    rw [Bool.and_eq_true]
    exact ⟨g2, g3⟩
theorem lvr_at {σ : Sg} {L : List (Nat × Value)} {j i : Nat} {v : Value} (h : L[j]? = some (i, v)) : (lvr σ L)[j]? = some (i, rv σ v) := by
  simp [lvr, h]
section XR
variable {X : Nat × (Nat → Int32)} {d : Nat} {μ : Mt} {pc : Nat} {L : List (Nat × Value)} {st : List Value} {ks : Kds} {M : Mem} {r : Option Value} {ks' : Kds} {M' : Mem}
theorem x_iconst {n : Int} {v : Int32} (hd : decode μ.2.1 pc = .ok (.iconst n, 1)) (hv : Int32.ofInt n = v) (k : Ev X d μ (pc + 1) L (.int v :: st) ks M r ks' M') : Ev X d μ pc L st ks M r ks' M' := by
  intro l p e R s m args below meth c D dA σ A H locs cells slots mc ms ls Q C hP hD hS hl h1 h2 h3 h4 hret
  obtain ⟨hx, hb, hml, hown, hts, hr, hlk, hnm, hK, hA, hX, hfr, hlo⟩ := id C
  exact lv_iconst hx hb hd hv (k l p e R s m args below meth c D dA σ A H locs cells slots mc ms ls Q C hP hD hS hl h1 h2 h3 h4 hret)
theorem x_bipush {n : Int} {v : Int32} (hd : decode μ.2.1 pc = .ok (.bipush n, 2)) (hv : (Int8.ofInt n).toInt32 = v) (k : Ev X d μ (pc + 2) L (.int v :: st) ks M r ks' M') : Ev X d μ pc L st ks M r ks' M' := by
  intro l p e R s m args below meth c D dA σ A H locs cells slots mc ms ls Q C hP hD hS hl h1 h2 h3 h4 hret
  obtain ⟨hx, hb, hml, hown, hts, hr, hlk, hnm, hK, hA, hX, hfr, hlo⟩ := id C
  exact lv_bipush hx hb hd hv (k l p e R s m args below meth c D dA σ A H locs cells slots mc ms ls Q C hP hD hS hl h1 h2 h3 h4 hret)
theorem x_sipush {n : Int} {v : Int32} (hd : decode μ.2.1 pc = .ok (.sipush n, 3)) (hv : (Int16.ofInt n).toInt32 = v) (k : Ev X d μ (pc + 3) L (.int v :: st) ks M r ks' M') : Ev X d μ pc L st ks M r ks' M' := by
  intro l p e R s m args below meth c D dA σ A H locs cells slots mc ms ls Q C hP hD hS hl h1 h2 h3 h4 hret
  obtain ⟨hx, hb, hml, hown, hts, hr, hlk, hnm, hK, hA, hX, hfr, hlo⟩ := id C
  exact lv_sipush hx hb hd hv (k l p e R s m args below meth c D dA σ A H locs cells slots mc ms ls Q C hP hD hS hl h1 h2 h3 h4 hret)
theorem x_lconst {n : Fin 2} {v : Int64} (hd : decode μ.2.1 pc = .ok (.lconst n, 1)) (hv : Int64.ofNat (n : Nat) = v) (k : Ev X d μ (pc + 1) L (.long v :: st) ks M r ks' M') : Ev X d μ pc L st ks M r ks' M' := by
  intro l p e R s m args below meth c D dA σ A H locs cells slots mc ms ls Q C hP hD hS hl h1 h2 h3 h4 hret
  obtain ⟨hx, hb, hml, hown, hts, hr, hlk, hnm, hK, hA, hX, hfr, hlo⟩ := id C
  exact lv_lconst hx hb hd hv (k l p e R s m args below meth c D dA σ A H locs cells slots mc ms ls Q C hP hD hS hl h1 h2 h3 h4 hret)
theorem x_ldc {i : Nat} {v : Int32} (hd : decode μ.2.1 pc = .ok (.ldc i, 2)) (hw : Cond.constant μ.1.cls i v ∈ GW) (k : Ev X d μ (pc + 2) L (.int v :: st) ks M r ks' M') : Ev X d μ pc L st ks M r ks' M' := by
  intro l p e R s m args below meth c D dA σ A H locs cells slots mc ms ls Q C hP hD hS hl h1 h2 h3 h4 hret
  obtain ⟨hx, hb, hml, hown, hts, hr, hlk, hnm, hK, hA, hX, hfr, hlo⟩ := id C
  exact lv_ldc hx hb hown (hts _ hw) hd (k l p e R s m args below meth c D dA σ A H locs cells slots mc ms ls Q C hP hD hS hl h1 h2 h3 h4 hret)
theorem x_ldcw {i : Nat} {v : Int32} (hd : decode μ.2.1 pc = .ok (.ldc_w i, 3)) (hw : Cond.constant μ.1.cls i v ∈ GW) (k : Ev X d μ (pc + 3) L (.int v :: st) ks M r ks' M') : Ev X d μ pc L st ks M r ks' M' := by
  intro l p e R s m args below meth c D dA σ A H locs cells slots mc ms ls Q C hP hD hS hl h1 h2 h3 h4 hret
  obtain ⟨hx, hb, hml, hown, hts, hr, hlk, hnm, hK, hA, hX, hfr, hlo⟩ := id C
  exact lv_ldcw hx hb hown (hts _ hw) hd (k l p e R s m args below meth c D dA σ A H locs cells slots mc ms ls Q C hP hD hS hl h1 h2 h3 h4 hret)
theorem x_ldc2 {i : Nat} {v : Int64} (hd : decode μ.2.1 pc = .ok (.ldc2_w i, 3)) (hw : Cond.constantLong μ.1.cls i v ∈ GW) (k : Ev X d μ (pc + 3) L (.long v :: st) ks M r ks' M') : Ev X d μ pc L st ks M r ks' M' := by
  intro l p e R s m args below meth c D dA σ A H locs cells slots mc ms ls Q C hP hD hS hl h1 h2 h3 h4 hret
  obtain ⟨hx, hb, hml, hown, hts, hr, hlk, hnm, hK, hA, hX, hfr, hlo⟩ := id C
  exact lv_ldc2 hx hb hown (hts _ hw) hd (k l p e R s m args below meth c D dA σ A H locs cells slots mc ms ls Q C hP hD hS hl h1 h2 h3 h4 hret)
theorem x_iload_n {k4 : Fin 4} {i : Nat} {x : Int32} (hd : decode μ.2.1 pc = .ok (.iload_n k4, 1)) (hi : (k4 : Nat) = i) (j : Nat) (hj : L[j]? = some (i, .int x)) (k : Ev X d μ (pc + 1) L (.int x :: st) ks M r ks' M') : Ev X d μ pc L st ks M r ks' M' := by
  intro l p e R s m args below meth c D dA σ A H locs cells slots mc ms ls Q C hP hD hS hl h1 h2 h3 h4 hret
  obtain ⟨hx, hb, hml, hown, hts, hr, hlk, hnm, hK, hA, hX, hfr, hlo⟩ := id C
  exact lv_iload_n hx hb hd hi (lv_at hl j (lvr_at hj)) (k l p e R s m args below meth c D dA σ A H locs cells slots mc ms ls Q C hP hD hS hl h1 h2 h3 h4 hret)
theorem x_iload {i : Nat} {x : Int32} (hd : decode μ.2.1 pc = .ok (.iload i, 2)) (j : Nat) (hj : L[j]? = some (i, .int x)) (k : Ev X d μ (pc + 2) L (.int x :: st) ks M r ks' M') : Ev X d μ pc L st ks M r ks' M' := by
  intro l p e R s m args below meth c D dA σ A H locs cells slots mc ms ls Q C hP hD hS hl h1 h2 h3 h4 hret
  obtain ⟨hx, hb, hml, hown, hts, hr, hlk, hnm, hK, hA, hX, hfr, hlo⟩ := id C
  exact lv_iload hx hb hd (lv_at hl j (lvr_at hj)) (k l p e R s m args below meth c D dA σ A H locs cells slots mc ms ls Q C hP hD hS hl h1 h2 h3 h4 hret)
theorem x_lload_n {k4 : Fin 4} {i : Nat} {x : Int64} (hd : decode μ.2.1 pc = .ok (.lload_n k4, 1)) (hi : (k4 : Nat) = i) (j : Nat) (hj : L[j]? = some (i, .long x)) (k : Ev X d μ (pc + 1) L (.long x :: st) ks M r ks' M') : Ev X d μ pc L st ks M r ks' M' := by
  intro l p e R s m args below meth c D dA σ A H locs cells slots mc ms ls Q C hP hD hS hl h1 h2 h3 h4 hret
  obtain ⟨hx, hb, hml, hown, hts, hr, hlk, hnm, hK, hA, hX, hfr, hlo⟩ := id C
  exact lv_lload_n hx hb hd hi (lv_at hl j (lvr_at hj)) (k l p e R s m args below meth c D dA σ A H locs cells slots mc ms ls Q C hP hD hS hl h1 h2 h3 h4 hret)
theorem x_lload {i : Nat} {x : Int64} (hd : decode μ.2.1 pc = .ok (.lload i, 2)) (j : Nat) (hj : L[j]? = some (i, .long x)) (k : Ev X d μ (pc + 2) L (.long x :: st) ks M r ks' M') : Ev X d μ pc L st ks M r ks' M' := by
  intro l p e R s m args below meth c D dA σ A H locs cells slots mc ms ls Q C hP hD hS hl h1 h2 h3 h4 hret
  obtain ⟨hx, hb, hml, hown, hts, hr, hlk, hnm, hK, hA, hX, hfr, hlo⟩ := id C
  exact lv_lload hx hb hd (lv_at hl j (lvr_at hj)) (k l p e R s m args below meth c D dA σ A H locs cells slots mc ms ls Q C hP hD hS hl h1 h2 h3 h4 hret)
theorem x_aload_n {k4 : Fin 4} {i : Nat} {x : Nat} (hd : decode μ.2.1 pc = .ok (.aload_n k4, 1)) (hi : (k4 : Nat) = i) (j : Nat) (hj : L[j]? = some (i, .ref x)) (k : Ev X d μ (pc + 1) L (.ref x :: st) ks M r ks' M') : Ev X d μ pc L st ks M r ks' M' := by
  intro l p e R s m args below meth c D dA σ A H locs cells slots mc ms ls Q C hP hD hS hl h1 h2 h3 h4 hret
  obtain ⟨hx, hb, hml, hown, hts, hr, hlk, hnm, hK, hA, hX, hfr, hlo⟩ := id C
  exact lv_aload_n hx hb hd hi (lv_at hl j (lvr_at hj)) (k l p e R s m args below meth c D dA σ A H locs cells slots mc ms ls Q C hP hD hS hl h1 h2 h3 h4 hret)
theorem x_aload {i : Nat} {x : Nat} (hd : decode μ.2.1 pc = .ok (.aload i, 2)) (j : Nat) (hj : L[j]? = some (i, .ref x)) (k : Ev X d μ (pc + 2) L (.ref x :: st) ks M r ks' M') : Ev X d μ pc L st ks M r ks' M' := by
  intro l p e R s m args below meth c D dA σ A H locs cells slots mc ms ls Q C hP hD hS hl h1 h2 h3 h4 hret
  obtain ⟨hx, hb, hml, hown, hts, hr, hlk, hnm, hK, hA, hX, hfr, hlo⟩ := id C
  exact lv_aload hx hb hd (lv_at hl j (lvr_at hj)) (k l p e R s m args below meth c D dA σ A H locs cells slots mc ms ls Q C hP hD hS hl h1 h2 h3 h4 hret)
theorem x_istore_n {k4 : Fin 4} {i : Nat} {x : Int32} {L1 : List (Nat × Value)} (hd : decode μ.2.1 pc = .ok (.istore_n k4, 1)) (hi : (k4 : Nat) = i) (hn : i < μ.2.2.1) (hok : lok i L = true) (hL : lput i (.int x) L = L1) (k : Ev X d μ (pc + 1) L1 st ks M r ks' M') : Ev X d μ pc L (.int x :: st) ks M r ks' M' := by
  intro l p e R s m args below meth c D dA σ A H locs cells slots mc ms ls Q C hP hD hS hl h1 h2 h3 h4 hret
  obtain ⟨hx, hb, hml, hown, hts, hr, hlk, hnm, hK, hA, hX, hfr, hlo⟩ := id C
  subst hL
  exact lv_istore_n hx hb hd hi hl hn rfl (fun ls1 hl1 => (k l p e R s m args below meth c D dA σ A H locs cells slots mc ms ls1 Q C hP hD hS (lput_has (v := .int x) hX.2.2.2.1.2 hok hl1) h1 h2 h3 h4 hret))
theorem x_istore {i : Nat} {x : Int32} {L1 : List (Nat × Value)} (hd : decode μ.2.1 pc = .ok (.istore i, 2)) (hn : i < μ.2.2.1) (hok : lok i L = true) (hL : lput i (.int x) L = L1) (k : Ev X d μ (pc + 2) L1 st ks M r ks' M') : Ev X d μ pc L (.int x :: st) ks M r ks' M' := by
  intro l p e R s m args below meth c D dA σ A H locs cells slots mc ms ls Q C hP hD hS hl h1 h2 h3 h4 hret
  obtain ⟨hx, hb, hml, hown, hts, hr, hlk, hnm, hK, hA, hX, hfr, hlo⟩ := id C
  subst hL
  exact lv_istore hx hb hd hl hn rfl (fun ls1 hl1 => (k l p e R s m args below meth c D dA σ A H locs cells slots mc ms ls1 Q C hP hD hS (lput_has (v := .int x) hX.2.2.2.1.2 hok hl1) h1 h2 h3 h4 hret))
theorem x_astore_n {k4 : Fin 4} {i : Nat} {x : Nat} {L1 : List (Nat × Value)} (hd : decode μ.2.1 pc = .ok (.astore_n k4, 1)) (hi : (k4 : Nat) = i) (hn : i < μ.2.2.1) (hok : lok i L = true) (hL : lput i (.ref x) L = L1) (k : Ev X d μ (pc + 1) L1 st ks M r ks' M') : Ev X d μ pc L (.ref x :: st) ks M r ks' M' := by
  intro l p e R s m args below meth c D dA σ A H locs cells slots mc ms ls Q C hP hD hS hl h1 h2 h3 h4 hret
  obtain ⟨hx, hb, hml, hown, hts, hr, hlk, hnm, hK, hA, hX, hfr, hlo⟩ := id C
  subst hL
  exact lv_astore_n hx hb hd hi hl hn rfl (fun ls1 hl1 => (k l p e R s m args below meth c D dA σ A H locs cells slots mc ms ls1 Q C hP hD hS (lput_has (v := .ref x) hX.2.2.2.1.2 hok hl1) h1 h2 h3 h4 hret))
theorem x_astore {i : Nat} {x : Nat} {L1 : List (Nat × Value)} (hd : decode μ.2.1 pc = .ok (.astore i, 2)) (hn : i < μ.2.2.1) (hok : lok i L = true) (hL : lput i (.ref x) L = L1) (k : Ev X d μ (pc + 2) L1 st ks M r ks' M') : Ev X d μ pc L (.ref x :: st) ks M r ks' M' := by
  intro l p e R s m args below meth c D dA σ A H locs cells slots mc ms ls Q C hP hD hS hl h1 h2 h3 h4 hret
  obtain ⟨hx, hb, hml, hown, hts, hr, hlk, hnm, hK, hA, hX, hfr, hlo⟩ := id C
  subst hL
  exact lv_astore hx hb hd hl hn rfl (fun ls1 hl1 => (k l p e R s m args below meth c D dA σ A H locs cells slots mc ms ls1 Q C hP hD hS (lput_has (v := .ref x) hX.2.2.2.1.2 hok hl1) h1 h2 h3 h4 hret))
theorem x_lstore_n {k4 : Fin 4} {i : Nat} {x : Int64} {L1 : List (Nat × Value)} (hd : decode μ.2.1 pc = .ok (.lstore_n k4, 1)) (hi : (k4 : Nat) = i) (hn : i + 1 < μ.2.2.1) (hok : lok2 i L = true) (hL : lput i (.long x) L = L1) (k : Ev X d μ (pc + 1) L1 st ks M r ks' M') : Ev X d μ pc L (.long x :: st) ks M r ks' M' := by
  intro l p e R s m args below meth c D dA σ A H locs cells slots mc ms ls Q C hP hD hS hl h1 h2 h3 h4 hret
  obtain ⟨hx, hb, hml, hown, hts, hr, hlk, hnm, hK, hA, hX, hfr, hlo⟩ := id C
  subst hL
  exact lv_lstore_n hx hb hd hi hl hn rfl (fun ls1 hl1 => (k l p e R s m args below meth c D dA σ A H locs cells slots mc ms ls1 Q C hP hD hS (lput_has2 (v := .long x) hX.2.2.2.1.2 hok hl1) h1 h2 h3 h4 hret))
theorem x_iinc {i : Nat} {n : Int} {x v : Int32} {L1 : List (Nat × Value)} (hd : decode μ.2.1 pc = .ok (.iinc i n, 3)) (j : Nat) (hj : L[j]? = some (i, .int x)) (hv : x + Int32.ofInt n = v) (hn : i < μ.2.2.1) (hok : lok i L = true) (hL : lput i (.int v) L = L1) (k : Ev X d μ (pc + 3) L1 st ks M r ks' M') : Ev X d μ pc L st ks M r ks' M' := by
  intro l p e R s m args below meth c D dA σ A H locs cells slots mc ms ls Q C hP hD hS hl h1 h2 h3 h4 hret
  obtain ⟨hx, hb, hml, hown, hts, hr, hlk, hnm, hK, hA, hX, hfr, hlo⟩ := id C
  subst hL
  exact lv_iinc hx hb hd hl (lvr_at hj) hv hn rfl (fun ls1 hl1 => (k l p e R s m args below meth c D dA σ A H locs cells slots mc ms ls1 Q C hP hD hS (lput_has (v := .int v) hX.2.2.2.1.2 hok hl1) h1 h2 h3 h4 hret))
theorem x_iadd {x y : Int32} (hd : decode μ.2.1 pc = .ok (.iadd, 1)) (k : Ev X d μ (pc + 1) L (.int (x + y) :: st) ks M r ks' M') : Ev X d μ pc L (.int y :: .int x :: st) ks M r ks' M' := by
  intro l p e R s m args below meth c D dA σ A H locs cells slots mc ms ls Q C hP hD hS hl h1 h2 h3 h4 hret
  obtain ⟨hx, hb, hml, hown, hts, hr, hlk, hnm, hK, hA, hX, hfr, hlo⟩ := id C
  exact lv_iadd hx hb hd (k l p e R s m args below meth c D dA σ A H locs cells slots mc ms ls Q C hP hD hS hl h1 h2 h3 h4 hret)
theorem x_isub {x y : Int32} (hd : decode μ.2.1 pc = .ok (.isub, 1)) (k : Ev X d μ (pc + 1) L (.int (x - y) :: st) ks M r ks' M') : Ev X d μ pc L (.int y :: .int x :: st) ks M r ks' M' := by
  intro l p e R s m args below meth c D dA σ A H locs cells slots mc ms ls Q C hP hD hS hl h1 h2 h3 h4 hret
  obtain ⟨hx, hb, hml, hown, hts, hr, hlk, hnm, hK, hA, hX, hfr, hlo⟩ := id C
  exact lv_isub hx hb hd (k l p e R s m args below meth c D dA σ A H locs cells slots mc ms ls Q C hP hD hS hl h1 h2 h3 h4 hret)
theorem x_imul {x y : Int32} (hd : decode μ.2.1 pc = .ok (.imul, 1)) (k : Ev X d μ (pc + 1) L (.int (x * y) :: st) ks M r ks' M') : Ev X d μ pc L (.int y :: .int x :: st) ks M r ks' M' := by
  intro l p e R s m args below meth c D dA σ A H locs cells slots mc ms ls Q C hP hD hS hl h1 h2 h3 h4 hret
  obtain ⟨hx, hb, hml, hown, hts, hr, hlk, hnm, hK, hA, hX, hfr, hlo⟩ := id C
  exact lv_imul hx hb hd (k l p e R s m args below meth c D dA σ A H locs cells slots mc ms ls Q C hP hD hS hl h1 h2 h3 h4 hret)
theorem x_iand {x y : Int32} (hd : decode μ.2.1 pc = .ok (.iand, 1)) (k : Ev X d μ (pc + 1) L (.int (x &&& y) :: st) ks M r ks' M') : Ev X d μ pc L (.int y :: .int x :: st) ks M r ks' M' := by
  intro l p e R s m args below meth c D dA σ A H locs cells slots mc ms ls Q C hP hD hS hl h1 h2 h3 h4 hret
  obtain ⟨hx, hb, hml, hown, hts, hr, hlk, hnm, hK, hA, hX, hfr, hlo⟩ := id C
  exact lv_iand hx hb hd (k l p e R s m args below meth c D dA σ A H locs cells slots mc ms ls Q C hP hD hS hl h1 h2 h3 h4 hret)
theorem x_ior {x y : Int32} (hd : decode μ.2.1 pc = .ok (.ior, 1)) (k : Ev X d μ (pc + 1) L (.int (x ||| y) :: st) ks M r ks' M') : Ev X d μ pc L (.int y :: .int x :: st) ks M r ks' M' := by
  intro l p e R s m args below meth c D dA σ A H locs cells slots mc ms ls Q C hP hD hS hl h1 h2 h3 h4 hret
  obtain ⟨hx, hb, hml, hown, hts, hr, hlk, hnm, hK, hA, hX, hfr, hlo⟩ := id C
  exact lv_ior hx hb hd (k l p e R s m args below meth c D dA σ A H locs cells slots mc ms ls Q C hP hD hS hl h1 h2 h3 h4 hret)
theorem x_ixor {x y : Int32} (hd : decode μ.2.1 pc = .ok (.ixor, 1)) (k : Ev X d μ (pc + 1) L (.int (x ^^^ y) :: st) ks M r ks' M') : Ev X d μ pc L (.int y :: .int x :: st) ks M r ks' M' := by
  intro l p e R s m args below meth c D dA σ A H locs cells slots mc ms ls Q C hP hD hS hl h1 h2 h3 h4 hret
  obtain ⟨hx, hb, hml, hown, hts, hr, hlk, hnm, hK, hA, hX, hfr, hlo⟩ := id C
  exact lv_ixor hx hb hd (k l p e R s m args below meth c D dA σ A H locs cells slots mc ms ls Q C hP hD hS hl h1 h2 h3 h4 hret)
theorem x_ishl {x y : Int32} (hd : decode μ.2.1 pc = .ok (.ishl, 1)) (k : Ev X d μ (pc + 1) L (.int (x <<< (y &&& 31)) :: st) ks M r ks' M') : Ev X d μ pc L (.int y :: .int x :: st) ks M r ks' M' := by
  intro l p e R s m args below meth c D dA σ A H locs cells slots mc ms ls Q C hP hD hS hl h1 h2 h3 h4 hret
  obtain ⟨hx, hb, hml, hown, hts, hr, hlk, hnm, hK, hA, hX, hfr, hlo⟩ := id C
  exact lv_ishl hx hb hd (k l p e R s m args below meth c D dA σ A H locs cells slots mc ms ls Q C hP hD hS hl h1 h2 h3 h4 hret)
theorem x_ishr {x y : Int32} (hd : decode μ.2.1 pc = .ok (.ishr, 1)) (k : Ev X d μ (pc + 1) L (.int (x >>> (y &&& 31)) :: st) ks M r ks' M') : Ev X d μ pc L (.int y :: .int x :: st) ks M r ks' M' := by
  intro l p e R s m args below meth c D dA σ A H locs cells slots mc ms ls Q C hP hD hS hl h1 h2 h3 h4 hret
  obtain ⟨hx, hb, hml, hown, hts, hr, hlk, hnm, hK, hA, hX, hfr, hlo⟩ := id C
  exact lv_ishr hx hb hd (k l p e R s m args below meth c D dA σ A H locs cells slots mc ms ls Q C hP hD hS hl h1 h2 h3 h4 hret)
theorem x_idiv {x y : Int32} (hd : decode μ.2.1 pc = .ok (.idiv, 1)) (hne : ¬ y = 0) (k : Ev X d μ (pc + 1) L (.int (x / y) :: st) ks M r ks' M') : Ev X d μ pc L (.int y :: .int x :: st) ks M r ks' M' := by
  intro l p e R s m args below meth c D dA σ A H locs cells slots mc ms ls Q C hP hD hS hl h1 h2 h3 h4 hret
  obtain ⟨hx, hb, hml, hown, hts, hr, hlk, hnm, hK, hA, hX, hfr, hlo⟩ := id C
  exact lv_idiv hx hb hd hne (k l p e R s m args below meth c D dA σ A H locs cells slots mc ms ls Q C hP hD hS hl h1 h2 h3 h4 hret)
theorem x_irem {x y : Int32} (hd : decode μ.2.1 pc = .ok (.irem, 1)) (hne : ¬ y = 0) (k : Ev X d μ (pc + 1) L (.int (x - x / y * y) :: st) ks M r ks' M') : Ev X d μ pc L (.int y :: .int x :: st) ks M r ks' M' := by
  intro l p e R s m args below meth c D dA σ A H locs cells slots mc ms ls Q C hP hD hS hl h1 h2 h3 h4 hret
  obtain ⟨hx, hb, hml, hown, hts, hr, hlk, hnm, hK, hA, hX, hfr, hlo⟩ := id C
  exact lv_irem hx hb hd hne (k l p e R s m args below meth c D dA σ A H locs cells slots mc ms ls Q C hP hD hS hl h1 h2 h3 h4 hret)
theorem x_iushr {x y : Int32} (hd : decode μ.2.1 pc = .ok (.iushr, 1)) (k : Ev X d μ (pc + 1) L (.int (x.toUInt32 >>> (y.toUInt32 &&& Int32.toUInt32 31)).toInt32 :: st) ks M r ks' M') : Ev X d μ pc L (.int y :: .int x :: st) ks M r ks' M' := by
  intro l p e R s m args below meth c D dA σ A H locs cells slots mc ms ls Q C hP hD hS hl h1 h2 h3 h4 hret
  obtain ⟨hx, hb, hml, hown, hts, hr, hlk, hnm, hK, hA, hX, hfr, hlo⟩ := id C
  exact lv_iushr hx hb hd rfl (k l p e R s m args below meth c D dA σ A H locs cells slots mc ms ls Q C hP hD hS hl h1 h2 h3 h4 hret)
theorem x_ineg {x : Int32} (hd : decode μ.2.1 pc = .ok (.ineg, 1)) (k : Ev X d μ (pc + 1) L (.int (-x) :: st) ks M r ks' M') : Ev X d μ pc L (.int x :: st) ks M r ks' M' := by
  intro l p e R s m args below meth c D dA σ A H locs cells slots mc ms ls Q C hP hD hS hl h1 h2 h3 h4 hret
  obtain ⟨hx, hb, hml, hown, hts, hr, hlk, hnm, hK, hA, hX, hfr, hlo⟩ := id C
  exact lv_ineg hx hb hd (k l p e R s m args below meth c D dA σ A H locs cells slots mc ms ls Q C hP hD hS hl h1 h2 h3 h4 hret)
theorem x_i2l {x : Int32} (hd : decode μ.2.1 pc = .ok (.i2l, 1)) (k : Ev X d μ (pc + 1) L (.long x.toInt64 :: st) ks M r ks' M') : Ev X d μ pc L (.int x :: st) ks M r ks' M' := by
  intro l p e R s m args below meth c D dA σ A H locs cells slots mc ms ls Q C hP hD hS hl h1 h2 h3 h4 hret
  obtain ⟨hx, hb, hml, hown, hts, hr, hlk, hnm, hK, hA, hX, hfr, hlo⟩ := id C
  exact lv_i2l hx hb hd rfl (k l p e R s m args below meth c D dA σ A H locs cells slots mc ms ls Q C hP hD hS hl h1 h2 h3 h4 hret)
theorem x_i2b {x : Int32} (hd : decode μ.2.1 pc = .ok (.i2b, 1)) (k : Ev X d μ (pc + 1) L (.int x.toInt8.toInt32 :: st) ks M r ks' M') : Ev X d μ pc L (.int x :: st) ks M r ks' M' := by
  intro l p e R s m args below meth c D dA σ A H locs cells slots mc ms ls Q C hP hD hS hl h1 h2 h3 h4 hret
  obtain ⟨hx, hb, hml, hown, hts, hr, hlk, hnm, hK, hA, hX, hfr, hlo⟩ := id C
  exact lv_i2b hx hb hd rfl (k l p e R s m args below meth c D dA σ A H locs cells slots mc ms ls Q C hP hD hS hl h1 h2 h3 h4 hret)
theorem x_i2c {x : Int32} (hd : decode μ.2.1 pc = .ok (.i2c, 1)) (k : Ev X d μ (pc + 1) L (.int (x.toUInt32 % 65536).toInt32 :: st) ks M r ks' M') : Ev X d μ pc L (.int x :: st) ks M r ks' M' := by
  intro l p e R s m args below meth c D dA σ A H locs cells slots mc ms ls Q C hP hD hS hl h1 h2 h3 h4 hret
  obtain ⟨hx, hb, hml, hown, hts, hr, hlk, hnm, hK, hA, hX, hfr, hlo⟩ := id C
  exact lv_i2c hx hb hd rfl (k l p e R s m args below meth c D dA σ A H locs cells slots mc ms ls Q C hP hD hS hl h1 h2 h3 h4 hret)
theorem x_lor {x y : Int64} (hd : decode μ.2.1 pc = .ok (.lor, 1)) (k : Ev X d μ (pc + 1) L (.long (x ||| y) :: st) ks M r ks' M') : Ev X d μ pc L (.long y :: .long x :: st) ks M r ks' M' := by
  intro l p e R s m args below meth c D dA σ A H locs cells slots mc ms ls Q C hP hD hS hl h1 h2 h3 h4 hret
  obtain ⟨hx, hb, hml, hown, hts, hr, hlk, hnm, hK, hA, hX, hfr, hlo⟩ := id C
  exact lv_lor hx hb hd (k l p e R s m args below meth c D dA σ A H locs cells slots mc ms ls Q C hP hD hS hl h1 h2 h3 h4 hret)
theorem x_lshl {x : Int64} {y : Int32} (hd : decode μ.2.1 pc = .ok (.lshl, 1)) (k : Ev X d μ (pc + 1) L (.long (x <<< (y.toInt64 &&& 63)) :: st) ks M r ks' M') : Ev X d μ pc L (.int y :: .long x :: st) ks M r ks' M' := by
  intro l p e R s m args below meth c D dA σ A H locs cells slots mc ms ls Q C hP hD hS hl h1 h2 h3 h4 hret
  obtain ⟨hx, hb, hml, hown, hts, hr, hlk, hnm, hK, hA, hX, hfr, hlo⟩ := id C
  exact lv_lshl hx hb hd rfl (k l p e R s m args below meth c D dA σ A H locs cells slots mc ms ls Q C hP hD hS hl h1 h2 h3 h4 hret)
theorem x_lcmp {x y : Int64} (hd : decode μ.2.1 pc = .ok (.lcmp, 1)) (k : Ev X d μ (pc + 1) L (.int (lg_cmp x y) :: st) ks M r ks' M') : Ev X d μ pc L (.long y :: .long x :: st) ks M r ks' M' := by
  intro l p e R s m args below meth c D dA σ A H locs cells slots mc ms ls Q C hP hD hS hl h1 h2 h3 h4 hret
  obtain ⟨hx, hb, hml, hown, hts, hr, hlk, hnm, hK, hA, hX, hfr, hlo⟩ := id C
  exact W.lcmp hx hb hd (k l p e R s m args below meth c D dA σ A H locs cells slots mc ms ls Q C hP hD hS hl h1 h2 h3 h4 hret)
theorem x_dup {v : Value} (hd : decode μ.2.1 pc = .ok (.dup, 1)) (hv : v.category = 1) (k : Ev X d μ (pc + 1) L (v :: v :: st) ks M r ks' M') : Ev X d μ pc L (v :: st) ks M r ks' M' := by
  intro l p e R s m args below meth c D dA σ A H locs cells slots mc ms ls Q C hP hD hS hl h1 h2 h3 h4 hret
  obtain ⟨hx, hb, hml, hown, hts, hr, hlk, hnm, hK, hA, hX, hfr, hlo⟩ := id C
  exact lv_dup hx hb hd (by rw [rv_cat hX.2.2.2.1.2]; exact hv) (k l p e R s m args below meth c D dA σ A H locs cells slots mc ms ls Q C hP hD hS hl h1 h2 h3 h4 hret)
theorem x_pop {v : Value} (hd : decode μ.2.1 pc = .ok (.pop, 1)) (hv : v.category = 1) (k : Ev X d μ (pc + 1) L st ks M r ks' M') : Ev X d μ pc L (v :: st) ks M r ks' M' := by
  intro l p e R s m args below meth c D dA σ A H locs cells slots mc ms ls Q C hP hD hS hl h1 h2 h3 h4 hret
  obtain ⟨hx, hb, hml, hown, hts, hr, hlk, hnm, hK, hA, hX, hfr, hlo⟩ := id C
  exact lv_pop hx hb hd (by rw [rv_cat hX.2.2.2.1.2]; exact hv) (k l p e R s m args below meth c D dA σ A H locs cells slots mc ms ls Q C hP hD hS hl h1 h2 h3 h4 hret)
theorem x_dup2 {v w : Value} (hd : decode μ.2.1 pc = .ok (.dup2, 1)) (hv : v.category = 1) (hw : w.category = 1) (k : Ev X d μ (pc + 1) L (v :: w :: v :: w :: st) ks M r ks' M') : Ev X d μ pc L (v :: w :: st) ks M r ks' M' := by
  intro l p e R s m args below meth c D dA σ A H locs cells slots mc ms ls Q C hP hD hS hl h1 h2 h3 h4 hret
  obtain ⟨hx, hb, hml, hown, hts, hr, hlk, hnm, hK, hA, hX, hfr, hlo⟩ := id C
  exact lv_dup2_11 hx hb hd (by rw [rv_cat hX.2.2.2.1.2]; exact hv) (by rw [rv_cat hX.2.2.2.1.2]; exact hw) (k l p e R s m args below meth c D dA σ A H locs cells slots mc ms ls Q C hP hD hS hl h1 h2 h3 h4 hret)
theorem x_dup_x1 {v w : Value} (hd : decode μ.2.1 pc = .ok (.dup_x1, 1)) (hv : v.category = 1) (hw : w.category = 1) (k : Ev X d μ (pc + 1) L (v :: w :: v :: st) ks M r ks' M') : Ev X d μ pc L (v :: w :: st) ks M r ks' M' := by
  intro l p e R s m args below meth c D dA σ A H locs cells slots mc ms ls Q C hP hD hS hl h1 h2 h3 h4 hret
  obtain ⟨hx, hb, hml, hown, hts, hr, hlk, hnm, hK, hA, hX, hfr, hlo⟩ := id C
  exact lv_dup_x1 hx hb hd (by rw [rv_cat hX.2.2.2.1.2]; exact hv) (by rw [rv_cat hX.2.2.2.1.2]; exact hw) (k l p e R s m args below meth c D dA σ A H locs cells slots mc ms ls Q C hP hD hS hl h1 h2 h3 h4 hret)
theorem x_icmp_eq {x y : Int32} {off : Int} {tgt : Nat} (hd : decode μ.2.1 pc = .ok (.if_icmp .eq off, 3)) (ht : (pc : Int) + off = (tgt : Int)) (kt : x = y → Ev X d μ tgt L st ks M r ks' M') (kf : ¬ x = y → Ev X d μ (pc + 3) L st ks M r ks' M') : Ev X d μ pc L (.int y :: .int x :: st) ks M r ks' M' := by
  intro l p e R s m args below meth c D dA σ A H locs cells slots mc ms ls Q C hP hD hS hl h1 h2 h3 h4 hret
  obtain ⟨hx, hb, hml, hown, hts, hr, hlk, hnm, hK, hA, hX, hfr, hlo⟩ := id C
  exact lv_icmp_eq hx hb hd ht (fun q => (kt q l p e R s m args below meth c D dA σ A H locs cells slots mc ms ls Q C hP hD hS hl h1 h2 h3 h4 hret)) (fun q => (kf q l p e R s m args below meth c D dA σ A H locs cells slots mc ms ls Q C hP hD hS hl h1 h2 h3 h4 hret))
theorem x_icmp_ne {x y : Int32} {off : Int} {tgt : Nat} (hd : decode μ.2.1 pc = .ok (.if_icmp .ne off, 3)) (ht : (pc : Int) + off = (tgt : Int)) (kt : ¬ x = y → Ev X d μ tgt L st ks M r ks' M') (kf : x = y → Ev X d μ (pc + 3) L st ks M r ks' M') : Ev X d μ pc L (.int y :: .int x :: st) ks M r ks' M' := by
  intro l p e R s m args below meth c D dA σ A H locs cells slots mc ms ls Q C hP hD hS hl h1 h2 h3 h4 hret
  obtain ⟨hx, hb, hml, hown, hts, hr, hlk, hnm, hK, hA, hX, hfr, hlo⟩ := id C
  exact lv_icmp_ne hx hb hd ht (fun q => (kt q l p e R s m args below meth c D dA σ A H locs cells slots mc ms ls Q C hP hD hS hl h1 h2 h3 h4 hret)) (fun q => (kf q l p e R s m args below meth c D dA σ A H locs cells slots mc ms ls Q C hP hD hS hl h1 h2 h3 h4 hret))
theorem x_icmp_lt {x y : Int32} {off : Int} {tgt : Nat} (hd : decode μ.2.1 pc = .ok (.if_icmp .lt off, 3)) (ht : (pc : Int) + off = (tgt : Int)) (kt : x < y → Ev X d μ tgt L st ks M r ks' M') (kf : ¬ x < y → Ev X d μ (pc + 3) L st ks M r ks' M') : Ev X d μ pc L (.int y :: .int x :: st) ks M r ks' M' := by
  intro l p e R s m args below meth c D dA σ A H locs cells slots mc ms ls Q C hP hD hS hl h1 h2 h3 h4 hret
  obtain ⟨hx, hb, hml, hown, hts, hr, hlk, hnm, hK, hA, hX, hfr, hlo⟩ := id C
  exact lv_icmp_lt hx hb hd ht (fun q => (kt q l p e R s m args below meth c D dA σ A H locs cells slots mc ms ls Q C hP hD hS hl h1 h2 h3 h4 hret)) (fun q => (kf q l p e R s m args below meth c D dA σ A H locs cells slots mc ms ls Q C hP hD hS hl h1 h2 h3 h4 hret))
theorem x_icmp_ge {x y : Int32} {off : Int} {tgt : Nat} (hd : decode μ.2.1 pc = .ok (.if_icmp .ge off, 3)) (ht : (pc : Int) + off = (tgt : Int)) (kt : y ≤ x → Ev X d μ tgt L st ks M r ks' M') (kf : ¬ y ≤ x → Ev X d μ (pc + 3) L st ks M r ks' M') : Ev X d μ pc L (.int y :: .int x :: st) ks M r ks' M' := by
  intro l p e R s m args below meth c D dA σ A H locs cells slots mc ms ls Q C hP hD hS hl h1 h2 h3 h4 hret
  obtain ⟨hx, hb, hml, hown, hts, hr, hlk, hnm, hK, hA, hX, hfr, hlo⟩ := id C
  exact lv_icmp_ge hx hb hd ht (fun q => (kt q l p e R s m args below meth c D dA σ A H locs cells slots mc ms ls Q C hP hD hS hl h1 h2 h3 h4 hret)) (fun q => (kf q l p e R s m args below meth c D dA σ A H locs cells slots mc ms ls Q C hP hD hS hl h1 h2 h3 h4 hret))
theorem x_icmp_gt {x y : Int32} {off : Int} {tgt : Nat} (hd : decode μ.2.1 pc = .ok (.if_icmp .gt off, 3)) (ht : (pc : Int) + off = (tgt : Int)) (kt : y < x → Ev X d μ tgt L st ks M r ks' M') (kf : ¬ y < x → Ev X d μ (pc + 3) L st ks M r ks' M') : Ev X d μ pc L (.int y :: .int x :: st) ks M r ks' M' := by
  intro l p e R s m args below meth c D dA σ A H locs cells slots mc ms ls Q C hP hD hS hl h1 h2 h3 h4 hret
  obtain ⟨hx, hb, hml, hown, hts, hr, hlk, hnm, hK, hA, hX, hfr, hlo⟩ := id C
  exact lv_icmp_gt hx hb hd ht (fun q => (kt q l p e R s m args below meth c D dA σ A H locs cells slots mc ms ls Q C hP hD hS hl h1 h2 h3 h4 hret)) (fun q => (kf q l p e R s m args below meth c D dA σ A H locs cells slots mc ms ls Q C hP hD hS hl h1 h2 h3 h4 hret))
theorem x_icmp_le {x y : Int32} {off : Int} {tgt : Nat} (hd : decode μ.2.1 pc = .ok (.if_icmp .le off, 3)) (ht : (pc : Int) + off = (tgt : Int)) (kt : x ≤ y → Ev X d μ tgt L st ks M r ks' M') (kf : ¬ x ≤ y → Ev X d μ (pc + 3) L st ks M r ks' M') : Ev X d μ pc L (.int y :: .int x :: st) ks M r ks' M' := by
  intro l p e R s m args below meth c D dA σ A H locs cells slots mc ms ls Q C hP hD hS hl h1 h2 h3 h4 hret
  obtain ⟨hx, hb, hml, hown, hts, hr, hlk, hnm, hK, hA, hX, hfr, hlo⟩ := id C
  exact lv_icmp_le hx hb hd ht (fun q => (kt q l p e R s m args below meth c D dA σ A H locs cells slots mc ms ls Q C hP hD hS hl h1 h2 h3 h4 hret)) (fun q => (kf q l p e R s m args below meth c D dA σ A H locs cells slots mc ms ls Q C hP hD hS hl h1 h2 h3 h4 hret))
theorem x_if_eq {x : Int32} {off : Int} {tgt : Nat} (hd : decode μ.2.1 pc = .ok (.ifCond .eq off, 3)) (ht : (pc : Int) + off = (tgt : Int)) (kt : x = 0 → Ev X d μ tgt L st ks M r ks' M') (kf : ¬ x = 0 → Ev X d μ (pc + 3) L st ks M r ks' M') : Ev X d μ pc L (.int x :: st) ks M r ks' M' := by
  intro l p e R s m args below meth c D dA σ A H locs cells slots mc ms ls Q C hP hD hS hl h1 h2 h3 h4 hret
  obtain ⟨hx, hb, hml, hown, hts, hr, hlk, hnm, hK, hA, hX, hfr, hlo⟩ := id C
  exact lv_if_eq hx hb hd ht (fun q => (kt q l p e R s m args below meth c D dA σ A H locs cells slots mc ms ls Q C hP hD hS hl h1 h2 h3 h4 hret)) (fun q => (kf q l p e R s m args below meth c D dA σ A H locs cells slots mc ms ls Q C hP hD hS hl h1 h2 h3 h4 hret))
theorem x_if_ne {x : Int32} {off : Int} {tgt : Nat} (hd : decode μ.2.1 pc = .ok (.ifCond .ne off, 3)) (ht : (pc : Int) + off = (tgt : Int)) (kt : ¬ x = 0 → Ev X d μ tgt L st ks M r ks' M') (kf : x = 0 → Ev X d μ (pc + 3) L st ks M r ks' M') : Ev X d μ pc L (.int x :: st) ks M r ks' M' := by
  intro l p e R s m args below meth c D dA σ A H locs cells slots mc ms ls Q C hP hD hS hl h1 h2 h3 h4 hret
  obtain ⟨hx, hb, hml, hown, hts, hr, hlk, hnm, hK, hA, hX, hfr, hlo⟩ := id C
  exact lv_if_ne hx hb hd ht (fun q => (kt q l p e R s m args below meth c D dA σ A H locs cells slots mc ms ls Q C hP hD hS hl h1 h2 h3 h4 hret)) (fun q => (kf q l p e R s m args below meth c D dA σ A H locs cells slots mc ms ls Q C hP hD hS hl h1 h2 h3 h4 hret))
theorem x_if_lt {x : Int32} {off : Int} {tgt : Nat} (hd : decode μ.2.1 pc = .ok (.ifCond .lt off, 3)) (ht : (pc : Int) + off = (tgt : Int)) (kt : x < 0 → Ev X d μ tgt L st ks M r ks' M') (kf : ¬ x < 0 → Ev X d μ (pc + 3) L st ks M r ks' M') : Ev X d μ pc L (.int x :: st) ks M r ks' M' := by
  intro l p e R s m args below meth c D dA σ A H locs cells slots mc ms ls Q C hP hD hS hl h1 h2 h3 h4 hret
  obtain ⟨hx, hb, hml, hown, hts, hr, hlk, hnm, hK, hA, hX, hfr, hlo⟩ := id C
  exact lv_if_lt hx hb hd ht (fun q => (kt q l p e R s m args below meth c D dA σ A H locs cells slots mc ms ls Q C hP hD hS hl h1 h2 h3 h4 hret)) (fun q => (kf q l p e R s m args below meth c D dA σ A H locs cells slots mc ms ls Q C hP hD hS hl h1 h2 h3 h4 hret))
theorem x_if_ge {x : Int32} {off : Int} {tgt : Nat} (hd : decode μ.2.1 pc = .ok (.ifCond .ge off, 3)) (ht : (pc : Int) + off = (tgt : Int)) (kt : 0 ≤ x → Ev X d μ tgt L st ks M r ks' M') (kf : ¬ 0 ≤ x → Ev X d μ (pc + 3) L st ks M r ks' M') : Ev X d μ pc L (.int x :: st) ks M r ks' M' := by
  intro l p e R s m args below meth c D dA σ A H locs cells slots mc ms ls Q C hP hD hS hl h1 h2 h3 h4 hret
  obtain ⟨hx, hb, hml, hown, hts, hr, hlk, hnm, hK, hA, hX, hfr, hlo⟩ := id C
  exact lv_if_ge hx hb hd ht (fun q => (kt q l p e R s m args below meth c D dA σ A H locs cells slots mc ms ls Q C hP hD hS hl h1 h2 h3 h4 hret)) (fun q => (kf q l p e R s m args below meth c D dA σ A H locs cells slots mc ms ls Q C hP hD hS hl h1 h2 h3 h4 hret))
theorem x_if_gt {x : Int32} {off : Int} {tgt : Nat} (hd : decode μ.2.1 pc = .ok (.ifCond .gt off, 3)) (ht : (pc : Int) + off = (tgt : Int)) (kt : 0 < x → Ev X d μ tgt L st ks M r ks' M') (kf : ¬ 0 < x → Ev X d μ (pc + 3) L st ks M r ks' M') : Ev X d μ pc L (.int x :: st) ks M r ks' M' := by
  intro l p e R s m args below meth c D dA σ A H locs cells slots mc ms ls Q C hP hD hS hl h1 h2 h3 h4 hret
  obtain ⟨hx, hb, hml, hown, hts, hr, hlk, hnm, hK, hA, hX, hfr, hlo⟩ := id C
  exact lv_if_gt hx hb hd ht (fun q => (kt q l p e R s m args below meth c D dA σ A H locs cells slots mc ms ls Q C hP hD hS hl h1 h2 h3 h4 hret)) (fun q => (kf q l p e R s m args below meth c D dA σ A H locs cells slots mc ms ls Q C hP hD hS hl h1 h2 h3 h4 hret))
theorem x_if_le {x : Int32} {off : Int} {tgt : Nat} (hd : decode μ.2.1 pc = .ok (.ifCond .le off, 3)) (ht : (pc : Int) + off = (tgt : Int)) (kt : x ≤ 0 → Ev X d μ tgt L st ks M r ks' M') (kf : ¬ x ≤ 0 → Ev X d μ (pc + 3) L st ks M r ks' M') : Ev X d μ pc L (.int x :: st) ks M r ks' M' := by
  intro l p e R s m args below meth c D dA σ A H locs cells slots mc ms ls Q C hP hD hS hl h1 h2 h3 h4 hret
  obtain ⟨hx, hb, hml, hown, hts, hr, hlk, hnm, hK, hA, hX, hfr, hlo⟩ := id C
  exact lv_if_le hx hb hd ht (fun q => (kt q l p e R s m args below meth c D dA σ A H locs cells slots mc ms ls Q C hP hD hS hl h1 h2 h3 h4 hret)) (fun q => (kf q l p e R s m args below meth c D dA σ A H locs cells slots mc ms ls Q C hP hD hS hl h1 h2 h3 h4 hret))
theorem x_goto {off : Int} {tgt : Nat} (hd : decode μ.2.1 pc = .ok (.goto off, 3)) (ht : (pc : Int) + off = (tgt : Int)) (k : Ev X d μ tgt L st ks M r ks' M') : Ev X d μ pc L st ks M r ks' M' := by
  intro l p e R s m args below meth c D dA σ A H locs cells slots mc ms ls Q C hP hD hS hl h1 h2 h3 h4 hret
  obtain ⟨hx, hb, hml, hown, hts, hr, hlk, hnm, hK, hA, hX, hfr, hlo⟩ := id C
  exact lv_goto hx hb hd ht (k l p e R s m args below meth c D dA σ A H locs cells slots mc ms ls Q C hP hD hS hl h1 h2 h3 h4 hret)
theorem x_tabC {dflt lo hi : Int} {offs : Array Int} {len : Nat} {x : Int32} {off : Int} {tgt : Nat} (c0 : Int) (hd : decode μ.2.1 pc = .ok (.tableswitch dflt lo hi offs, len)) (hx0 : x.toInt = c0) (h5 : ¬ c0 < lo ∧ ¬ hi < c0) (ho : offs[(c0 - lo).toNat]? = some off) (ht : (pc : Int) + off = (tgt : Int)) (k : Ev X d μ tgt L st ks M r ks' M') : Ev X d μ pc L (.int x :: st) ks M r ks' M' := by
  intro l p e R s m args below meth c D dA σ A H locs cells slots mc ms ls Q C hP hD hS hl h1 h2 h3 h4 hret
  obtain ⟨hx, hb, hml, hown, hts, hr, hlk, hnm, hK, hA, hX, hfr, hlo⟩ := id C
  exact lv_tableIn hx hb hd (by rw [hx0]; exact h5.1) (by rw [hx0]; exact h5.2) (by rw [hx0]; exact ho) ht (k l p e R s m args below meth c D dA σ A H locs cells slots mc ms ls Q C hP hD hS hl h1 h2 h3 h4 hret)
theorem x_tabD {dflt lo hi : Int} {offs : Array Int} {len : Nat} {x : Int32} {tgt : Nat} (hd : decode μ.2.1 pc = .ok (.tableswitch dflt lo hi offs, len)) (h5 : x.toInt < lo ∨ hi < x.toInt) (ht : (pc : Int) + dflt = (tgt : Int)) (k : Ev X d μ tgt L st ks M r ks' M') : Ev X d μ pc L (.int x :: st) ks M r ks' M' := by
  intro l p e R s m args below meth c D dA σ A H locs cells slots mc ms ls Q C hP hD hS hl h1 h2 h3 h4 hret
  obtain ⟨hx, hb, hml, hown, hts, hr, hlk, hnm, hK, hA, hX, hfr, hlo⟩ := id C
  exact lv_tableOut hx hb hd h5 ht (k l p e R s m args below meth c D dA σ A H locs cells slots mc ms ls Q C hP hD hS hl h1 h2 h3 h4 hret)
theorem x_look {dflt : Int} {ps : Array (Int × Int)} {len : Nat} {x : Int32} {off : Int} {tgt : Nat} (hd : decode μ.2.1 pc = .ok (.lookupswitch dflt ps, len)) (hp : (ps.toList.zip (ps.toList.drop 1)).all (fun (a, next) => a.1 < next.1) = true) (ho : Op.lookupswitch.offset ps.toList dflt x.toInt = off) (ht : (pc : Int) + off = (tgt : Int)) (k : Ev X d μ tgt L st ks M r ks' M') : Ev X d μ pc L (.int x :: st) ks M r ks' M' := by
  intro l p e R s m args below meth c D dA σ A H locs cells slots mc ms ls Q C hP hD hS hl h1 h2 h3 h4 hret
  obtain ⟨hx, hb, hml, hown, hts, hr, hlk, hnm, hK, hA, hX, hfr, hlo⟩ := id C
  exact lv_lookup hx hb hd hp ho ht (k l p e R s m args below meth c D dA σ A H locs cells slots mc ms ls Q C hP hD hS hl h1 h2 h3 h4 hret)
theorem x_drop {L1 : List (Nat × Value)} (hs : ∀ q ∈ L1, q ∈ L) (k : Ev X d μ pc L1 st ks M r ks' M') : Ev X d μ pc L st ks M r ks' M' := by
  intro l p e R s m args below meth c D dA σ A H locs cells slots mc ms ls Q C hP hD hS hl h1 h2 h3 h4 hret
  obtain ⟨hx, hb, hml, hown, hts, hr, hlk, hnm, hK, hA, hX, hfr, hlo⟩ := id C
  have hl1 : lv_has ls μ.2.2.1 (lvr σ L1) := ⟨hl.1, hl.2.1, fun q hq => by
    obtain ⟨q0, hq0, rfl⟩ := List.mem_map.mp hq
    exact hl.2.2 _ (List.mem_map.mpr ⟨q0, hs q0 hq0, rfl⟩)⟩
  exact (k l p e R s m args below meth c D dA σ A H locs cells slots mc ms ls Q C hP hD hS hl1 h1 h2 h3 h4 hret)
theorem x_ret (hd : decode μ.2.1 pc = .ok (rIns μ.2.2.2, 1)) (hr0 : rOK μ.2.2.2 r) : Ev X d μ pc L r.toList ks M r ks M := by
  intro l p e R s m args below meth c D dA σ A H locs cells slots mc ms ls Q C hP hD hS hl h1 h2 h3 h4 hret
  obtain ⟨hx, hb, hml, hown, hts, hr, hlk, hnm, hK, hA, hX, hfr, hlo⟩ := id C
  have e1 : cells = mc := by omega
  have e2 : slots = ms := by omega
  subst e1; subst e2
  exact hret pc ls σ H locs hd hr0 Same.rf hP hD hS
end XR
end
section
/-! ROWS of fields and arrays -/
def isI (t : FieldType) : Bool := match t with
  | .int => true
  | .boolean => true
  | .byte => true
  | .char => true
  | .short => true
  | _ => false
def isRf (t : FieldType) : Bool := match t with
  | .object _ => true
  | .array _ => true
  | _ => false
theorem fvT_I {t : FieldType} (h : isI t = true) (σ : Sg) (M : Mem) (a k : Nat) : fvT t σ M a k = .int (M.1 a k) := by cases t <;> first | rfl | simp [isI] at h
theorem fvT_R {t : FieldType} (h : isRf t = true) (σ : Sg) (M : Mem) (a k : Nat) : fvT t σ M a k = va_rf ((M.2.2 a k).map σ.1) := by cases t <;> first | rfl | simp [isRf] at h
def cOK (ci : Nat) (C : String) (T : u_T) (N : Nat) : Prop := classes[ci]? = some (C, T, N) ∧ N = nF ci ∧ (∀ w ∈ u_ws C T N, w ∈ GW) ∧ (∀ k, k < N → parseFieldDescriptor (T k).2.2.1 = some (tyT ci k)) ∧ (∀ a, a < N → ∀ b, b < N → a ≠ b → (T a).2.1 ≠ (T b).2.1) ∧ ∀ k, k < N → (T k).1 = C
def fL (own : String) (idx ci k : Nat) : Prop := ∃ (C : String) (T : u_T) (N : Nat), cOK ci C T N ∧ k < N ∧ Cond.fieldLink own idx C (T k).2.1 (T k).2.2.1 ∈ GW
def fin (ci k : Nat) : Bool := match classes[ci]? with
  | some q => (q.2.1 k).2.2.2
  | none => false
theorem setI_I (M : Mem) (h k : Nat) (x : Int32) : (setI M h k x).1 h = upd (M.1 h) k x := by simp [setI]
theorem setI_ne {M : Mem} {h k j : Nat} {x : Int32} (hj : j ≠ h) : (setI M h k x).1 j = M.1 j ∧ (setI M h k x).2.1 j = M.2.1 j ∧ (setI M h k x).2.2 j = M.2.2 j := by simp [setI, hj]
theorem setL_L (M : Mem) (h k : Nat) (x : Int64) : (setL M h k x).2.1 h = vp_updL (M.2.1 h) k x := by simp [setL]
theorem setL_ne {M : Mem} {h k j : Nat} {x : Int64} (hj : j ≠ h) : (setL M h k x).1 j = M.1 j ∧ (setL M h k x).2.1 j = M.2.1 j ∧ (setL M h k x).2.2 j = M.2.2 j := by simp [setL, hj]
theorem setR_R (M : Mem) (h k : Nat) (x : Option Nat) : (setR M h k x).2.2 h = va_up (M.2.2 h) k x := by simp [setR]
theorem setR_ne {M : Mem} {h k j : Nat} {x : Option Nat} (hj : j ≠ h) : (setR M h k x).1 j = M.1 j ∧ (setR M h k x).2.1 j = M.2.1 j ∧ (setR M h k x).2.2 j = M.2.2 j := by simp [setR, hj]
theorem setA_ne {M : Mem} {h j : Nat} {f : Nat → Int32} (hj : j ≠ h) : (setA M h f).1 j = M.1 j ∧ (setA M h f).2.1 j = M.2.1 j ∧ (setA M h f).2.2 j = M.2.2 j := by simp [setA, hj]
section XF
variable {X : Nat × (Nat → Int32)} {d : Nat} {μ : Mt} {pc : Nat} {L : List (Nat × Value)} {st : List Value} {ks : Kds} {M : Mem} {r : Option Value} {ks' : Kds} {M' : Mem} {h idx ci f : Nat}
theorem x_getI (hd : decode μ.2.1 pc = .ok (.getfield idx, 3)) (hf : fL μ.1.cls idx ci f) (ht : isI (tyT ci f) = true) (ho : ks[h]? = some (0, ci)) (k : Ev X d μ (pc + 3) L (.int (M.1 h f) :: st) ks M r ks' M') : Ev X d μ pc L (.ref h :: st) ks M r ks' M' := by
  intro l p e R s m args below meth c D dA σ A H locs cells slots mc ms ls Q C hP hD hS hl h1 h2 h3 h4 hret
  obtain ⟨hx, hb, hml, hown, hts, hr, hlk, hnm, hK, hA, hX, hfr, hlo⟩ := id C
  obtain ⟨CC, TT, NN, ⟨q1, q2, q3, q4, q5, q6⟩, hk, hlw⟩ := hf
  subst q2
  refine va_get (C := CC) (T := TT) (N := nF ci) (ref := CC) (ci := ci) hx hb hts q3 hown hK hP h (wld_at ho) q1 f hk (hts _ hlw) (fun x hx => by rw [q6 f hk] at hx; exact hx) (fld_get hk) hd ?_
  rw [fvT_I ht]
  exact (k l p e R s m args below meth c D dA σ A H locs cells slots mc ms ls Q C hP hD hS hl h1 h2 h3 h4 hret)
theorem x_getL (hd : decode μ.2.1 pc = .ok (.getfield idx, 3)) (hf : fL μ.1.cls idx ci f) (ht : tyT ci f = .long) (ho : ks[h]? = some (0, ci)) (k : Ev X d μ (pc + 3) L (.long (M.2.1 h f) :: st) ks M r ks' M') : Ev X d μ pc L (.ref h :: st) ks M r ks' M' := by
  intro l p e R s m args below meth c D dA σ A H locs cells slots mc ms ls Q C hP hD hS hl h1 h2 h3 h4 hret
  obtain ⟨hx, hb, hml, hown, hts, hr, hlk, hnm, hK, hA, hX, hfr, hlo⟩ := id C
  obtain ⟨CC, TT, NN, ⟨q1, q2, q3, q4, q5, q6⟩, hk, hlw⟩ := hf
  subst q2
  refine va_get (C := CC) (T := TT) (N := nF ci) (ref := CC) (ci := ci) hx hb hts q3 hown hK hP h (wld_at ho) q1 f hk (hts _ hlw) (fun x hx => by rw [q6 f hk] at hx; exact hx) (fld_get hk) hd ?_
  rw [ht]
  exact (k l p e R s m args below meth c D dA σ A H locs cells slots mc ms ls Q C hP hD hS hl h1 h2 h3 h4 hret)
theorem x_getR {a : Nat} (hd : decode μ.2.1 pc = .ok (.getfield idx, 3)) (hf : fL μ.1.cls idx ci f) (ht : isRf (tyT ci f) = true) (ho : ks[h]? = some (0, ci)) (hm : M.2.2 h f = some a) (k : Ev X d μ (pc + 3) L (.ref a :: st) ks M r ks' M') : Ev X d μ pc L (.ref h :: st) ks M r ks' M' := by
  intro l p e R s m args below meth c D dA σ A H locs cells slots mc ms ls Q C hP hD hS hl h1 h2 h3 h4 hret
  obtain ⟨hx, hb, hml, hown, hts, hr, hlk, hnm, hK, hA, hX, hfr, hlo⟩ := id C
  obtain ⟨CC, TT, NN, ⟨q1, q2, q3, q4, q5, q6⟩, hk, hlw⟩ := hf
  subst q2
  refine va_get (C := CC) (T := TT) (N := nF ci) (ref := CC) (ci := ci) hx hb hts q3 hown hK hP h (wld_at ho) q1 f hk (hts _ hlw) (fun x hx => by rw [q6 f hk] at hx; exact hx) (fld_get hk) hd ?_
  rw [fvT_R ht, hm]
  exact (k l p e R s m args below meth c D dA σ A H locs cells slots mc ms ls Q C hP hD hS hl h1 h2 h3 h4 hret)
theorem x_putI {x : Int32} (hd : decode μ.2.1 pc = .ok (.putfield idx, 3)) (hf : fL μ.1.cls idx ci f) (ht : isI (tyT ci f) = true) (hnf : fin ci f = false) (ho : ks[h]? = some (0, ci)) (hn : narrow (tyT ci f) (.int x) = .int x) (hft : fits (tyT ci f) (.int x) = true) (k : Ev X d μ (pc + 3) L st ks (setI M h f x) r ks' M') : Ev X d μ pc L (.int x :: .ref h :: st) ks M r ks' M' := by
  intro l p e R s m args below meth c D dA σ A H locs cells slots mc ms ls Q C hP hD hS hl h1 h2 h3 h4 hret
  obtain ⟨hx, hb, hml, hown, hts, hr, hlk, hnm, hK, hA, hX, hfr, hlo⟩ := id C
  obtain ⟨CC, TT, NN, ⟨q1, q2, q3, q4, q5, q6⟩, hk, hlw⟩ := hf
  subst q2
  have hfin : (TT f).2.2.2 = false := by
    have z := hnf
    unfold fin at z
    rw [q1] at z
    exact z
  refine va_put (C := CC) (T := TT) (N := nF ci) (ref := CC) (ci := ci) (v := rv σ (.int x)) hx hb hts q3 (tyT ci) q4 q5 hown hK hP hD hS h (wld_at ho) q1 f hk (hts _ hlw) (fun x hx => by rw [q6 f hk] at hx; exact hx) hfin (q4 f hk) hn hft (by simpa using hk) hd (fun H1 locs1 hP1 hD1 hS1 => ?_)
  have hwe : (wld dA σ ks M).set h (σ.1 h, Sum.inr (ci, ((List.range (nF ci)).map fun k => fvT (tyT ci k) σ M h k).set f (rv σ (.int x)))) = wld dA σ ks (setI M h f x) := by
    rw [fld_set (M' := setI M h f x) hk (by rw [fvT_I ht, setI_I]; simp [upd, rv]) (fun j hj => by
      cases htj : tyT ci j <;> simp [fvT, setI, upd, hj])]
    exact wld_set (M' := setI M h f x) ho (fun j hj => setI_ne hj)
  rw [hwe] at hP1 hD1
  exact (k l p e R s m args below meth c D dA σ A H1 locs1 cells slots mc ms ls Q C hP1 hD1 hS1 hl h1 h2 h3 h4 hret)
theorem x_putL {x : Int64} (hd : decode μ.2.1 pc = .ok (.putfield idx, 3)) (hf : fL μ.1.cls idx ci f) (ht : tyT ci f = .long) (hnf : fin ci f = false) (ho : ks[h]? = some (0, ci)) (k : Ev X d μ (pc + 3) L st ks (setL M h f x) r ks' M') : Ev X d μ pc L (.long x :: .ref h :: st) ks M r ks' M' := by
  intro l p e R s m args below meth c D dA σ A H locs cells slots mc ms ls Q C hP hD hS hl h1 h2 h3 h4 hret
  obtain ⟨hx, hb, hml, hown, hts, hr, hlk, hnm, hK, hA, hX, hfr, hlo⟩ := id C
  obtain ⟨CC, TT, NN, ⟨q1, q2, q3, q4, q5, q6⟩, hk, hlw⟩ := hf
  subst q2
  have hfin : (TT f).2.2.2 = false := by
    have z := hnf
    unfold fin at z
    rw [q1] at z
    exact z
  refine va_put (C := CC) (T := TT) (N := nF ci) (ref := CC) (ci := ci) (v := rv σ (.long x)) hx hb hts q3 (tyT ci) q4 q5 hown hK hP hD hS h (wld_at ho) q1 f hk (hts _ hlw) (fun x hx => by rw [q6 f hk] at hx; exact hx) hfin (q4 f hk) (by rw [ht]; rfl) (by rw [ht]; rfl) (by simpa using hk) hd (fun H1 locs1 hP1 hD1 hS1 => ?_)
  have hwe : (wld dA σ ks M).set h (σ.1 h, Sum.inr (ci, ((List.range (nF ci)).map fun k => fvT (tyT ci k) σ M h k).set f (rv σ (.long x)))) = wld dA σ ks (setL M h f x) := by
    rw [fld_set (M' := setL M h f x) hk (by rw [ht]; show Value.long ((setL M h f x).2.1 h f) = _; rw [setL_L]; simp [vp_updL, rv]) (fun j hj => by
      cases htj : tyT ci j <;> simp [fvT, setL, vp_updL, hj])]
    exact wld_set (M' := setL M h f x) ho (fun j hj => setL_ne hj)
  rw [hwe] at hP1 hD1
  exact (k l p e R s m args below meth c D dA σ A H1 locs1 cells slots mc ms ls Q C hP1 hD1 hS1 hl h1 h2 h3 h4 hret)
theorem x_putR {x : Nat} (hd : decode μ.2.1 pc = .ok (.putfield idx, 3)) (hf : fL μ.1.cls idx ci f) (ht : isRf (tyT ci f) = true) (hnf : fin ci f = false) (ho : ks[h]? = some (0, ci)) (k : Ev X d μ (pc + 3) L st ks (setR M h f (some x)) r ks' M') : Ev X d μ pc L (.ref x :: .ref h :: st) ks M r ks' M' := by
  intro l p e R s m args below meth c D dA σ A H locs cells slots mc ms ls Q C hP hD hS hl h1 h2 h3 h4 hret
  obtain ⟨hx, hb, hml, hown, hts, hr, hlk, hnm, hK, hA, hX, hfr, hlo⟩ := id C
  obtain ⟨CC, TT, NN, ⟨q1, q2, q3, q4, q5, q6⟩, hk, hlw⟩ := hf
  subst q2
  have hfin : (TT f).2.2.2 = false := by
    have z := hnf
    unfold fin at z
    rw [q1] at z
    exact z
  refine va_put (C := CC) (T := TT) (N := nF ci) (ref := CC) (ci := ci) (v := rv σ (.ref x)) hx hb hts q3 (tyT ci) q4 q5 hown hK hP hD hS h (wld_at ho) q1 f hk (hts _ hlw) (fun x hx => by rw [q6 f hk] at hx; exact hx) hfin (q4 f hk) (by cases hz : tyT ci f <;> first | rfl | simp [hz, isRf] at ht) (by cases hz : tyT ci f <;> first | rfl | simp [hz, isRf] at ht) (by simpa using hk) hd (fun H1 locs1 hP1 hD1 hS1 => ?_)
  have hwe : (wld dA σ ks M).set h (σ.1 h, Sum.inr (ci, ((List.range (nF ci)).map fun k => fvT (tyT ci k) σ M h k).set f (rv σ (.ref x)))) = wld dA σ ks (setR M h f (some x)) := by
    rw [fld_set (M' := setR M h f (some x)) hk (by rw [fvT_R ht, setR_R]; simp [va_up, rv, va_rf]) (fun j hj => by
      cases htj : tyT ci j <;> simp [fvT, setR, va_up, hj])]
    exact wld_set (M' := setR M h f (some x)) ho (fun j hj => setR_ne hj)
  rw [hwe] at hP1 hD1
  exact (k l p e R s m args below meth c D dA σ A H1 locs1 cells slots mc ms ls Q C hP1 hD1 hS1 hl h1 h2 h3 h4 hret)
theorem x_putFR {x : Nat} (hd : decode μ.2.1 pc = .ok (.putfield idx, 3)) (hf : fL μ.1.cls idx ci f) (ht : isRf (tyT ci f) = true) (hnf : fin ci f = true) (hini : μ.1.name = "<init>") (howc : (classes[ci]?).map (fun q => q.1) = some μ.1.cls) (ho : ks[h]? = some (0, ci)) (k : Ev X d μ (pc + 3) L st ks (setR M h f (some x)) r ks' M') : Ev X d μ pc L (.ref x :: .ref h :: st) ks M r ks' M' := by
  intro l p e R s m args below meth c D dA σ A H locs cells slots mc ms ls Q C hP hD hS hl h1 h2 h3 h4 hret
  obtain ⟨hx, hb, hml, hown, hts, hr, hlk, hnm, hK, hA, hX, hfr, hlo⟩ := id C
  obtain ⟨CC, TT, NN, ⟨q1, q2, q3, q4, q5, q6⟩, hk, hlw⟩ := hf
  have hoc : μ.1.cls = CC := by have z := howc; rw [q1] at z; exact (Option.some.inj z).symm
  subst q2
  have hfin : (TT f).2.2.2 = true := by
    have z := hnf
    unfold fin at z
    rw [q1] at z
    exact z
  refine va_putF (C := CC) (T := TT) (N := nF ci) (ref := CC) (ci := ci) (v := rv σ (.ref x)) hx hb hts q3 (tyT ci) q4 q5 hown hK hP hD hS h (wld_at ho) q1 f hk (hts _ hlw) (fun x hx => by rw [q6 f hk] at hx; exact hx) hfin (hnm.trans hini) (q6 f hk |>.trans hoc.symm) (q4 f hk) (by cases hz : tyT ci f <;> first | rfl | simp [hz, isRf] at ht) (by cases hz : tyT ci f <;> first | rfl | simp [hz, isRf] at ht) (by simpa using hk) hd (fun H1 locs1 hP1 hD1 hS1 => ?_)
  have hwe : (wld dA σ ks M).set h (σ.1 h, Sum.inr (ci, ((List.range (nF ci)).map fun k => fvT (tyT ci k) σ M h k).set f (rv σ (.ref x)))) = wld dA σ ks (setR M h f (some x)) := by
    rw [fld_set (M' := setR M h f (some x)) hk (by rw [fvT_R ht, setR_R]; simp [va_up, rv, va_rf]) (fun j hj => by
      cases htj : tyT ci j <;> simp [fvT, setR, va_up, hj])]
    exact wld_set (M' := setR M h f (some x)) ho (fun j hj => setR_ne hj)
  rw [hwe] at hP1 hD1
  exact (k l p e R s m args below meth c D dA σ A H1 locs1 cells slots mc ms ls Q C hP1 hD1 hS1 hl h1 h2 h3 h4 hret)
theorem x_iald {i : Int32} {n : Nat} (hd : decode μ.2.1 pc = .ok (.iaload, 1)) (ho : ks[h]? = some (1, n)) (hin : vp_in i n) (k : Ev X d μ (pc + 1) L (.int (M.1 h i.toNatClampNeg) :: st) ks M r ks' M') : Ev X d μ pc L (.int i :: .ref h :: st) ks M r ks' M' := by
  intro l p e R s m args below meth c D dA σ A H locs cells slots mc ms ls Q C hP hD hS hl h1 h2 h3 h4 hret
  obtain ⟨hx, hb, hml, hown, hts, hr, hlk, hnm, hK, hA, hX, hfr, hlo⟩ := id C
  exact va_iald hx hb hK hP h 1 (wld_at ho) rfl hin hd (k l p e R s m args below meth c D dA σ A H locs cells slots mc ms ls Q C hP hD hS hl h1 h2 h3 h4 hret)
theorem x_bald {i : Int32} {n : Nat} (hd : decode μ.2.1 pc = .ok (.baload, 1)) (ho : ks[h]? = some (3, n)) (hin : vp_in i n) (k : Ev X d μ (pc + 1) L (.int (M.1 h i.toNatClampNeg) :: st) ks M r ks' M') : Ev X d μ pc L (.int i :: .ref h :: st) ks M r ks' M' := by
  intro l p e R s m args below meth c D dA σ A H locs cells slots mc ms ls Q C hP hD hS hl h1 h2 h3 h4 hret
  obtain ⟨hx, hb, hml, hown, hts, hr, hlk, hnm, hK, hA, hX, hfr, hlo⟩ := id C
  exact va_bald hx hb hK hP h 3 (wld_at ho) rfl hin hd (k l p e R s m args below meth c D dA σ A H locs cells slots mc ms ls Q C hP hD hS hl h1 h2 h3 h4 hret)
theorem x_zald {i : Int32} {n : Nat} (hd : decode μ.2.1 pc = .ok (.baload, 1)) (ho : ks[h]? = some (4, n)) (hin : vp_in i n) (k : Ev X d μ (pc + 1) L (.int (M.1 h i.toNatClampNeg) :: st) ks M r ks' M') : Ev X d μ pc L (.int i :: .ref h :: st) ks M r ks' M' := by
  intro l p e R s m args below meth c D dA σ A H locs cells slots mc ms ls Q C hP hD hS hl h1 h2 h3 h4 hret
  obtain ⟨hx, hb, hml, hown, hts, hr, hlk, hnm, hK, hA, hX, hfr, hlo⟩ := id C
  exact va_zald hx hb hK hP h 4 (wld_at ho) rfl hin hd (k l p e R s m args below meth c D dA σ A H locs cells slots mc ms ls Q C hP hD hS hl h1 h2 h3 h4 hret)
theorem x_lald {i : Int32} {n : Nat} (hd : decode μ.2.1 pc = .ok (.laload, 1)) (ho : ks[h]? = some (2, n)) (hin : vp_in i n) (k : Ev X d μ (pc + 1) L (.long (M.2.1 h i.toNatClampNeg) :: st) ks M r ks' M') : Ev X d μ pc L (.int i :: .ref h :: st) ks M r ks' M' := by
  intro l p e R s m args below meth c D dA σ A H locs cells slots mc ms ls Q C hP hD hS hl h1 h2 h3 h4 hret
  obtain ⟨hx, hb, hml, hown, hts, hr, hlk, hnm, hK, hA, hX, hfr, hlo⟩ := id C
  exact va_lald hx hb hK hP h 2 (wld_at ho) rfl hin hd (k l p e R s m args below meth c D dA σ A H locs cells slots mc ms ls Q C hP hD hS hl h1 h2 h3 h4 hret)
theorem x_aald {i : Int32} {n a : Nat} (hd : decode μ.2.1 pc = .ok (.aaload, 1)) (ho : ks[h]? = some (5, n)) (hin : vp_in i n) (hm : M.2.2 h i.toNatClampNeg = some a) (k : Ev X d μ (pc + 1) L (.ref a :: st) ks M r ks' M') : Ev X d μ pc L (.int i :: .ref h :: st) ks M r ks' M' := by
  intro l p e R s m args below meth c D dA σ A H locs cells slots mc ms ls Q C hP hD hS hl h1 h2 h3 h4 hret
  obtain ⟨hx, hb, hml, hown, hts, hr, hlk, hnm, hK, hA, hX, hfr, hlo⟩ := id C
  refine va_aldq hx hb hK hP h 5 (wld_at ho) rfl hin hd ?_
  rw [hm]
  exact (k l p e R s m args below meth c D dA σ A H locs cells slots mc ms ls Q C hP hD hS hl h1 h2 h3 h4 hret)
theorem x_iast {i x : Int32} {n : Nat} (hd : decode μ.2.1 pc = .ok (.iastore, 1)) (ho : ks[h]? = some (1, n)) (hin : vp_in i n) (k : Ev X d μ (pc + 1) L st ks (setI M h i.toNatClampNeg (x)) r ks' M') : Ev X d μ pc L (.int x :: .int i :: .ref h :: st) ks M r ks' M' := by
  intro l p e R s m args below meth c D dA σ A H locs cells slots mc ms ls Q C hP hD hS hl h1 h2 h3 h4 hret
  obtain ⟨hx, hb, hml, hown, hts, hr, hlk, hnm, hK, hA, hX, hfr, hlo⟩ := id C
  refine va_iast hx hb hK hP hD hS h 1 (wld_at ho) rfl hin hd (fun H1 locs1 hP1 hD1 hS1 => ?_)
  have hwe : (wld dA σ ks M).set h (σ.1 h, Sum.inl (dA 1, n, .inl (upd (M.1 h) i.toNatClampNeg (x)))) = wld dA σ ks (setI M h i.toNatClampNeg (x)) := by
    rw [← wld_set (M' := setI M h i.toNatClampNeg (x)) ho (fun j hj => setI_ne hj)]
    congr 2
    show _ = cE dA σ (setI M h i.toNatClampNeg (x)) h (1, n)
    simp [cE, setI]
  rw [hwe] at hP1 hD1
  exact (k l p e R s m args below meth c D dA σ A H1 locs1 cells slots mc ms ls Q C hP1 hD1 hS1 hl h1 h2 h3 h4 hret)
theorem x_bast {i x : Int32} {n : Nat} (hd : decode μ.2.1 pc = .ok (.bastore, 1)) (ho : ks[h]? = some (3, n)) (hin : vp_in i n) (k : Ev X d μ (pc + 1) L st ks (setI M h i.toNatClampNeg (vp_nar .byte x)) r ks' M') : Ev X d μ pc L (.int x :: .int i :: .ref h :: st) ks M r ks' M' := by
  intro l p e R s m args below meth c D dA σ A H locs cells slots mc ms ls Q C hP hD hS hl h1 h2 h3 h4 hret
  obtain ⟨hx, hb, hml, hown, hts, hr, hlk, hnm, hK, hA, hX, hfr, hlo⟩ := id C
  refine va_bast hx hb hK hP hD hS h 3 (wld_at ho) rfl hin hd (fun H1 locs1 hP1 hD1 hS1 => ?_)
  have hwe : (wld dA σ ks M).set h (σ.1 h, Sum.inl (dA 3, n, .inl (upd (M.1 h) i.toNatClampNeg (vp_nar .byte x)))) = wld dA σ ks (setI M h i.toNatClampNeg (vp_nar .byte x)) := by
    rw [← wld_set (M' := setI M h i.toNatClampNeg (vp_nar .byte x)) ho (fun j hj => setI_ne hj)]
    congr 2
    show _ = cE dA σ (setI M h i.toNatClampNeg (vp_nar .byte x)) h (3, n)
    simp [cE, setI]
  rw [hwe] at hP1 hD1
  exact (k l p e R s m args below meth c D dA σ A H1 locs1 cells slots mc ms ls Q C hP1 hD1 hS1 hl h1 h2 h3 h4 hret)
theorem x_zast {i x : Int32} {n : Nat} (hd : decode μ.2.1 pc = .ok (.bastore, 1)) (ho : ks[h]? = some (4, n)) (hin : vp_in i n) (k : Ev X d μ (pc + 1) L st ks (setI M h i.toNatClampNeg (vp_nar .boolean x)) r ks' M') : Ev X d μ pc L (.int x :: .int i :: .ref h :: st) ks M r ks' M' := by
  intro l p e R s m args below meth c D dA σ A H locs cells slots mc ms ls Q C hP hD hS hl h1 h2 h3 h4 hret
  obtain ⟨hx, hb, hml, hown, hts, hr, hlk, hnm, hK, hA, hX, hfr, hlo⟩ := id C
  refine va_zast hx hb hK hP hD hS h 4 (wld_at ho) rfl hin hd (fun H1 locs1 hP1 hD1 hS1 => ?_)
  have hwe : (wld dA σ ks M).set h (σ.1 h, Sum.inl (dA 4, n, .inl (upd (M.1 h) i.toNatClampNeg (vp_nar .boolean x)))) = wld dA σ ks (setI M h i.toNatClampNeg (vp_nar .boolean x)) := by
    rw [← wld_set (M' := setI M h i.toNatClampNeg (vp_nar .boolean x)) ho (fun j hj => setI_ne hj)]
    congr 2
    show _ = cE dA σ (setI M h i.toNatClampNeg (vp_nar .boolean x)) h (4, n)
    simp [cE, setI]
  rw [hwe] at hP1 hD1
  exact (k l p e R s m args below meth c D dA σ A H1 locs1 cells slots mc ms ls Q C hP1 hD1 hS1 hl h1 h2 h3 h4 hret)
theorem x_last {i : Int32} {x : Int64} {n : Nat} (hd : decode μ.2.1 pc = .ok (.lastore, 1)) (ho : ks[h]? = some (2, n)) (hin : vp_in i n) (k : Ev X d μ (pc + 1) L st ks (setL M h i.toNatClampNeg x) r ks' M') : Ev X d μ pc L (.long x :: .int i :: .ref h :: st) ks M r ks' M' := by
  intro l p e R s m args below meth c D dA σ A H locs cells slots mc ms ls Q C hP hD hS hl h1 h2 h3 h4 hret
  obtain ⟨hx, hb, hml, hown, hts, hr, hlk, hnm, hK, hA, hX, hfr, hlo⟩ := id C
  refine va_last hx hb hK hP hD hS h 2 (wld_at ho) rfl hin hd (fun H1 locs1 hP1 hD1 hS1 => ?_)
  have hwe : (wld dA σ ks M).set h (σ.1 h, Sum.inl (dA 2, n, .inr (.inl (vp_updL (M.2.1 h) i.toNatClampNeg x)))) = wld dA σ ks (setL M h i.toNatClampNeg x) := by
    rw [← wld_set (M' := setL M h i.toNatClampNeg x) ho (fun j hj => setL_ne hj)]
    congr 2
    show _ = cE dA σ (setL M h i.toNatClampNeg x) h (2, n)
    simp [cE, setL]
  rw [hwe] at hP1 hD1
  exact (k l p e R s m args below meth c D dA σ A H1 locs1 cells slots mc ms ls Q C hP1 hD1 hS1 hl h1 h2 h3 h4 hret)
theorem x_alen1 {n : Nat} (hd : decode μ.2.1 pc = .ok (.arraylength, 1)) (ho : ks[h]? = some (1, n)) (k : Ev X d μ (pc + 1) L (.int (Int32.ofNat n) :: st) ks M r ks' M') : Ev X d μ pc L (.ref h :: st) ks M r ks' M' := by
  intro l p e R s m args below meth c D dA σ A H locs cells slots mc ms ls Q C hP hD hS hl h1 h2 h3 h4 hret
  obtain ⟨hx, hb, hml, hown, hts, hr, hlk, hnm, hK, hA, hX, hfr, hlo⟩ := id C
  exact va_alen hx hb hK hP h 1 (wld_at ho) rfl rfl hd (k l p e R s m args below meth c D dA σ A H locs cells slots mc ms ls Q C hP hD hS hl h1 h2 h3 h4 hret)
theorem x_alen2 {n : Nat} (hd : decode μ.2.1 pc = .ok (.arraylength, 1)) (ho : ks[h]? = some (2, n)) (k : Ev X d μ (pc + 1) L (.int (Int32.ofNat n) :: st) ks M r ks' M') : Ev X d μ pc L (.ref h :: st) ks M r ks' M' := by
  intro l p e R s m args below meth c D dA σ A H locs cells slots mc ms ls Q C hP hD hS hl h1 h2 h3 h4 hret
  obtain ⟨hx, hb, hml, hown, hts, hr, hlk, hnm, hK, hA, hX, hfr, hlo⟩ := id C
  exact va_alen hx hb hK hP h 2 (wld_at ho) rfl rfl hd (k l p e R s m args below meth c D dA σ A H locs cells slots mc ms ls Q C hP hD hS hl h1 h2 h3 h4 hret)
theorem x_alen3 {n : Nat} (hd : decode μ.2.1 pc = .ok (.arraylength, 1)) (ho : ks[h]? = some (3, n)) (k : Ev X d μ (pc + 1) L (.int (Int32.ofNat n) :: st) ks M r ks' M') : Ev X d μ pc L (.ref h :: st) ks M r ks' M' := by
  intro l p e R s m args below meth c D dA σ A H locs cells slots mc ms ls Q C hP hD hS hl h1 h2 h3 h4 hret
  obtain ⟨hx, hb, hml, hown, hts, hr, hlk, hnm, hK, hA, hX, hfr, hlo⟩ := id C
  exact va_alen hx hb hK hP h 3 (wld_at ho) rfl rfl hd (k l p e R s m args below meth c D dA σ A H locs cells slots mc ms ls Q C hP hD hS hl h1 h2 h3 h4 hret)
theorem x_alen4 {n : Nat} (hd : decode μ.2.1 pc = .ok (.arraylength, 1)) (ho : ks[h]? = some (4, n)) (k : Ev X d μ (pc + 1) L (.int (Int32.ofNat n) :: st) ks M r ks' M') : Ev X d μ pc L (.ref h :: st) ks M r ks' M' := by
  intro l p e R s m args below meth c D dA σ A H locs cells slots mc ms ls Q C hP hD hS hl h1 h2 h3 h4 hret
  obtain ⟨hx, hb, hml, hown, hts, hr, hlk, hnm, hK, hA, hX, hfr, hlo⟩ := id C
  exact va_alen hx hb hK hP h 4 (wld_at ho) rfl rfl hd (k l p e R s m args below meth c D dA σ A H locs cells slots mc ms ls Q C hP hD hS hl h1 h2 h3 h4 hret)
theorem x_alen5 {n : Nat} (hd : decode μ.2.1 pc = .ok (.arraylength, 1)) (ho : ks[h]? = some (5, n)) (k : Ev X d μ (pc + 1) L (.int (Int32.ofNat n) :: st) ks M r ks' M') : Ev X d μ pc L (.ref h :: st) ks M r ks' M' := by
  intro l p e R s m args below meth c D dA σ A H locs cells slots mc ms ls Q C hP hD hS hl h1 h2 h3 h4 hret
  obtain ⟨hx, hb, hml, hown, hts, hr, hlk, hnm, hK, hA, hX, hfr, hlo⟩ := id C
  exact va_alen hx hb hK hP h 5 (wld_at ho) rfl rfl hd (k l p e R s m args below meth c D dA σ A H locs cells slots mc ms ls Q C hP hD hS hl h1 h2 h3 h4 hret)
theorem x_sald {i : Int32} (hd : decode μ.2.1 pc = .ok (.iaload, 1)) (hin : vp_in i X.1) (k : Ev X d μ (pc + 1) L (.int (X.2 i.toNatClampNeg) :: st) ks M r ks' M') : Ev X d μ pc L (.int i :: .ref 1010 :: st) ks M r ks' M' := by
  intro l p e R s m args below meth c D dA σ A H locs cells slots mc ms ls Q C hP hD hS hl h1 h2 h3 h4 hret
  obtain ⟨hx, hb, hml, hown, hts, hr, hlk, hnm, hK, hA, hX, hfr, hlo⟩ := id C
  exact va_sld hx hb hX.2.2.2.2.2.2.1 hX.2.2.2.2.2.2.2.1 hX.2.2.2.2.2.2.2.2 hS hin hd (k l p e R s m args below meth c D dA σ A H locs cells slots mc ms ls Q C hP hD hS hl h1 h2 h3 h4 hret)
theorem x_salen (hd : decode μ.2.1 pc = .ok (.arraylength, 1)) (k : Ev X d μ (pc + 1) L (.int (Int32.ofNat X.1) :: st) ks M r ks' M') : Ev X d μ pc L (.ref 1010 :: st) ks M r ks' M' := by
  intro l p e R s m args below meth c D dA σ A H locs cells slots mc ms ls Q C hP hD hS hl h1 h2 h3 h4 hret
  obtain ⟨hx, hb, hml, hown, hts, hr, hlk, hnm, hK, hA, hX, hfr, hlo⟩ := id C
  exact va_slen hx hb hX.2.2.2.2.2.2.1 hX.2.2.2.2.2.2.2.1 hX.2.2.2.2.2.2.2.2 hS hd (k l p e R s m args below meth c D dA σ A H locs cells slots mc ms ls Q C hP hD hS hl h1 h2 h3 h4 hret)
end XF
end
section
theorem ck_0 : cOK 0 "NinetyPlayers" cT0 14 := ⟨rfl, rfl, fun w hw => gw_of ((by decide +kernel : ∀ w ∈ u_ws "NinetyPlayers" cT0 14, w ∈ tables_1) w hw) ((by decide +kernel : ∀ w ∈ u_ws "NinetyPlayers" cT0 14, goodWord w = true) w hw), by decide +kernel, by decide +kernel, by decide +kernel⟩
theorem ck_1 : cOK 1 "NinetyPlayers$Reader" cT1 5 := ⟨rfl, rfl, fun w hw => gw_of ((by decide +kernel : ∀ w ∈ u_ws "NinetyPlayers$Reader" cT1 5, w ∈ tables_1) w hw) ((by decide +kernel : ∀ w ∈ u_ws "NinetyPlayers$Reader" cT1 5, goodWord w = true) w hw), by decide +kernel, by decide +kernel, by decide +kernel⟩
theorem ck_2 : cOK 2 "NinetyPlayers$Score" cT2 16 := ⟨rfl, rfl, fun w hw => gw_of ((by decide +kernel : ∀ w ∈ u_ws "NinetyPlayers$Score" cT2 16, w ∈ tables_1) w hw) ((by decide +kernel : ∀ w ∈ u_ws "NinetyPlayers$Score" cT2 16, goodWord w = true) w hw), by decide +kernel, by decide +kernel, by decide +kernel⟩
theorem ck_3 : cOK 3 "NinetyPlayers$Formula" cT3 6 := ⟨rfl, rfl, fun w hw => gw_of ((by decide +kernel : ∀ w ∈ u_ws "NinetyPlayers$Formula" cT3 6, w ∈ tables_1) w hw) ((by decide +kernel : ∀ w ∈ u_ws "NinetyPlayers$Formula" cT3 6, goodWord w = true) w hw), by decide +kernel, by decide +kernel, by decide +kernel⟩
theorem ck_4 : cOK 4 "NinetyPlayers$Tokens" cT4 7 := ⟨rfl, rfl, fun w hw => gw_of ((by decide +kernel : ∀ w ∈ u_ws "NinetyPlayers$Tokens" cT4 7, w ∈ tables_1) w hw) ((by decide +kernel : ∀ w ∈ u_ws "NinetyPlayers$Tokens" cT4 7, goodWord w = true) w hw), by decide +kernel, by decide +kernel, by decide +kernel⟩
theorem ck_5 : cOK 5 "NinetyPlayers$Laying" cT5 6 := ⟨rfl, rfl, fun w hw => gw_of ((by decide +kernel : ∀ w ∈ u_ws "NinetyPlayers$Laying" cT5 6, w ∈ tables_1) w hw) ((by decide +kernel : ∀ w ∈ u_ws "NinetyPlayers$Laying" cT5 6, goodWord w = true) w hw), by decide +kernel, by decide +kernel, by decide +kernel⟩
theorem ck_6 : cOK 6 "NinetyPlayers$Acts" cT6 6 := ⟨rfl, rfl, fun w hw => gw_of ((by decide +kernel : ∀ w ∈ u_ws "NinetyPlayers$Acts" cT6 6, w ∈ tables_1) w hw) ((by decide +kernel : ∀ w ∈ u_ws "NinetyPlayers$Acts" cT6 6, goodWord w = true) w hw), by decide +kernel, by decide +kernel, by decide +kernel⟩
theorem ck_7 : cOK 7 "NinetyPlayers$Keyboard" cT7 12 := ⟨rfl, rfl, fun w hw => gw_of ((by decide +kernel : ∀ w ∈ u_ws "NinetyPlayers$Keyboard" cT7 12, w ∈ tables_1) w hw) ((by decide +kernel : ∀ w ∈ u_ws "NinetyPlayers$Keyboard" cT7 12, goodWord w = true) w hw), by decide +kernel, by decide +kernel, by decide +kernel⟩
theorem ck_8 : cOK 8 "NinetyPlayers$Arranger" cT8 9 := ⟨rfl, rfl, fun w hw => gw_of ((by decide +kernel : ∀ w ∈ u_ws "NinetyPlayers$Arranger" cT8 9, w ∈ tables_1) w hw) ((by decide +kernel : ∀ w ∈ u_ws "NinetyPlayers$Arranger" cT8 9, goodWord w = true) w hw), by decide +kernel, by decide +kernel, by decide +kernel⟩
theorem ck_9 : cOK 9 "NinetyPlayers$Pedaller" cT9 2 := ⟨rfl, rfl, fun w hw => gw_of ((by decide +kernel : ∀ w ∈ u_ws "NinetyPlayers$Pedaller" cT9 2, w ∈ tables_1) w hw) ((by decide +kernel : ∀ w ∈ u_ws "NinetyPlayers$Pedaller" cT9 2, goodWord w = true) w hw), by decide +kernel, by decide +kernel, by decide +kernel⟩
theorem ck_10 : cOK 10 "NinetyPlayers$Witness" cT10 12 := ⟨rfl, rfl, fun w hw => gw_of ((by decide +kernel : ∀ w ∈ u_ws "NinetyPlayers$Witness" cT10 12, w ∈ tables_1) w hw) ((by decide +kernel : ∀ w ∈ u_ws "NinetyPlayers$Witness" cT10 12, goodWord w = true) w hw), by decide +kernel, by decide +kernel, by decide +kernel⟩
theorem ck_11 : cOK 11 "NinetyPlayersModel" cT11 80 := ⟨rfl, rfl, fun w hw => gw_of ((by decide +kernel : ∀ w ∈ u_ws "NinetyPlayersModel" cT11 80, w ∈ tables_1) w hw) ((by decide +kernel : ∀ w ∈ u_ws "NinetyPlayersModel" cT11 80, goodWord w = true) w hw), by decide +kernel, by decide +kernel, by decide +kernel⟩
end
section
/-! CALLS: a callee by its own judgement -/
def wsM (μ : Mt) : List Cond := Cond.code μ.1 μ.2.1 μ.2.2.1 μ.2.2.2 :: GW
theorem gw_good {ws : List Cond} (h : ∀ w ∈ ws, w ∈ GW) : GoodIn GW ws := fun w hw => ⟨h w hw, good_of_word (List.mem_filter.mp (h w hw)).2⟩
theorem gw_wsM {μ : Mt} (h : Cond.code μ.1 μ.2.1 μ.2.2.1 μ.2.2.2 ∈ GW) : ∀ w ∈ wsM μ, w ∈ GW := fun w hw => (List.mem_cons.mp hw).elim (fun e => e ▸ h) id
def PcM (X : Nat × (Nat → Int32)) (D : va_G) (dA : Nat → ClassId) (σ : Sg) (ks : Kds) (M : Mem) (av : List Value) (sz : Nat) : Array Value → State → Prop :=
  va_Pc (av.map (rv σ)) (fun U => U.heap.size = sz ∧ va_P D classes (wld dA σ ks M) U.heap ∧ va_K D classes (tyL dA) U ∧ va_D (fun _ => True) (wld dA σ ks M) ∧ Ext X σ (va_A (wld dA σ ks M) sz) U)
def QcM (D : va_G) (dA : Nat → ClassId) (σ : Sg) (ks : Kds) (M : Mem) (sz : Nat) (r : Option Value) (ks1 : Kds) (M1 : Mem) : Array Value → State → Outcome → State → Prop := fun _ st oc t =>
  (∃ σ' : Sg, Same σ σ' ks.length ks1.length ∧ oc = .returned (r.map (rv σ')) ∧ va_P D classes (wld dA σ' ks1 M1) t.heap ∧ va_D (va_A (wld dA σ ks M) sz) (wld dA σ' ks1 M1)) ∧ va_F (va_A (wld dA σ ks M) sz) st t
theorem Ext.same {X : Nat × (Nat → Int32)} {σ : Sg} {A : Nat → Prop} {s U : State} (h : Ext X σ A s) (hv : U.vm = s.vm) (hh : U.heap = s.heap) : Ext X σ A U := by
  obtain ⟨h1, ⟨h2, h3⟩, h4, ⟨h5, h5'⟩, h6, h7, h8, h9, h10⟩ := h
  have hal : s.vm.Alike U.vm := by rw [hv]; exact Vm.Alike.refl s.vm
  refine ⟨?_, ⟨vk_R.same hv h2, vk_R.same hv h3⟩, ?_, ⟨?_, h5'⟩, fun w hw => ?_, h7.moved hal, ?_, ?_, h10⟩
  · rw [hh]; exact h1.moved hal
  · rw [hh]; exact h4.moved hal
  · rw [hh]; exact h5.moved hal
  · obtain ⟨a, i, x, n, rfl⟩ := nest_all w hw
    exact va_Nw.same rfl hv.symm (h6 _ hw)
  · rw [hh]; exact h8.moved hal
  · rw [hh]; exact h9
theorem lvargs_map {σ : Sg} (hc : σ.2 = .null ∨ ∃ t, σ.2 = .ref t) : ∀ (av : List Value) (i : Nat), lv_args i (av.map (rv σ)) = lvr σ (lv_args i av)
  | [], _ => rfl
  | v :: vs, i => by
    show (i, rv σ v) :: lv_args (if (rv σ v).category = 2 then i + 2 else i + 1) (vs.map (rv σ)) = _
    rw [rv_cat hc, lvargs_map hc vs]
    rfl
theorem lgsl_len {σ : Sg} (hc : σ.2 = .null ∨ ∃ t, σ.2 = .ref t) : ∀ av : List Value, (lg_sl (av.map (rv σ))).length = (lg_sl av).length
  | [] => rfl
  | v :: vs => by
    have e1 : lg_sl ((v :: vs).map (rv σ)) = (if (rv σ v).category = 2 then [.val (rv σ v), .second] else [.val (rv σ v)]) ++ lg_sl (vs.map (rv σ)) := rfl
    have e2 : lg_sl (v :: vs) = (if v.category = 2 then [.val v, .second] else [.val v]) ++ lg_sl vs := rfl
    rw [e1, e2, List.length_append, List.length_append, lgsl_len hc vs, rv_cat hc]
    split <;> rfl
theorem cat_sum {σ : Sg} (hc : σ.2 = .null ∨ ∃ t, σ.2 = .ref t) (st : List Value) : ((st.map (rv σ)).map fun v => v.category).sum = (st.map fun v => v.category).sum := by
  rw [List.map_map]
  congr 1
  exact List.map_congr_left fun v _ => rv_cat hc v
theorem w_ret {p : Program} {l : Launch} {e : Env} {R : Room} {s : State} {m : MethodId} {args : Array Value} {below : List Frame} {meth : Method} {c : Code} {H : Heap} {locs : List Loc} {cells slots : Nat} {cc : ByteArray} {Qc : Array Value → State → Outcome → State → Prop} {free : Addr → Prop} {pc : Nat} {ls : Array Slot} {σ : Sg}
    {t : Option FieldType} {r : Option Value} (hx : p.tables.exec = Jvm.exec) (hb : c.code = cc) (hr : meth.sig.returnType = t) (hlk : meth.locks = false) (hd : decode cc pc = .ok (rIns t, 1)) (h0 : rOK t r)
    (hq : ∀ u : State, u.heap = H → s.WarmedH u.vm → Qc args s (.returned (r.map (rv σ))) u) (hf : ∀ q ∈ locs, free q.base) :
    W p l e R s m args below meth c H locs cells slots (MQ below Qc args s cells slots free) (F0 m pc ls (r.toList.map (rv σ))) := by
  cases t with
  | none =>
    have e0 : r = none := h0
    subst e0
    exact W.vret hx hb hr hq hf hd hlk
  | some ty =>
    cases ty with
    | long =>
      obtain ⟨v, rfl⟩ := h0
      exact W.lret hx hb hr hq hf hd hlk
    | object n =>
      obtain ⟨a, rfl⟩ := h0
      exact W.aret hx hb hr (Or.inl ⟨n, rfl⟩) (Or.inr ⟨_, rfl⟩) hq hf hd hlk
    | array n =>
      obtain ⟨a, rfl⟩ := h0
      exact W.aret hx hb hr (Or.inr ⟨n, rfl⟩) (Or.inr ⟨_, rfl⟩) hq hf hd hlk
    | float => exact h0.elim
    | double => exact h0.elim
    | _ =>
      obtain ⟨v, rfl, hn⟩ := h0
      exact W.zret hx hb hr hn hq hf hd hlk
theorem met_of {X : Nat × (Nat → Int32)} {d : Nat} {μ : Mt} {av : List Value} {ks : Kds} {M : Mem} {r : Option Value} {ks1 : Kds} {M1 : Mem} (hE : Ev X d μ 0 (lv_args 0 av) [] ks M r ks1 M1) (hpn : plainName μ.1.cls = true) (hav : (lg_sl av).length ≤ μ.2.2.1) (h1 : ks.length ≤ ks1.length) (h2 : kz ks ≤ kz ks1) (l : Launch) (D : va_G) (dA : Nat → ClassId) (σ : Sg) (sz : Nat) :
    Met l μ.1 (wsM μ) { frames := d, cells := ks1.length - ks.length, slots := kz ks1 - kz ks, locals := 64 * d } (PcM X D dA σ ks M av sz) (QcM D dA σ ks M sz r ks1 M1) (ks1.length - ks.length) (kz ks1 - kz ks) (va_A (wld dA σ ks M) sz) := by
  refine Met.ofW (cc := μ.2.1) (maxL := μ.2.2.1) (ret := μ.2.2.2) hpn rfl ?_
  intro p e s m args below meth c s₁ B hml hv
  obtain ⟨rfl, hsz, hP, hK, hD0, hX⟩ := hv
  have hx := B.exec
  have hb := B.bytes
  have hr := B.returns
  have hts := atoms_spec (ws := wsM μ) B.pre
  have hown : s.vm.findClass μ.1.cls = some m.cls := findClass_of_methodNamed B.named
  have hlocks := B.notSynchronized
  have hin : meth.name = μ.1.name := (name_of_methodNamed B.named B.method).1
  have hc := hX.2.2.2.1.2
  subst hsz
  have hD := hD0.self (sz := s.heap.size)
  have hl := lv_entry (av.map (rv σ)) (n := μ.2.2.1) (by rw [lgsl_len hc]; exact hav)
  rw [lvargs_map hc] at hl
  rw [lg_entry_eq]
  generalize (lg_sl (av.map (rv σ)) ++ List.replicate (μ.2.2.1 - (lg_sl (av.map (rv σ))).length) Slot.unset).toArray = ls at hl ⊢
  refine hE l p e _ s m _ below meth c D dA σ (va_A (wld dA σ ks M) s.heap.size) s.heap [] 0 0 (ks1.length - ks.length) (kz ks1 - kz ks) ls _ ⟨hx, hb, hml, hown, fun w hw => hts w (List.mem_cons_of_mem _ hw), hr, hlocks, hin, hK, fun q h => Or.inr h, hX, Nat.le_refl _, Nat.le_refl _⟩ hP hD va_S.rf hl (by omega) (by omega) (Nat.le_refl _) (Nat.le_refl _) ?_
  intro pc' ls' σ' H' locs' hd hr0 hsm hP' hD' hS'
  exact w_ret (free := va_A (wld dA σ ks M) s.heap.size) hx hb hr hlocks hd hr0 (fun t ht hw => ⟨⟨σ', hsm, rfl, by rw [ht]; exact hP', hD'⟩, hS'.F ht⟩) hS'.2.2
theorem pcM_blind {X : Nat × (Nat → Int32)} {D : va_G} {dA : Nat → ClassId} {σ : Sg} {ks : Kds} {M : Mem} {av : List Value} {sz : Nat} : FrameBlind (PcM X D dA σ ks M av sz) := by
  intro a U g mk h
  obtain ⟨h1, h2, h3, h4, h5, h6⟩ := h
  exact ⟨h1, h2, h3, va_K.moved (u := U) (U := U.calling g mk a) (Vm.Alike.refl U.vm) h4, h5, h6.same rfl rfl⟩
/-- behind a call -/
theorem x_after {X : Nat × (Nat → Int32)} {d : Nat} {μ : Mt} {pc : Nat} {L : List (Nat × Value)} {st : List Value} {ks : Kds} {M : Mem} {r : Option Value} {ks' : Kds} {M' : Mem} {r1 : Option Value} {M1 : Mem} (k : Ev X d μ (pc + 3) L (r1.toList ++ st) ks M1 r ks' M')
    {l : Launch} {p : Program} {e : Env} {R : Room} {s : State} {m : MethodId} {args : Array Value} {below : List Frame} {meth : Method} {c : Code} {D : va_G} {dA : Nat → ClassId} {σ : Sg} {A : Nat → Prop} {H : Heap} {locs : List Loc} {cells slots mc ms : Nat} {ls : Array Slot} {Q : State → Prop} {st0 : List Value} {a : Array Value}
    (C : Cx X d μ p R s m args meth c D dA σ A) (hP : va_P D classes (wld dA σ ks M) H) (hD : va_D A (wld dA σ ks M)) (hS : va_S A s.heap H locs) (hl : lv_has ls μ.2.2.1 (lvr σ L)) (h1 : cells + ks'.length = mc + ks.length) (h2 : slots + kz ks' = ms + kz ks) (h3 : mc ≤ R.cells) (h4 : ms ≤ R.slots)
    (hret : ∀ (pc' : Nat) (ls' : Array Slot) (σ' : Sg) (H' : Heap) (locs' : List Loc), decode μ.2.1 pc' = .ok (rIns μ.2.2.2, 1) → rOK μ.2.2.2 r → Same σ σ' ks.length ks'.length → va_P D classes (wld dA σ' ks' M') H' → va_D A (wld dA σ' ks' M') → va_S A s.heap H' locs' →
      W p l e R s m args below meth c H' locs' mc ms Q (F0 m pc' ls' (r.toList.map (rv σ'))))
    (hrun : va_Run p l e R s m args below meth c H locs cells slots 0 0 (F0 m pc ls st0) (st.map (rv σ)) (QcM D dA σ ks M H.size r1 ks M1 a) (va_A (wld dA σ ks M) H.size)) :
    W p l e R s m args below meth c H locs cells slots Q (F0 m pc ls st0) := by
  have hA := C.2.2.2.2.2.2.2.2.2.1
  have hFc : ∀ q, va_A (wld dA σ ks M) H.size q → A q := by
    intro q h
    rcases h with ⟨j, x, h⟩ | h
    · exact hD.2 j _ h
    · exact hA q (Nat.le_trans hS.1 h)
  intro T hT Xs
  obtain ⟨v, st₀, t, T', Lc, h0, X', hL, e1, e2, ⟨⟨σ', hsm, hv, hP1, hD1⟩, hz, hkp⟩, go⟩ := hrun T hT Xs
  have hσ : σ' = σ := hsm.eq
  subst hσ
  have hv' : v = r1.map (rv σ') := Outcome.returned.inj hv
  subst hv'
  rw [h0] at hz hkp
  have hS1 : va_S A s.heap T'.heap (locs ++ Lc) := ⟨Nat.le_trans hS.1 (by rw [e1]; exact hz), fun q g1 g2 => by
      rw [e1, hkp q (Nat.lt_of_lt_of_le g1 hS.1) (fun z => g2 (hFc q z))]
      exact hS.2.1 q g1 g2, fun q hq => by
      rcases List.mem_append.mp hq with h | h
      · exact hS.2.2 q h
      · exact hFc _ (hL q h)⟩
  have es : ((r1.map (rv σ')).toList ++ st.map (rv σ')) = (r1.toList ++ st).map (rv σ') := by cases r1 <;> simp
  obtain ⟨t2, a1, b1⟩ := k l p e R s m args below meth c D dA σ' A T'.heap (locs ++ Lc) cells slots mc ms ls Q C (by rw [e1]; exact hP1) (hD1.weaken (fun _ q _ h => hFc q.1 h)) hS1 hl h1 h2 h3 h4 hret T' rfl X'
  refine ⟨t2, go t2 ?_, b1⟩
  show Steps p.tables e below (T'.setTop (F0 m (pc + 3) ls ((r1.map (rv σ')).toList ++ st.map (rv σ')))) t2
  rw [es]
  exact a1
def yOK (μ : Mt) (n : Nat) : Prop := (μ.1.cls ≠ "java/lang/invoke/MethodHandle" ∧ μ.1.cls ≠ "java/lang/invoke/VarHandle" ∧ (parseMethodDescriptor μ.1.desc).map (fun d => d.parameters.length) = some n) ∧ plainName μ.1.cls = true ∧ μ.2.2.1 ≤ 40 ∧ Cond.code μ.1 μ.2.1 μ.2.2.1 μ.2.2.2 ∈ GW ∧ Cond.initialized μ.1.cls ∈ GW
def mLV (own : String) (idx : Nat) (μ : Mt) (n : Nat) : Prop := yOK μ n ∧ Cond.methodLink own idx μ.1 ∈ GW ∧ Cond.instanceMethod μ.1 ∈ GW ∧ Cond.selects μ.1.cls μ.1 μ.1 ∈ GW
def mLS (own : String) (idx : Nat) (μ : Mt) (n : Nat) : Prop := yOK μ n ∧ Cond.methodLink own idx μ.1 ∈ GW ∧ Cond.static μ.1 ∈ GW
def mLI (own : String) (idx : Nat) (μ : Mt) (n : Nat) : Prop := yOK μ n ∧ Cond.methodLink own idx μ.1 ∈ GW ∧ Cond.instanceMethod μ.1 ∈ GW ∧ μ.1.name = "<init>"
section XC
variable {X : Nat × (Nat → Int32)} {d : Nat} {μ : Mt} {pc : Nat} {L : List (Nat × Value)} {st : List Value} {ks : Kds} {M : Mem} {r : Option Value} {ks' : Kds} {M' : Mem}
theorem wsV_in {μ' : Mt} {n : Nat} {own : String} {idx : Nat} (h : mLV own idx μ' n) : ∀ w ∈ wsV own idx μ'.1.cls μ'.1 (wsM μ'), w ∈ GW := by
  obtain ⟨⟨-, -, -, h4, h5⟩, h6, h7, h8⟩ := h
  intro w hw
  simp only [wsV, List.mem_append, List.mem_cons, List.not_mem_nil, or_false] at hw
  rcases hw with (rfl | rfl | rfl | rfl) | hw
  · exact h6
  · exact h7
  · exact h8
  · exact h5
  · exact gw_wsM h4 w hw
theorem wsS_in {μ' : Mt} {n : Nat} {own : String} {idx : Nat} (h : mLS own idx μ' n) : ∀ w ∈ va_wsS own idx μ'.1 (wsM μ'), w ∈ GW := by
  obtain ⟨⟨-, -, -, h4, h5⟩, h6, h7⟩ := h
  intro w hw
  simp only [va_wsS, List.mem_append, List.mem_cons, List.not_mem_nil, or_false] at hw
  rcases hw with (rfl | rfl | rfl) | hw
  · exact h6
  · exact h7
  · exact h5
  · exact gw_wsM h4 w hw
/-- the room of a callee, one frame below -/
theorem room_ok {R : Room} {μ' : Mt} (hfr : d + 1 ≤ R.frames) (hlo : 64 * (d + 1) ≤ R.locals) (hm : μ'.2.2.1 ≤ 40) : d + 1 ≤ R.frames ∧ 8 + (μ'.2.2.1 + 11) + 64 * d ≤ R.locals := ⟨hfr, by omega⟩
theorem x_invV {μ' : Mt} {n idx h ci : Nat} {av : List Value} {r1 : Option Value} {M1 : Mem} (hd : decode μ.2.1 pc = .ok (.invokevirtual idx, 3)) (hm : mLV μ.1.cls idx μ' n) (hn : av.length = n) (ho : ks[h]? = some (0, ci)) (hc : (classes[ci]?).map (fun q => q.1) = some μ'.1.cls) (hst : (st.map fun v => v.category).sum ≤ 8) (hsl : (lg_sl (.ref h :: av)).length ≤ μ'.2.2.1) (hk : ks.length ≤ ks'.length ∧ kz ks ≤ kz ks')
    (hE : Ev X d μ' 0 (lv_args 0 (.ref h :: av)) [] ks M r1 ks M1) (k : Ev X (d + 1) μ (pc + 3) L (r1.toList ++ st) ks M1 r ks' M') : Ev X (d + 1) μ pc L (av.reverse ++ .ref h :: st) ks M r ks' M' := by
  intro l p e R s m args below meth c D dA σ A H locs cells slots mc ms ls Q C hP hD hS hl h1 h2 h3 h4 hret
  obtain ⟨hx, hb, hml, hown, hts, hr, hlk, hnm, hK, hA, hX, hfr, hlo⟩ := id C
  have hc0 := hX.2.2.2.1.2
  have hFc : ∀ q, va_A (wld dA σ ks M) H.size q → A q := by
    intro q h
    rcases h with ⟨j, x, h⟩ | h
    · exact hD.2 j _ h
    · exact hA q (Nat.le_trans hS.1 h)
  have hcs : cells + (ks.length - ks.length) ≤ R.cells ∧ slots + (kz ks - kz ks) ≤ R.slots := by omega
  have hM := met_of hE hm.1.2.1 hsl (Nat.le_refl _) (Nat.le_refl _) l D dA σ H.size
  obtain ⟨q, hq, hqc⟩ : ∃ q : vw_C, classes[ci]? = some q ∧ q.1 = μ'.1.cls := by
    cases hz : classes[ci]? with
    | none => rw [hz] at hc; cases hc
    | some q => rw [hz] at hc; exact ⟨q, rfl, Option.some.inj hc⟩
  have hrec := va_recv hK hP hq (wld_at ho)
  rw [hqc] at hrec
  have cw := cwV (R := R) (Ts := GW) (own := μ.1.cls) (index := idx) (C := μ'.1.cls) (y := μ'.1) (bytes := μ'.2.1) (maxL := μ'.2.2.1) (ret := μ'.2.2.2) (ws := wsM μ') (rm := { frames := d, cells := ks.length - ks.length, slots := kz ks - kz ks, locals := 64 * d }) n hts (gw_good (wsV_in hm)) rfl rfl rfl ⟨rfl, hm.1.1⟩ (room_ok hfr hlo hm.1.2.2.1)
  have hrun := va_runV (e := e) (below := below) (meth := meth) (locs := locs) (As := av.map (rv σ)) (rest := st.map (rv σ)) (b := σ.1 h) (g := F0 m pc ls ((av.reverse ++ .ref h :: st).map (rv σ))) ⟨hx, hb, hml, hown, hts⟩ hM cw ⟨pcM_blind, hrec, fun U hU hW => ⟨rfl, by rw [hU], by rw [hU]; exact hP, va_K.moved hW.alike hK, hD.weaken (fun _ _ _ _ => trivial), hX.call hS hU hW hFc⟩⟩ rfl (by rw [List.length_map]; exact hn) hl.1 (by simp [rv]) (lv_room (by rw [cat_sum hc0]; exact hst)) hd hcs
  rw [Nat.sub_self, Nat.sub_self] at hrun
  exact x_after k C hP hD hS hl h1 h2 h3 h4 hret hrun
theorem x_invVS {μ' : Mt} {n idx h i : Nat} {av : List Value} {r1 : Option Value} {M1 : Mem} (hd : decode μ.2.1 pc = .ok (.invokevirtual idx, 3)) (hm : mLV μ.1.cls idx μ' n) (hn : av.length = n) (hi : i < 2) (hh : h = 1000 + 2 * i) (hcl : μ'.1.cls = "java/lang/String") (hst : (st.map fun v => v.category).sum ≤ 8) (hsl : (lg_sl (.ref h :: av)).length ≤ μ'.2.2.1) (hk : ks.length ≤ ks'.length ∧ kz ks ≤ kz ks')
    (hE : Ev X d μ' 0 (lv_args 0 (.ref h :: av)) [] ks M r1 ks M1) (k : Ev X (d + 1) μ (pc + 3) L (r1.toList ++ st) ks M1 r ks' M') : Ev X (d + 1) μ pc L (av.reverse ++ .ref h :: st) ks M r ks' M' := by
  intro l p e R s m args below meth c D dA σ A H locs cells slots mc ms ls Q C hP hD hS hl h1 h2 h3 h4 hret
  obtain ⟨hx, hb, hml, hown, hts, hr, hlk, hnm, hK, hA, hX, hfr, hlo⟩ := id C
  have hc0 := hX.2.2.2.1.2
  have hFc : ∀ q, va_A (wld dA σ ks M) H.size q → A q := by
    intro q h
    rcases h with ⟨j, x, h⟩ | h
    · exact hD.2 j _ h
    · exact hA q (Nat.le_trans hS.1 h)
  have hcs : cells + (ks.length - ks.length) ≤ R.cells ∧ slots + (kz ks - kz ks) ≤ R.slots := by omega
  have hM := met_of hE hm.1.2.1 hsl (Nat.le_refl _) (Nat.le_refl _) l D dA σ H.size
  have hrec := vk_recv hX.1 hi hS
  rw [← hcl] at hrec
  have hrec : ∃ cell : Cell, H[σ.1 h]? = some cell ∧ cell.vm.isStatics = false ∧ s.vm.findClass μ'.1.cls = some cell.cls := by rw [hh]; exact hrec
  have cw := cwV (R := R) (Ts := GW) (own := μ.1.cls) (index := idx) (C := μ'.1.cls) (y := μ'.1) (bytes := μ'.2.1) (maxL := μ'.2.2.1) (ret := μ'.2.2.2) (ws := wsM μ') (rm := { frames := d, cells := ks.length - ks.length, slots := kz ks - kz ks, locals := 64 * d }) n hts (gw_good (wsV_in hm)) rfl rfl rfl ⟨rfl, hm.1.1⟩ (room_ok hfr hlo hm.1.2.2.1)
  have hrun := va_runV (e := e) (below := below) (meth := meth) (locs := locs) (As := av.map (rv σ)) (rest := st.map (rv σ)) (b := σ.1 h) (g := F0 m pc ls ((av.reverse ++ .ref h :: st).map (rv σ))) ⟨hx, hb, hml, hown, hts⟩ hM cw ⟨pcM_blind, hrec, fun U hU hW => ⟨rfl, by rw [hU], by rw [hU]; exact hP, va_K.moved hW.alike hK, hD.weaken (fun _ _ _ _ => trivial), hX.call hS hU hW hFc⟩⟩ rfl (by rw [List.length_map]; exact hn) hl.1 (by simp [rv]) (lv_room (by rw [cat_sum hc0]; exact hst)) hd hcs
  rw [Nat.sub_self, Nat.sub_self] at hrun
  exact x_after k C hP hD hS hl h1 h2 h3 h4 hret hrun
theorem x_invS {μ' : Mt} {n idx : Nat} {av : List Value} {r1 : Option Value} {M1 : Mem} (hd : decode μ.2.1 pc = .ok (.invokestatic idx, 3)) (hm : mLS μ.1.cls idx μ' n) (hn : av.length = n) (hst : (st.map fun v => v.category).sum ≤ 8) (hsl : (lg_sl av).length ≤ μ'.2.2.1) (hk : ks.length ≤ ks'.length ∧ kz ks ≤ kz ks')
    (hE : Ev X d μ' 0 (lv_args 0 av) [] ks M r1 ks M1) (k : Ev X (d + 1) μ (pc + 3) L (r1.toList ++ st) ks M1 r ks' M') : Ev X (d + 1) μ pc L (av.reverse ++ st) ks M r ks' M' := by
  intro l p e R s m args below meth c D dA σ A H locs cells slots mc ms ls Q C hP hD hS hl h1 h2 h3 h4 hret
  obtain ⟨hx, hb, hml, hown, hts, hr, hlk, hnm, hK, hA, hX, hfr, hlo⟩ := id C
  have hc0 := hX.2.2.2.1.2
  have hFc : ∀ q, va_A (wld dA σ ks M) H.size q → A q := by
    intro q h
    rcases h with ⟨j, x, h⟩ | h
    · exact hD.2 j _ h
    · exact hA q (Nat.le_trans hS.1 h)
  have hcs : cells + (ks.length - ks.length) ≤ R.cells ∧ slots + (kz ks - kz ks) ≤ R.slots := by omega
  have hM := met_of hE hm.1.2.1 hsl (Nat.le_refl _) (Nat.le_refl _) l D dA σ H.size
  have cw := va_cwS (R := R) (Ts := GW) (own := μ.1.cls) (index := idx) (y := μ'.1) (bytes := μ'.2.1) (maxL := μ'.2.2.1) (ret := μ'.2.2.2) (ws := wsM μ') (rm := { frames := d, cells := ks.length - ks.length, slots := kz ks - kz ks, locals := 64 * d }) n hts (gw_good (wsS_in hm)) rfl rfl rfl hm.1.1 (room_ok hfr hlo hm.1.2.2.1)
  have hrun := va_runS (e := e) (below := below) (meth := meth) (locs := locs) (As := av.map (rv σ)) (rest := st.map (rv σ)) (g := F0 m pc ls ((av.reverse ++ st).map (rv σ))) ⟨hx, hb, hml, hown, hts⟩ hM cw ⟨pcM_blind, fun U hU hW => ⟨rfl, by rw [hU], by rw [hU]; exact hP, va_K.moved hW.alike hK, hD.weaken (fun _ _ _ _ => trivial), hX.call hS hU hW hFc⟩⟩ rfl (by rw [List.length_map]; exact hn) hl.1 (by simp) (lv_room (by rw [cat_sum hc0]; exact hst)) hd hcs
  rw [Nat.sub_self, Nat.sub_self] at hrun
  exact x_after k C hP hD hS hl h1 h2 h3 h4 hret hrun
theorem x_invSN {μ' : Mt} {n idx : Nat} {av : List Value} {r1 : Option Value} {M1 : Mem} (hd : decode μ.2.1 pc = .ok (.invokestatic idx, 3)) {host : String} (hm : yOK μ' n ∧ Cond.static μ'.1 ∈ GW) (hnl : Cond.methodLinkNest μ.1.cls idx μ'.1 host ∈ nestL) (hn : av.length = n) (hst : (st.map fun v => v.category).sum ≤ 8) (hsl : (lg_sl av).length ≤ μ'.2.2.1) (hk : ks.length ≤ ks'.length ∧ kz ks ≤ kz ks')
    (hE : Ev X d μ' 0 (lv_args 0 av) [] ks M r1 ks M1) (k : Ev X (d + 1) μ (pc + 3) L (r1.toList ++ st) ks M1 r ks' M') : Ev X (d + 1) μ pc L (av.reverse ++ st) ks M r ks' M' := by
  intro l p e R s m args below meth c D dA σ A H locs cells slots mc ms ls Q C hP hD hS hl h1 h2 h3 h4 hret
  obtain ⟨hx, hb, hml, hown, hts, hr, hlk, hnm, hK, hA, hX, hfr, hlo⟩ := id C
  have hc0 := hX.2.2.2.1.2
  have hFc : ∀ q, va_A (wld dA σ ks M) H.size q → A q := by
    intro q h
    rcases h with ⟨j, x, h⟩ | h
    · exact hD.2 j _ h
    · exact hA q (Nat.le_trans hS.1 h)
  have hcs : cells + (ks.length - ks.length) ≤ R.cells ∧ slots + (kz ks - kz ks) ≤ R.slots := by omega
  have hM := met_of hE hm.1.2.1 hsl (Nat.le_refl _) (Nat.le_refl _) l D dA σ H.size
  have cw := va_cnB (R := R) (args := args) (s := s) (Ts := GW) (own := μ.1.cls) (index := idx) (host := host) (y := μ'.1) (bytes := μ'.2.1) (maxL := μ'.2.2.1) (ret := μ'.2.2.2) (ws := wsM μ') (rm := { frames := d, cells := ks.length - ks.length, slots := kz ks - kz ks, locals := 64 * d }) (mc := ks.length - ks.length) (ms := kz ks - kz ks) n hts (gw_good (gw_wsM hm.1.2.2.2.1)) rfl rfl rfl (hX.2.2.2.2.1 _ hnl) (hts _ hm.1.2.2.2.2) hm.1.1 (room_ok hfr hlo hm.1.2.2.1)
  have hrun := va_runSN (e := e) (below := below) (meth := meth) (locs := locs) (As := av.map (rv σ)) (rest := st.map (rv σ)) (g := F0 m pc ls ((av.reverse ++ st).map (rv σ))) ⟨hx, hb, hml, hown, hts⟩ hM ⟨cw, hts _ hm.2, trivial⟩ ⟨pcM_blind, fun U hU hW => ⟨rfl, by rw [hU], by rw [hU]; exact hP, va_K.moved hW.alike hK, hD.weaken (fun _ _ _ _ => trivial), hX.call hS hU hW hFc⟩⟩ rfl (by rw [List.length_map]; exact hn) hl.1 (by simp) (lv_room (by rw [cat_sum hc0]; exact hst)) hd hcs
  rw [Nat.sub_self, Nat.sub_self] at hrun
  exact x_after k C hP hD hS hl h1 h2 h3 h4 hret hrun
theorem x_copy {idx h h' n n' : Nat} {sp dp z : Int32} (hd : decode μ.2.1 pc = .ok (.invokestatic idx, 3)) (hw : Cond.methodLink μ.1.cls idx arraycopyName ∈ GW ∧ Cond.native arraycopyName ∈ GW ∧ Cond.static arraycopyName ∈ GW ∧ Cond.initialized "java/lang/System" ∈ GW) (ho : ks[h]? = some (1, n)) (ho' : ks[h']? = some (1, n')) (g1 : ¬ sp < 0) (g2 : ¬ dp < 0) (g3 : ¬ z < 0) (g4 : sp.toNatClampNeg + z.toNatClampNeg ≤ n) (g5 : dp.toNatClampNeg + z.toNatClampNeg ≤ n') (hst : (st.map fun v => v.category).sum ≤ 8)
    (k : Ev X (d + 1) μ (pc + 3) L st ks (setA M h' (va_cpy (M.1 h) (M.1 h') sp.toNatClampNeg dp.toNatClampNeg z.toNatClampNeg)) r ks' M') : Ev X (d + 1) μ pc L (.int z :: .int dp :: .ref h' :: .int sp :: .ref h :: st) ks M r ks' M' := by
  intro l p e R s m args below meth c D dA σ A H locs cells slots mc ms ls Q C hP hD hS hl h1 h2 h3 h4 hret
  obtain ⟨hx, hb, hml, hown, hts, hr, hlk, hnm, hK, hA, hX, hfr, hlo⟩ := id C
  have hc0 := hX.2.2.2.1.2
  have hF1 : 1 ≤ R.frames := by omega
  have hnw : nativeFrameWords "java/lang/System" "arraycopy" 5 ≤ 40 := by decide +kernel
  have hF2 : ((st.map (rv σ)).map fun v => v.category).sum + (nativeFrameWords "java/lang/System" "arraycopy" 5 + 11) ≤ R.locals := by
    rw [cat_sum hc0]
    omega
  refine va_copyi hx hb (hml.trans hl.1.symm) hown (hts _ hw.1) (hts _ hw.2.1) (hts _ hw.2.2.1) (hts _ hw.2.2.2) hK hP hD hS h h' 1 1 (wld_at ho) (wld_at ho') rfl rfl rfl g1 g2 g3 g4 g5 (fun i _ => rfl) hF1 hF2 hd (fun H1 locs1 hP1 hD1 hS1 => ?_)
  have hwe : (wld dA σ ks M).set h' (σ.1 h', Sum.inl (dA 1, n', .inl (va_cpy (M.1 h) (M.1 h') sp.toNatClampNeg dp.toNatClampNeg z.toNatClampNeg))) = wld dA σ ks (setA M h' (va_cpy (M.1 h) (M.1 h') sp.toNatClampNeg dp.toNatClampNeg z.toNatClampNeg)) := by
    rw [← wld_set (M' := setA M h' (va_cpy (M.1 h) (M.1 h') sp.toNatClampNeg dp.toNatClampNeg z.toNatClampNeg)) ho' (fun j hj => setA_ne hj)]
    congr 2
    show _ = cE dA σ (setA M h' _) h' (1, n')
    simp [cE, setA]
  rw [hwe] at hP1 hD1
  exact k l p e R s m args below meth c D dA σ A H1 locs1 cells slots mc ms ls Q C hP1 hD1 hS1 hl h1 h2 h3 h4 hret
/-- the outside: texts, a static -/
theorem x_ldcW (hd : decode μ.2.1 pc = .ok (.ldc 15, 2)) (ho : μ.1.cls = "NinetyPlayers$Word") (k : Ev X d μ (pc + 2) L (.ref 1000 :: st) ks M r ks' M') : Ev X d μ pc L st ks M r ks' M' := by
  intro l p e R s m args below meth c D dA σ A H locs cells slots mc ms ls Q C hP hD hS hl h1 h2 h3 h4 hret
  obtain ⟨hx, hb, hml, hown, hts, hr, hlk, hnm, hK, hA, hX, hfr, hlo⟩ := id C
  exact va_ldcS hx hb hown (by rw [ho]; exact hX.2.1.1) hd (k l p e R s m args below meth c D dA σ A H locs cells slots mc ms ls Q C hP hD hS hl h1 h2 h3 h4 hret)
theorem x_ldcT (hd : decode μ.2.1 pc = .ok (.ldc 60, 2)) (ho : μ.1.cls = "NinetyPlayers$Tokens") (k : Ev X d μ (pc + 2) L (.ref 1002 :: st) ks M r ks' M') : Ev X d μ pc L st ks M r ks' M' := by
  intro l p e R s m args below meth c D dA σ A H locs cells slots mc ms ls Q C hP hD hS hl h1 h2 h3 h4 hret
  obtain ⟨hx, hb, hml, hown, hts, hr, hlk, hnm, hK, hA, hX, hfr, hlo⟩ := id C
  exact va_ldcS hx hb hown (by rw [ho]; exact hX.2.1.2) hd (k l p e R s m args below meth c D dA σ A H locs cells slots mc ms ls Q C hP hD hS hl h1 h2 h3 h4 hret)
theorem x_gsCS {idx : Nat} (hd : decode μ.2.1 pc = .ok (.getstatic idx, 3)) (hw : Cond.fieldLink μ.1.cls idx "java/lang/String" "COMPACT_STRINGS" "Z" ∈ GW) (k : Ev X d μ (pc + 3) L (.int 1 :: st) ks M r ks' M') : Ev X d μ pc L st ks M r ks' M' := by
  intro l p e R s m args below meth c D dA σ A H locs cells slots mc ms ls Q C hP hD hS hl h1 h2 h3 h4 hret
  obtain ⟨hx, hb, hml, hown, hts, hr, hlk, hnm, hK, hA, hX, hfr, hlo⟩ := id C
  exact va_gets hx hb hX.2.2.1 hS hown (hts _ hw) (fun _ h => h) hd (k l p e R s m args below meth c D dA σ A H locs cells slots mc ms ls Q C hP hD hS hl h1 h2 h3 h4 hret)
theorem x_gsFM {idx : Nat} (hd : decode μ.2.1 pc = .ok (.getstatic idx, 3)) (hw : Cond.fieldLink μ.1.cls idx "jdk/internal/util/Preconditions" "SIOOBE_FORMATTER" "Ljava/util/function/BiFunction;" ∈ GW) (k : Ev X d μ (pc + 3) L (.retAddr 0 :: st) ks M r ks' M') : Ev X d μ pc L st ks M r ks' M' := by
  intro l p e R s m args below meth c D dA σ A H locs cells slots mc ms ls Q C hP hD hS hl h1 h2 h3 h4 hret
  obtain ⟨hx, hb, hml, hown, hts, hr, hlk, hnm, hK, hA, hX, hfr, hlo⟩ := id C
  exact va_gets hx hb hX.2.2.2.1.1 hS hown (hts _ hw) (fun _ h => h) hd (k l p e R s m args below meth c D dA σ A H locs cells slots mc ms ls Q C hP hD hS hl h1 h2 h3 h4 hret)
theorem x_getSV {idx i : Nat} (hd : decode μ.2.1 pc = .ok (.getfield idx, 3)) (hi : i < 2) (hw : Cond.fieldLink μ.1.cls idx "java/lang/String" "value" "[B" ∈ GW) (k : Ev X d μ (pc + 3) L (.ref (1001 + 2 * i) :: st) ks M r ks' M') : Ev X d μ pc L (.ref (1000 + 2 * i) :: st) ks M r ks' M' := by
  intro l p e R s m args below meth c D dA σ A H locs cells slots mc ms ls Q C hP hD hS hl h1 h2 h3 h4 hret
  obtain ⟨hx, hb, hml, hown, hts, hr, hlk, hnm, hK, hA, hX, hfr, hlo⟩ := id C
  exact vk_getf hx hb (hX.1.1 i hi).2.2.1 hS hown (hts _ hw) (fun _ h => h) hd (k l p e R s m args below meth c D dA σ A H locs cells slots mc ms ls Q C hP hD hS hl h1 h2 h3 h4 hret)
theorem x_getSC {idx i : Nat} (hd : decode μ.2.1 pc = .ok (.getfield idx, 3)) (hi : i < 2) (hw : Cond.fieldLink μ.1.cls idx "java/lang/String" "coder" "B" ∈ GW) (k : Ev X d μ (pc + 3) L (.int 0 :: st) ks M r ks' M') : Ev X d μ pc L (.ref (1000 + 2 * i) :: st) ks M r ks' M' := by
  intro l p e R s m args below meth c D dA σ A H locs cells slots mc ms ls Q C hP hD hS hl h1 h2 h3 h4 hret
  obtain ⟨hx, hb, hml, hown, hts, hr, hlk, hnm, hK, hA, hX, hfr, hlo⟩ := id C
  exact vk_getf hx hb (hX.1.1 i hi).2.1 hS hown (hts _ hw) (fun _ h => h) hd (k l p e R s m args below meth c D dA σ A H locs cells slots mc ms ls Q C hP hD hS hl h1 h2 h3 h4 hret)
theorem x_baldS {i : Nat} {j : Int32} (hd : decode μ.2.1 pc = .ok (.baload, 1)) (hi : i < 2) (hin : vp_in j (lenS.getD i 0)) (k : Ev X d μ (pc + 1) L (.int ((bytS.getD i []).getD j.toNatClampNeg 0) :: st) ks M r ks' M') : Ev X d μ pc L (.int j :: .ref (1001 + 2 * i) :: st) ks M r ks' M' := by
  intro l p e R s m args below meth c D dA σ A H locs cells slots mc ms ls Q C hP hD hS hl h1 h2 h3 h4 hret
  obtain ⟨hx, hb, hml, hown, hts, hr, hlk, hnm, hK, hA, hX, hfr, hlo⟩ := id C
  exact va_tb hx hb (hX.1.1 i hi).2.2.2 hS hin rfl hd (k l p e R s m args below meth c D dA σ A H locs cells slots mc ms ls Q C hP hD hS hl h1 h2 h3 h4 hret)
theorem x_alenS {i : Nat} (hd : decode μ.2.1 pc = .ok (.arraylength, 1)) (hi : i < 2) (k : Ev X d μ (pc + 1) L (.int (Int32.ofNat (lenS.getD i 0)) :: st) ks M r ks' M') : Ev X d μ pc L (.ref (1001 + 2 * i) :: st) ks M r ks' M' := by
  intro l p e R s m args below meth c D dA σ A H locs cells slots mc ms ls Q C hP hD hS hl h1 h2 h3 h4 hret
  obtain ⟨hx, hb, hml, hown, hts, hr, hlk, hnm, hK, hA, hX, hfr, hlo⟩ := id C
  exact va_tlen hx hb (hX.1.1 i hi).2.2.2 hS rfl hd (k l p e R s m args below meth c D dA σ A H locs cells slots mc ms ls Q C hP hD hS hl h1 h2 h3 h4 hret)
end XC
end
section
/-! NEW CELLS: constructors -/
def okR (n n' : Nat) (v : Value) : Bool := match v with
  | .ref h => decide (h < n) || decide (n' ≤ h)
  | _ => true
def okS (n n' : Nat) (L : List (Nat × Value)) (st : List Value) : Bool := (L.all fun q => okR n n' q.2) && st.all (okR n n')
theorem rv_ok {σ σ' : Sg} {n n' : Nat} (h : Same σ σ' n n') {v : Value} (hv : okR n n' v = true) : rv σ' v = rv σ v := by
  cases v with
  | ref a =>
    simp only [okR, Bool.or_eq_true, decide_eq_true_eq] at hv
    simp only [rv, h.1 a hv]
  | retAddr a => simp only [rv, h.2]
  | _ => rfl
theorem rv_okL {σ σ' : Sg} {n n' : Nat} (h : Same σ σ' n n') {st : List Value} (hv : st.all (okR n n') = true) : st.map (rv σ') = st.map (rv σ) :=
  List.map_congr_left fun v hm => rv_ok h (List.all_eq_true.mp hv v hm)
theorem rv_okN {σ σ' : Sg} {n n' : Nat} (h : Same σ σ' n n') {L : List (Nat × Value)} (hv : (L.all fun q => okR n n' q.2) = true) : lvr σ' L = lvr σ L :=
  List.map_congr_left fun q hm => by rw [rv_ok h (List.all_eq_true.mp hv q hm)]
theorem okS_L {n n' : Nat} {L : List (Nat × Value)} {st : List Value} (h : okS n n' L st = true) : (L.all fun q => okR n n' q.2) = true := (Bool.and_eq_true _ _ ▸ h).1
theorem okS_st {n n' : Nat} {L : List (Nat × Value)} {st : List Value} (h : okS n n' L st = true) : st.all (okR n n') = true := (Bool.and_eq_true _ _ ▸ h).2
/-- references of the memory are handles below n -/
def RB (n : Nat) (M : Mem) : Prop := ∀ h k v, M.2.2 h k = some v → v < n
def sgX (σ : Sg) (n q : Nat) : Sg := (fun j => if j = n then q else σ.1 j, σ.2)
theorem sgX_same {σ : Sg} {n q : Nat} : Same σ (sgX σ n q) n (n + 1) := ⟨fun j hj => by simp only [sgX]; rw [if_neg (by omega)], rfl⟩
theorem cE_fresh {dA : Nat → ClassId} {σ : Sg} {M : Mem} {n q h : Nat} {kd : Nat × Nat} (hb : RB n M) (hh : h ≠ n) : cE dA (sgX σ n q) (clr M n) h kd = cE dA σ M h kd := by
  have e1 : (clr M n).1 h = M.1 h := by simp [clr, hh]
  have e2 : (clr M n).2.1 h = M.2.1 h := by simp [clr, hh]
  have e3 : (clr M n).2.2 h = M.2.2 h := by simp [clr, hh]
  have e4 : ∀ k, (M.2.2 h k).map (sgX σ n q).1 = (M.2.2 h k).map σ.1 := by
    intro k
    cases hk : M.2.2 h k with
    | none => rfl
    | some v =>
      have := hb h k v hk
      simp only [Option.map_some, sgX]
      rw [if_neg (by omega)]
  simp only [cE, fvT, e1, e2, e3, e4]
theorem wld_push {dA : Nat → ClassId} {σ : Sg} {ks : Kds} {M : Mem} {q : Nat} {kd : Nat × Nat} {E : va_E} (hb : RB ks.length M) (hE : cE dA (sgX σ ks.length q) (clr M ks.length) ks.length kd = E) : wld dA σ ks M ++ [(q, E)] = wld dA (sgX σ ks.length q) (ks ++ [kd]) (clr M ks.length) := by
  apply List.ext_getElem?
  intro j
  rcases Nat.lt_trichotomy j ks.length with hj | hj | hj
  · obtain ⟨kj, hkj⟩ : ∃ kj, ks[j]? = some kj := ⟨_, List.getElem?_eq_getElem hj⟩
    rw [List.getElem?_append_left (by rw [wld_len]; exact hj), wld_at hkj, wld_at (ks := ks ++ [kd]) (kd := kj) (by rw [List.getElem?_append_left hj]; exact hkj), cE_fresh hb (by omega)]
    simp only [sgX]
    rw [if_neg (by omega)]
  · subst hj
    rw [List.getElem?_append_right (by rw [wld_len]; exact Nat.le_refl _), wld_len, Nat.sub_self, wld_at (ks := ks ++ [kd]) (kd := kd) (by simp), hE]
    simp [sgX]
  · rw [List.getElem?_eq_none (by simp [wld_len]; omega), List.getElem?_eq_none (by rw [wld_len]; simp; omega)]
theorem kz_push (ks : Kds) (kd : Nat × Nat) : kz (ks ++ [kd]) = kz ks + (if kd.1 = 0 then nF kd.2 else kd.2) := by simp [kz]
section XA
variable {X : Nat × (Nat → Int32)} {d : Nat} {μ : Mt} {pc : Nat} {L : List (Nat × Value)} {st : List Value} {ks : Kds} {M : Mem} {r : Option Value} {ks' : Kds} {M' : Mem}
theorem dv_eq (t : FieldType) (σ : Sg) (M : Mem) (n k : Nat) (ht : t ≠ .float ∧ t ≠ .double) : defaultValue t = fvT t σ (clr M n) n k := by
  cases t <;> first | exact absurd rfl ht.1 | exact absurd rfl ht.2 | simp [defaultValue, fvT, clr, va_rf]
theorem same_step {σ σ'' : Sg} {n q n' : Nat} (hn : n + 1 ≤ n') (h : Same (sgX σ n q) σ'' (n + 1) n') : Same σ σ'' n n' := ⟨fun j hj => by
  rw [h.1 j (by omega)]
  simp only [sgX]
  rw [if_neg (by omega)], h.2⟩
theorem x_new {idx ci N : Nat} {C0 : String} {T : u_T} (hd : decode μ.2.1 pc = .ok (.new idx, 3)) (hc : cOK ci C0 T N) (hw : Cond.classLink μ.1.cls idx C0 ∈ GW ∧ Cond.instantiable C0 N ∈ GW ∧ Cond.initialized C0 ∈ GW) (hk : ks.length + 1 ≤ ks'.length ∧ kz ks + N ≤ kz ks' ∧ ks'.length ≤ 1000) (hft : ∀ k, k < N → tyT ci k ≠ .float ∧ tyT ci k ≠ .double) (hb0 : RB ks.length M) (hok : okS ks.length (ks.length + 1) L st = true)
    (k : Ev X d μ (pc + 3) L (.ref ks.length :: st) (ks ++ [(0, ci)]) (clr M ks.length) r ks' M') : Ev X d μ pc L st ks M r ks' M' := by
  intro l p e R s m args below meth c D dA σ A H locs cells slots mc ms ls Q C hP hD hS hl h1 h2 h3 h4 hret
  obtain ⟨hx, hb, hml, hown, hts, hr, hlk, hnm, hK, hA, hX, hfr, hlo⟩ := id C
  obtain ⟨q1, q2, q3, q4, q5, q6⟩ := hc
  subst q2
  refine va_new (C := C0) (T := T) (N := nF ci) (ci := ci) (fs := (List.range (nF ci)).map fun k => fvT (tyT ci k) (sgX σ ks.length 0) (clr M ks.length) ks.length k) hx hb hts q3 (tyT ci) q4 hown (hts _ hw.1) (hts _ hw.2.1) (hts _ hw.2.2) hK hP hD hS hA q1 (fun j hj => ?_) (by omega) (by omega) hd (fun q H1 hP1 hD1 hS1 => ?_)
  · rw [dv_eq (tyT ci j) (sgX σ ks.length 0) M ks.length j (hft j hj)]
    simp [vp_V, hj]
  · have hE : cE dA (sgX σ ks.length q) (clr M ks.length) ks.length (0, ci) = .inr (ci, (List.range (nF ci)).map fun k => fvT (tyT ci k) (sgX σ ks.length 0) (clr M ks.length) ks.length k) := by
      rw [fld_at]
      congr 2
      apply List.map_congr_left
      intro k hk0
      have hk1 := hft k (List.mem_range.mp hk0)
      rw [← dv_eq _ _ _ _ _ hk1, ← dv_eq _ _ _ _ _ hk1]
    rw [wld_push hb0 hE] at hP1 hD1
    have hsm : Same σ (sgX σ ks.length q) ks.length (ks.length + 1) := sgX_same
    have es : F0 m (pc + 3) ls (.ref q :: st.map (rv σ)) = F0 m (pc + 3) ls ((.ref ks.length :: st).map (rv (sgX σ ks.length q))) := by
      rw [List.map_cons, rv_okL hsm (okS_st hok)]
      simp [rv, sgX]
    rw [es]
    refine k l p e R s m args below meth c D dA (sgX σ ks.length q) A H1 locs (cells + 1) (slots + nF ci) mc ms ls Q ⟨hx, hb, hml, hown, hts, hr, hlk, hnm, hK, hA, hX.sig (fun j hj => hsm.1 j (by omega)) rfl, hfr, hlo⟩ hP1 hD1 hS1 (by rw [rv_okN hsm (okS_L hok)]; exact hl) (by rw [List.length_append]; simp; omega) (by rw [kz_push]; simp; omega) h3 h4 ?_
    intro pc' ls' σ' H' locs' g1 g2 g3 g4 g5 g6
    rw [List.length_append] at g3
    exact hret pc' ls' σ' H' locs' g1 g2 (same_step hk.1 g3) g4 g5 g6
def atag (a : ArrayType) : Nat := match a with
  | .int => 1
  | .long => 2
  | .byte => 3
  | .boolean => 4
  | _ => 0
theorem x_newa {a : ArrayType} {n : Int32} {N : Nat} (hd : decode μ.2.1 pc = .ok (.newarray a, 2)) (ha : a = .int ∨ a = .long ∨ a = .byte ∨ a = .boolean) (hw : Cond.arrayClass (newarray.typeOf a) ∈ GW) (hn : ¬ n < 0) (hN : n.toNatClampNeg = N) (hN2 : N ≤ 10000) (hk : ks.length + 1 ≤ ks'.length ∧ kz ks + N ≤ kz ks' ∧ ks'.length ≤ 1000) (hb0 : RB ks.length M) (hok : okS ks.length (ks.length + 1) L st = true)
    (k : Ev X d μ (pc + 2) L (.ref ks.length :: st) (ks ++ [(atag a, N)]) (clr M ks.length) r ks' M') : Ev X d μ pc L (.int n :: st) ks M r ks' M' := by
  intro l p e R s m args below meth c D dA σ A H locs cells slots mc ms ls Q C hP hD hS hl h1 h2 h3 h4 hret
  obtain ⟨hx, hb, hml, hown, hts, hr, hlk, hnm, hK, hA, hX, hfr, hlo⟩ := id C
  have ht0 : ¬ atag a = 0 := by rcases ha with rfl | rfl | rfl | rfl <;> decide
  have hcb : componentBytes (newarray.typeOf a) ≤ 8 := by rcases ha with rfl | rfl | rfl | rfl <;> decide
  have hbytes : N * componentBytes (newarray.typeOf a) ≤ 536870912 := Nat.le_trans (Nat.mul_le_mul hN2 hcb) (by decide)
  obtain ⟨a0, ha0, hq⟩ : ∃ a0 : vp_A, (∀ cA : ClassId, vp_cell cA a0 = arrV cA N (fun _ => defaultValue (newarray.typeOf a))) ∧ ∀ (q : Nat), cE dA (sgX σ ks.length q) (clr M ks.length) ks.length (atag a, N) = .inl (dA (atag a), a0) := by
    rcases ha with rfl | rfl | rfl | rfl
    · exact ⟨(N, .inl fun _ => 0), fun _ => rfl, fun q => by simp [cE, atag, clr]⟩
    · exact ⟨(N, .inr (.inl fun _ => 0)), fun _ => rfl, fun q => by simp [cE, atag, clr]⟩
    · exact ⟨(N, .inl fun _ => 0), fun _ => rfl, fun q => by simp [cE, atag, clr]⟩
    · exact ⟨(N, .inl fun _ => 0), fun _ => rfl, fun q => by simp [cE, atag, clr]⟩
  refine va_newa (a0 := a0) hx hb (hts _ hw) rfl hK hP hD hS hA ha0 hn hN hbytes (by omega) (by omega) hd (fun q cA H1 hK1 hP1 hD1 hS1 => ?_)
  have hcA : cA = dA (atag a) := by
    have z1 := (hK1.2 6 (cA, newarray.typeOf a) (by rw [List.getElem?_append_right (by simp [tyL])]; simp [tyL])).2
    have z2 := (hK.2 (atag a) (dA (atag a), newarray.typeOf a) (by rcases ha with rfl | rfl | rfl | rfl <;> rfl)).2
    rcases ha with rfl | rfl | rfl | rfl <;> exact Option.some.inj (Eq.trans (Eq.symm z1) z2)
  subst hcA
  rw [wld_push hb0 (hq q)] at hP1 hD1
  have hsm : Same σ (sgX σ ks.length q) ks.length (ks.length + 1) := sgX_same
  have es : F0 m (pc + 2) ls (.ref q :: st.map (rv σ)) = F0 m (pc + 2) ls ((.ref ks.length :: st).map (rv (sgX σ ks.length q))) := by
    rw [List.map_cons, rv_okL hsm (okS_st hok)]
    simp [rv, sgX]
  rw [es]
  refine k l p e R s m args below meth c D dA (sgX σ ks.length q) A H1 locs (cells + 1) (slots + N) mc ms ls Q ⟨hx, hb, hml, hown, hts, hr, hlk, hnm, hK, hA, hX.sig (fun j hj => hsm.1 j (by omega)) rfl, hfr, hlo⟩ hP1 hD1 hS1 (by rw [rv_okN hsm (okS_L hok)]; exact hl) (by rw [List.length_append]; simp; omega) (by rw [kz_push, if_neg ht0]; show slots + N + kz ks' = ms + (kz ks + N); omega) h3 h4 ?_
  intro pc' ls' σ' H' locs' g1 g2 g3 g4 g5 g6
  rw [List.length_append] at g3
  exact hret pc' ls' σ' H' locs' g1 g2 (same_step hk.1 g3) g4 g5 g6
theorem x_newq {idx : Nat} {n : Int32} {N : Nat} (hd : decode μ.2.1 pc = .ok (.anewarray idx, 3)) (hw : Cond.classLink μ.1.cls idx "NinetyPlayers$Laying" ∈ GW) (hn : ¬ n < 0) (hN : n.toNatClampNeg = N) (hN2 : N ≤ 10000) (hk : ks.length + 1 ≤ ks'.length ∧ kz ks + N ≤ kz ks' ∧ ks'.length ≤ 1000) (hb0 : RB ks.length M) (hok : okS ks.length (ks.length + 1) L st = true)
    (k : Ev X d μ (pc + 3) L (.ref ks.length :: st) (ks ++ [(5, N)]) (clr M ks.length) r ks' M') : Ev X d μ pc L (.int n :: st) ks M r ks' M' := by
  intro l p e R s m args below meth c D dA σ A H locs cells slots mc ms ls Q C hP hD hS hl h1 h2 h3 h4 hret
  obtain ⟨hx, hb, hml, hown, hts, hr, hlk, hnm, hK, hA, hX, hfr, hlo⟩ := id C
  have hq : ∀ q : Nat, cE dA (sgX σ ks.length q) (clr M ks.length) ks.length (5, N) = .inl (dA 5, N, .inr (.inr (.inr (.inr fun _ => none)))) := fun q => by simp [cE, clr]
  refine va_newq hx hb hown (hts _ hw) hX.2.2.2.2.2.1 hK hP hD hS hA hn hN (by omega) (by omega) (by omega) hd (fun q cA H1 hK1 hP1 hD1 hS1 => ?_)
  have hcA : cA = dA 5 := by
    obtain ⟨_, _, -, -, -, z1⟩ := (hK1.2 6 (cA, .object "NinetyPlayers$Laying") (by rw [List.getElem?_append_right (by simp [tyL])]; simp [tyL])).2
    obtain ⟨_, _, -, -, -, z2⟩ := (hK.2 5 (dA 5, .object "NinetyPlayers$Laying") rfl).2
    exact Option.some.inj (Eq.trans (Eq.symm z1) z2)
  subst hcA
  rw [wld_push hb0 (hq q)] at hP1 hD1
  have hsm : Same σ (sgX σ ks.length q) ks.length (ks.length + 1) := sgX_same
  have es : F0 m (pc + 3) ls (.ref q :: st.map (rv σ)) = F0 m (pc + 3) ls ((.ref ks.length :: st).map (rv (sgX σ ks.length q))) := by
    rw [List.map_cons, rv_okL hsm (okS_st hok)]
    simp [rv, sgX]
  rw [es]
  refine k l p e R s m args below meth c D dA (sgX σ ks.length q) A H1 locs (cells + 1) (slots + N) mc ms ls Q ⟨hx, hb, hml, hown, hts, hr, hlk, hnm, hK, hA, hX.sig (fun j hj => hsm.1 j (by omega)) rfl, hfr, hlo⟩ hP1 hD1 hS1 (by rw [rv_okN hsm (okS_L hok)]; exact hl) (by rw [List.length_append]; simp; omega) (by rw [kz_push]; simp; omega) h3 h4 ?_
  intro pc' ls' σ' H' locs' g1 g2 g3 g4 g5 g6
  rw [List.length_append] at g3
  exact hret pc' ls' σ' H' locs' g1 g2 (same_step hk.1 g3) g4 g5 g6
theorem x_aast {h n x : Nat} {i : Int32} (hd : decode μ.2.1 pc = .ok (.aastore, 1)) (ho : ks[h]? = some (5, n)) (hv : ks[x]? = some (0, 5)) (hin : vp_in i n) (k : Ev X d μ (pc + 1) L st ks (setR M h i.toNatClampNeg (some x)) r ks' M') : Ev X d μ pc L (.ref x :: .int i :: .ref h :: st) ks M r ks' M' := by
  intro l p e R s m args below meth c D dA σ A H locs cells slots mc ms ls Q C hP hD hS hl h1 h2 h3 h4 hret
  obtain ⟨hx, hb, hml, hown, hts, hr, hlk, hnm, hK, hA, hX, hfr, hlo⟩ := id C
  refine va_astq (r := ("NinetyPlayers$Laying", cT5, 6)) hx hb hK hP hD hS h 5 x 5 (wld_at ho) rfl (wld_at hv) rfl hin hd (fun H1 locs1 hP1 hD1 hS1 => ?_)
  have hwe : (wld dA σ ks M).set h (σ.1 h, Sum.inl (dA 5, n, .inr (.inr (.inr (.inr (va_up (fun j => (M.2.2 h j).map σ.1) i.toNatClampNeg (some (σ.1 x)))))))) = wld dA σ ks (setR M h i.toNatClampNeg (some x)) := by
    rw [← wld_set (M' := setR M h i.toNatClampNeg (some x)) ho (fun j hj => setR_ne hj)]
    congr 2
    show _ = cE dA σ (setR M h _ _) h (5, n)
    simp only [cE, setR_R]
    simp
    funext j
    by_cases hj : j = i.toNatClampNeg <;> simp [va_up, hj]
  rw [hwe] at hP1 hD1
  exact k l p e R s m args below meth c D dA σ A H1 locs1 cells slots mc ms ls Q C hP1 hD1 hS1 hl h1 h2 h3 h4 hret
theorem x_oinit {idx h : Nat} (hd : decode μ.2.1 pc = .ok (.invokespecial idx, 3)) (hw : Cond.methodLink μ.1.cls idx objectInit ∈ GW ∧ Cond.instanceMethod objectInit ∈ GW ∧ Cond.code objectInit ⟨#[0xb1]⟩ 1 none ∈ GW) (hst : (st.map fun v => v.category).sum ≤ 8) (k : Ev X (d + 1) μ (pc + 3) L st ks M r ks' M') : Ev X (d + 1) μ pc L (.ref h :: st) ks M r ks' M' := by
  intro l p e R s m args below meth c D dA σ A H locs cells slots mc ms ls Q C hP hD hS hl h1 h2 h3 h4 hret
  obtain ⟨hx, hb, hml, hown, hts, hr, hlk, hnm, hK, hA, hX, hfr, hlo⟩ := id C
  have hF : 2 * (F0 m pc ls (.ref (σ.1 h) :: st.map (rv σ))).monitorRoom + ((st.map (rv σ)).map fun v => v.category).sum + 12 ≤ R.locals := by
    rw [cat_sum hX.2.2.2.1.2]
    show 2 * 0 + _ + 12 ≤ _
    omega
  exact W.objInit hx hb hown (hts _ hw.1) (hts _ hw.2.1) (hts _ hw.2.2) rfl (hl.1.trans hml.symm) rfl hd (by omega) hF (k l p e R s m args below meth c D dA σ A H locs cells slots mc ms ls Q C hP hD hS hl h1 h2 h3 h4 hret)
/-- behind a call that makes cells -/
theorem x_afterA {r1 : Option Value} {ks1 : Kds} {M1 : Mem} (k : Ev X d μ (pc + 3) L (r1.toList ++ st) ks1 M1 r ks' M') (hok : okS ks.length ks1.length L st = true) (hk : ks.length ≤ ks1.length ∧ kz ks ≤ kz ks1 ∧ ks1.length ≤ ks'.length ∧ ks'.length ≤ 1000)
    {l : Launch} {p : Program} {e : Env} {R : Room} {s : State} {m : MethodId} {args : Array Value} {below : List Frame} {meth : Method} {c : Code} {D : va_G} {dA : Nat → ClassId} {σ : Sg} {A : Nat → Prop} {H : Heap} {locs : List Loc} {cells slots mc ms : Nat} {ls : Array Slot} {Q : State → Prop} {st0 : List Value} {a : Array Value}
    (C : Cx X d μ p R s m args meth c D dA σ A) (hD : va_D A (wld dA σ ks M)) (hS : va_S A s.heap H locs) (hl : lv_has ls μ.2.2.1 (lvr σ L)) (h1 : cells + ks'.length = mc + ks.length) (h2 : slots + kz ks' = ms + kz ks) (h3 : mc ≤ R.cells) (h4 : ms ≤ R.slots)
    (hret : ∀ (pc' : Nat) (ls' : Array Slot) (σ' : Sg) (H' : Heap) (locs' : List Loc), decode μ.2.1 pc' = .ok (rIns μ.2.2.2, 1) → rOK μ.2.2.2 r → Same σ σ' ks.length ks'.length → va_P D classes (wld dA σ' ks' M') H' → va_D A (wld dA σ' ks' M') → va_S A s.heap H' locs' →
      W p l e R s m args below meth c H' locs' mc ms Q (F0 m pc' ls' (r.toList.map (rv σ'))))
    (hrun : va_Run p l e R s m args below meth c H locs cells slots (ks1.length - ks.length) (kz ks1 - kz ks) (F0 m pc ls st0) (st.map (rv σ)) (QcM D dA σ ks M H.size r1 ks1 M1 a) (va_A (wld dA σ ks M) H.size)) :
    W p l e R s m args below meth c H locs cells slots Q (F0 m pc ls st0) := by
  obtain ⟨hx, hb, hml, hown, hts, hr, hlk, hnm, hK, hA, hX, hfr, hlo⟩ := id C
  have hFc : ∀ q, va_A (wld dA σ ks M) H.size q → A q := by
    intro q h
    rcases h with ⟨j, x, h⟩ | h
    · exact hD.2 j _ h
    · exact hA q (Nat.le_trans hS.1 h)
  intro T hT Xs
  obtain ⟨v, st₀, t, T', Lc, h0, X', hL, e1, e2, ⟨⟨σ', hsm, hv, hP1, hD1⟩, hz, hkp⟩, go⟩ := hrun T hT Xs
  have hv' : v = r1.map (rv σ') := Outcome.returned.inj hv
  subst hv'
  rw [h0] at hz hkp
  have hS1 : va_S A s.heap T'.heap (locs ++ Lc) := ⟨Nat.le_trans hS.1 (by rw [e1]; exact hz), fun q g1 g2 => by
      rw [e1, hkp q (Nat.lt_of_lt_of_le g1 hS.1) (fun z => g2 (hFc q z))]
      exact hS.2.1 q g1 g2, fun q hq => by
      rcases List.mem_append.mp hq with h | h
      · exact hS.2.2 q h
      · exact hFc _ (hL q h)⟩
  have es : ((r1.map (rv σ')).toList ++ st.map (rv σ)) = (r1.toList ++ st).map (rv σ') := by
    rw [List.map_append, rv_okL hsm (okS_st hok)]
    cases r1 <;> simp
  obtain ⟨t2, a1, b1⟩ := k l p e R s m args below meth c D dA σ' A T'.heap (locs ++ Lc) (cells + (ks1.length - ks.length)) (slots + (kz ks1 - kz ks)) mc ms ls Q ⟨hx, hb, hml, hown, hts, hr, hlk, hnm, hK, hA, hX.sig (fun j hj => hsm.1 j (by omega)) hsm.2, hfr, hlo⟩ (by rw [e1]; exact hP1) (hD1.weaken (fun _ q _ h => hFc q.1 h)) hS1 (by rw [rv_okN hsm (okS_L hok)]; exact hl) (by omega) (by omega) h3 h4 (fun pc' ls' σ'' H' locs' g1 g2 g3 g4 g5 g6 => hret pc' ls' σ'' H' locs' g1 g2 ⟨fun j hj => by
      rw [g3.1 j (by omega), hsm.1 j (by omega)], g3.2.trans hsm.2⟩ g4 g5 g6) T' rfl X'
  refine ⟨t2, go t2 ?_, b1⟩
  show Steps p.tables e below (T'.setTop (F0 m (pc + 3) ls ((r1.map (rv σ')).toList ++ st.map (rv σ)))) t2
  rw [es]
  exact a1
theorem x_invI {μ' : Mt} {n idx h : Nat} {av : List Value} {ks1 : Kds} {M1 : Mem} (hd : decode μ.2.1 pc = .ok (.invokespecial idx, 3)) (hm : mLI μ.1.cls idx μ' n) (hn : av.length = n) (hrt : μ'.2.2.2 = none) (hst : (st.map fun v => v.category).sum ≤ 8) (hsl : (lg_sl (.ref h :: av)).length ≤ μ'.2.2.1) (hok : okS ks.length ks1.length L st = true) (hk : ks.length ≤ ks1.length ∧ kz ks ≤ kz ks1 ∧ ks1.length ≤ ks'.length ∧ ks'.length ≤ 1000) (hk2 : kz ks1 ≤ kz ks')
    (hE : Ev X d μ' 0 (lv_args 0 (.ref h :: av)) [] ks M none ks1 M1) (k : Ev X (d + 1) μ (pc + 3) L st ks1 M1 r ks' M') : Ev X (d + 1) μ pc L (av.reverse ++ .ref h :: st) ks M r ks' M' := by
  intro l p e R s m args below meth c D dA σ A H locs cells slots mc ms ls Q C hP hD hS hl h1 h2 h3 h4 hret
  obtain ⟨hx, hb, hml, hown, hts, hr, hlk, hnm, hK, hA, hX, hfr, hlo⟩ := id C
  have hc0 := hX.2.2.2.1.2
  have hFc : ∀ q, va_A (wld dA σ ks M) H.size q → A q := by
    intro q h
    rcases h with ⟨j, x, h⟩ | h
    · exact hD.2 j _ h
    · exact hA q (Nat.le_trans hS.1 h)
  have hcs : cells + (ks1.length - ks.length) ≤ R.cells ∧ slots + (kz ks1 - kz ks) ≤ R.slots := by omega
  have hM := met_of hE hm.1.2.1 hsl hk.1 hk.2.1 l D dA σ H.size
  obtain ⟨⟨hy, hpn, hmx, hcd, hini⟩, hlk1, hins, hnm1⟩ := hm
  obtain ⟨y, by_, ml, rt⟩ := μ'
  obtain rfl : rt = none := hrt
  have cw := cwI (R := R) (Ts := GW) (own := μ.1.cls) (index := idx) (y := y) (bytes := by_) (maxL := ml) (ws := wsM (y, by_, ml, none)) (rm := { frames := d, cells := ks1.length - ks.length, slots := kz ks1 - kz ks, locals := 64 * d }) n hts (gw_good (gw_wsM hcd)) rfl rfl rfl (hts _ hini) (hts _ hlk1) (hts _ hins) hnm1 hy (room_ok (μ' := (y, by_, ml, none)) hfr hlo hmx)
  have hrun := va_runI (e := e) (below := below) (meth := meth) (locs := locs) (As := av.map (rv σ)) (rest := st.map (rv σ)) (b := σ.1 h) (g := F0 m pc ls ((av.reverse ++ .ref h :: st).map (rv σ))) ⟨hx, hb, hml, hown, hts⟩ hM cw ⟨pcM_blind, fun U hU hW => ⟨rfl, by rw [hU], by rw [hU]; exact hP, va_K.moved hW.alike hK, hD.weaken (fun _ _ _ _ => trivial), hX.call hS hU hW hFc⟩⟩ rfl (by rw [List.length_map]; exact hn) hl.1 (by simp [rv]) (lv_room (by rw [cat_sum hc0]; exact hst)) hd hcs
  exact x_afterA (r1 := none) k hok hk C hD hS hl h1 h2 h3 h4 hret hrun
theorem x_invIN {μ' : Mt} {n idx h : Nat} {av : List Value} {host : String} {ks1 : Kds} {M1 : Mem} (hd : decode μ.2.1 pc = .ok (.invokespecial idx, 3)) (hm : yOK μ' n ∧ Cond.instanceMethod μ'.1 ∈ GW ∧ μ'.1.name = "<init>") (hnl : Cond.methodLinkNest μ.1.cls idx μ'.1 host ∈ nestL) (hn : av.length = n) (hrt : μ'.2.2.2 = none) (hst : (st.map fun v => v.category).sum ≤ 8) (hsl : (lg_sl (.ref h :: av)).length ≤ μ'.2.2.1) (hok : okS ks.length ks1.length L st = true) (hk : ks.length ≤ ks1.length ∧ kz ks ≤ kz ks1 ∧ ks1.length ≤ ks'.length ∧ ks'.length ≤ 1000) (hk2 : kz ks1 ≤ kz ks')
    (hE : Ev X d μ' 0 (lv_args 0 (.ref h :: av)) [] ks M none ks1 M1) (k : Ev X (d + 1) μ (pc + 3) L st ks1 M1 r ks' M') : Ev X (d + 1) μ pc L (av.reverse ++ .ref h :: st) ks M r ks' M' := by
  intro l p e R s m args below meth c D dA σ A H locs cells slots mc ms ls Q C hP hD hS hl h1 h2 h3 h4 hret
  obtain ⟨hx, hb, hml, hown, hts, hr, hlk, hnm, hK, hA, hX, hfr, hlo⟩ := id C
  have hc0 := hX.2.2.2.1.2
  have hFc : ∀ q, va_A (wld dA σ ks M) H.size q → A q := by
    intro q h
    rcases h with ⟨j, x, h⟩ | h
    · exact hD.2 j _ h
    · exact hA q (Nat.le_trans hS.1 h)
  have hcs : cells + (ks1.length - ks.length) ≤ R.cells ∧ slots + (kz ks1 - kz ks) ≤ R.slots := by omega
  have hM := met_of hE hm.1.2.1 hsl hk.1 hk.2.1 l D dA σ H.size
  obtain ⟨⟨hy, hpn, hmx, hcd, hini⟩, hins, hnm1⟩ := hm
  obtain ⟨y, by_, ml, rt⟩ := μ'
  obtain rfl : rt = none := hrt
  have cw := va_cnB (R := R) (args := args) (s := s) (Ts := GW) (own := μ.1.cls) (index := idx) (host := host) (y := y) (bytes := by_) (maxL := ml) (ret := none) (ws := wsM (y, by_, ml, none)) (rm := { frames := d, cells := ks1.length - ks.length, slots := kz ks1 - kz ks, locals := 64 * d }) (mc := ks1.length - ks.length) (ms := kz ks1 - kz ks) n hts (gw_good (gw_wsM hcd)) rfl rfl rfl (hX.2.2.2.2.1 _ hnl) (hts _ hini) hy (room_ok (μ' := (y, by_, ml, none)) hfr hlo hmx)
  have hrun := va_runIN (e := e) (below := below) (meth := meth) (locs := locs) (As := av.map (rv σ)) (rest := st.map (rv σ)) (b := σ.1 h) (g := F0 m pc ls ((av.reverse ++ .ref h :: st).map (rv σ))) ⟨hx, hb, hml, hown, hts⟩ hM ⟨cw, hnm1, hts _ hins⟩ ⟨pcM_blind, fun U hU hW => ⟨rfl, by rw [hU], by rw [hU]; exact hP, va_K.moved hW.alike hK, hD.weaken (fun _ _ _ _ => trivial), hX.call hS hU hW hFc⟩⟩ rfl (by rw [List.length_map]; exact hn) hl.1 (by simp [rv]) (lv_room (by rw [cat_sum hc0]; exact hst)) hd hcs
  exact x_afterA (r1 := none) k hok hk C hD hS hl h1 h2 h3 h4 hret hrun
end XA
end
section
/-! THE STATE: ints and longs by handle and place, the handles of the score that is told and of the draft -/
abbrev St : Type := (Nat → Nat → Int32) × (Nat → Nat → Int64) × Nat × Nat
def KS : Kds := [(0, 0), (3, 1600), (0, 1), (0, 2), (2, 4), (1, 4), (2, 10), (1, 10), (1, 10), (1, 10), (1, 10), (1, 10), (0, 3), (1, 270), (1, 31), (1, 6), (0, 4), (0, 2), (2, 4), (1, 4), (2, 10), (1, 10), (1, 10), (1, 10), (1, 10), (1, 10), (0, 3), (1, 270), (1, 31), (1, 6), (0, 5), (1, 10), (1, 10), (1, 10), (1, 10), (5, 3), (0, 5), (1, 10), (1, 10), (1, 10), (1, 10), (0, 5), (1, 10), (1, 10), (1, 10), (1, 10), (0, 5), (1, 10), (1, 10), (1, 10), (1, 10), (0, 6), (1, 40), (1, 40), (1, 40), (1, 40), (0, 7), (1, 10), (1, 10), (1, 10), (1, 12), (1, 10), (0, 8), (1, 10), (1, 10), (1, 10), (1, 10), (0, 9), (1, 12), (0, 10), (1, 10), (1, 30), (1, 30), (4, 30), (1, 30), (1, 30), (1, 30), (1, 10), (0, 11), (1, 1600), (2, 14), (1, 320), (1, 320), (1, 320), (1, 320), (1, 160), (1, 64), (1, 6), (1, 4), (1, 10), (1, 10), (1, 10), (1, 10), (1, 10), (1, 4), (1, 10), (1, 10), (1, 10), (1, 10), (1, 10), (1, 41), (1, 41), (1, 12), (1, 12), (1, 1640), (1, 10), (1, 10), (1, 10), (1, 30), (1, 30), (1, 30), (1, 30), (4, 30), (1, 30), (1, 10), (4, 3), (1, 123)]
def refT : List (Nat × Nat) := [(0, 1), (2, 2), (4, 30), (5, 35), (6, 51), (7, 56), (8, 61), (9, 62), (10, 67), (11, 69), (12, 77), (2002, 16), (3007, 4), (3008, 5), (3009, 6), (3010, 7), (3011, 8), (3012, 9), (3013, 10), (3014, 11), (3015, 12), (12002, 13), (12003, 14), (12004, 15), (16000, 1), (17007, 18), (17008, 19), (17009, 20), (17010, 21), (17011, 22), (17012, 23), (17013, 24), (17014, 25), (17015, 26), (26002, 27), (26003, 28), (26004, 29), (30002, 31), (30003, 32), (30004, 33), (30005, 34), (35000, 36), (35001, 41), (35002, 46), (36002, 37), (36003, 38), (36004, 39), (36005, 40), (41002, 42), (41003, 43), (41004, 44), (41005, 45), (46002, 47), (46003, 48), (46004, 49), (46005, 50), (51002, 52), (51003, 53), (51004, 54), (51005, 55), (56008, 57), (56009, 58), (56010, 59), (56011, 60), (62000, 56), (62001, 61), (62005, 63), (62006, 64), (62007, 65), (62008, 66), (67000, 56), (67001, 68), (69003, 70), (69004, 71), (69005, 72), (69006, 73), (69007, 74), (69008, 75), (69009, 76), (78000, 79), (78010, 80), (78011, 81), (78012, 82), (78013, 83), (78014, 84), (78015, 85), (78016, 86), (78026, 87), (78027, 88), (78028, 89), (78029, 90), (78030, 91), (78031, 92), (78032, 93), (78033, 94), (78034, 95), (78035, 96), (78036, 97), (78037, 98), (78038, 99), (78058, 100), (78059, 101), (78060, 102), (78061, 103), (78062, 104), (78065, 105), (78066, 106), (78067, 107), (78069, 108), (78070, 109), (78071, 110), (78072, 111), (78073, 112), (78076, 113), (78077, 114), (78078, 115), (78079, 116)]
def RR (t dr h k : Nat) : Option Nat := if h * 1000 + k = 3 then some t else if h * 1000 + k = 2003 then some dr else refT.lookup (h * 1000 + k)
def mk (S : St) : Mem := (S.1, S.2.1, RR S.2.2.1 S.2.2.2)
def sI (S : St) (h k : Nat) (x : Int32) : St := (fun j => if j = h then upd (S.1 h) k x else S.1 j, S.2)
def sL (S : St) (h k : Nat) (x : Int64) : St := (S.1, fun j => if j = h then vp_updL (S.2.1 h) k x else S.2.1 j, S.2.2)
def sA (S : St) (h : Nat) (f : Nat → Int32) : St := (fun j => if j = h then f else S.1 j, S.2)
def sT (S : St) (t : Nat) : St := (S.1, S.2.1, t, S.2.2.2)
def sD (S : St) (t : Nat) : St := (S.1, S.2.1, S.2.2.1, t)
theorem kd_0 : KS[0]? = some (0, 0) := rfl
theorem kd_1 : KS[1]? = some (3, 1600) := rfl
theorem kd_2 : KS[2]? = some (0, 1) := rfl
theorem kd_3 : KS[3]? = some (0, 2) := rfl
theorem kd_4 : KS[4]? = some (2, 4) := rfl
theorem kd_5 : KS[5]? = some (1, 4) := rfl
theorem kd_6 : KS[6]? = some (2, 10) := rfl
theorem kd_7 : KS[7]? = some (1, 10) := rfl
theorem kd_8 : KS[8]? = some (1, 10) := rfl
theorem kd_9 : KS[9]? = some (1, 10) := rfl
theorem kd_10 : KS[10]? = some (1, 10) := rfl
theorem kd_11 : KS[11]? = some (1, 10) := rfl
theorem kd_12 : KS[12]? = some (0, 3) := rfl
theorem kd_13 : KS[13]? = some (1, 270) := rfl
theorem kd_14 : KS[14]? = some (1, 31) := rfl
theorem kd_15 : KS[15]? = some (1, 6) := rfl
theorem kd_16 : KS[16]? = some (0, 4) := rfl
theorem kd_17 : KS[17]? = some (0, 2) := rfl
theorem kd_18 : KS[18]? = some (2, 4) := rfl
theorem kd_19 : KS[19]? = some (1, 4) := rfl
theorem kd_20 : KS[20]? = some (2, 10) := rfl
theorem kd_21 : KS[21]? = some (1, 10) := rfl
theorem kd_22 : KS[22]? = some (1, 10) := rfl
theorem kd_23 : KS[23]? = some (1, 10) := rfl
theorem kd_24 : KS[24]? = some (1, 10) := rfl
theorem kd_25 : KS[25]? = some (1, 10) := rfl
theorem kd_26 : KS[26]? = some (0, 3) := rfl
theorem kd_27 : KS[27]? = some (1, 270) := rfl
theorem kd_28 : KS[28]? = some (1, 31) := rfl
theorem kd_29 : KS[29]? = some (1, 6) := rfl
theorem kd_30 : KS[30]? = some (0, 5) := rfl
theorem kd_31 : KS[31]? = some (1, 10) := rfl
theorem kd_32 : KS[32]? = some (1, 10) := rfl
theorem kd_33 : KS[33]? = some (1, 10) := rfl
theorem kd_34 : KS[34]? = some (1, 10) := rfl
theorem kd_35 : KS[35]? = some (5, 3) := rfl
theorem kd_36 : KS[36]? = some (0, 5) := rfl
theorem kd_37 : KS[37]? = some (1, 10) := rfl
theorem kd_38 : KS[38]? = some (1, 10) := rfl
theorem kd_39 : KS[39]? = some (1, 10) := rfl
theorem kd_40 : KS[40]? = some (1, 10) := rfl
theorem kd_41 : KS[41]? = some (0, 5) := rfl
theorem kd_42 : KS[42]? = some (1, 10) := rfl
theorem kd_43 : KS[43]? = some (1, 10) := rfl
theorem kd_44 : KS[44]? = some (1, 10) := rfl
theorem kd_45 : KS[45]? = some (1, 10) := rfl
theorem kd_46 : KS[46]? = some (0, 5) := rfl
theorem kd_47 : KS[47]? = some (1, 10) := rfl
theorem kd_48 : KS[48]? = some (1, 10) := rfl
theorem kd_49 : KS[49]? = some (1, 10) := rfl
theorem kd_50 : KS[50]? = some (1, 10) := rfl
theorem kd_51 : KS[51]? = some (0, 6) := rfl
theorem kd_52 : KS[52]? = some (1, 40) := rfl
theorem kd_53 : KS[53]? = some (1, 40) := rfl
theorem kd_54 : KS[54]? = some (1, 40) := rfl
theorem kd_55 : KS[55]? = some (1, 40) := rfl
theorem kd_56 : KS[56]? = some (0, 7) := rfl
theorem kd_57 : KS[57]? = some (1, 10) := rfl
theorem kd_58 : KS[58]? = some (1, 10) := rfl
theorem kd_59 : KS[59]? = some (1, 10) := rfl
theorem kd_60 : KS[60]? = some (1, 12) := rfl
theorem kd_61 : KS[61]? = some (1, 10) := rfl
theorem kd_62 : KS[62]? = some (0, 8) := rfl
theorem kd_63 : KS[63]? = some (1, 10) := rfl
theorem kd_64 : KS[64]? = some (1, 10) := rfl
theorem kd_65 : KS[65]? = some (1, 10) := rfl
theorem kd_66 : KS[66]? = some (1, 10) := rfl
theorem kd_67 : KS[67]? = some (0, 9) := rfl
theorem kd_68 : KS[68]? = some (1, 12) := rfl
theorem kd_69 : KS[69]? = some (0, 10) := rfl
theorem kd_70 : KS[70]? = some (1, 10) := rfl
theorem kd_71 : KS[71]? = some (1, 30) := rfl
theorem kd_72 : KS[72]? = some (1, 30) := rfl
theorem kd_73 : KS[73]? = some (4, 30) := rfl
theorem kd_74 : KS[74]? = some (1, 30) := rfl
theorem kd_75 : KS[75]? = some (1, 30) := rfl
theorem kd_76 : KS[76]? = some (1, 30) := rfl
theorem kd_77 : KS[77]? = some (1, 10) := rfl
theorem kd_78 : KS[78]? = some (0, 11) := rfl
theorem kd_79 : KS[79]? = some (1, 1600) := rfl
theorem kd_80 : KS[80]? = some (2, 14) := rfl
theorem kd_81 : KS[81]? = some (1, 320) := rfl
theorem kd_82 : KS[82]? = some (1, 320) := rfl
theorem kd_83 : KS[83]? = some (1, 320) := rfl
theorem kd_84 : KS[84]? = some (1, 320) := rfl
theorem kd_85 : KS[85]? = some (1, 160) := rfl
theorem kd_86 : KS[86]? = some (1, 64) := rfl
theorem kd_87 : KS[87]? = some (1, 6) := rfl
theorem kd_88 : KS[88]? = some (1, 4) := rfl
theorem kd_89 : KS[89]? = some (1, 10) := rfl
theorem kd_90 : KS[90]? = some (1, 10) := rfl
theorem kd_91 : KS[91]? = some (1, 10) := rfl
theorem kd_92 : KS[92]? = some (1, 10) := rfl
theorem kd_93 : KS[93]? = some (1, 10) := rfl
theorem kd_94 : KS[94]? = some (1, 4) := rfl
theorem kd_95 : KS[95]? = some (1, 10) := rfl
theorem kd_96 : KS[96]? = some (1, 10) := rfl
theorem kd_97 : KS[97]? = some (1, 10) := rfl
theorem kd_98 : KS[98]? = some (1, 10) := rfl
theorem kd_99 : KS[99]? = some (1, 10) := rfl
theorem kd_100 : KS[100]? = some (1, 41) := rfl
theorem kd_101 : KS[101]? = some (1, 41) := rfl
theorem kd_102 : KS[102]? = some (1, 12) := rfl
theorem kd_103 : KS[103]? = some (1, 12) := rfl
theorem kd_104 : KS[104]? = some (1, 1640) := rfl
theorem kd_105 : KS[105]? = some (1, 10) := rfl
theorem kd_106 : KS[106]? = some (1, 10) := rfl
theorem kd_107 : KS[107]? = some (1, 10) := rfl
theorem kd_108 : KS[108]? = some (1, 30) := rfl
theorem kd_109 : KS[109]? = some (1, 30) := rfl
theorem kd_110 : KS[110]? = some (1, 30) := rfl
theorem kd_111 : KS[111]? = some (1, 30) := rfl
theorem kd_112 : KS[112]? = some (4, 30) := rfl
theorem kd_113 : KS[113]? = some (1, 30) := rfl
theorem kd_114 : KS[114]? = some (1, 10) := rfl
theorem kd_115 : KS[115]? = some (4, 3) := rfl
theorem kd_116 : KS[116]? = some (1, 123) := rfl
theorem rr_0_0 {t dr : Nat} : RR t dr 0 0 = some 1 := rfl
theorem rr_0_2 {t dr : Nat} : RR t dr 0 2 = some 2 := rfl
theorem rr_0_4 {t dr : Nat} : RR t dr 0 4 = some 30 := rfl
theorem rr_0_5 {t dr : Nat} : RR t dr 0 5 = some 35 := rfl
theorem rr_0_6 {t dr : Nat} : RR t dr 0 6 = some 51 := rfl
theorem rr_0_7 {t dr : Nat} : RR t dr 0 7 = some 56 := rfl
theorem rr_0_8 {t dr : Nat} : RR t dr 0 8 = some 61 := rfl
theorem rr_0_9 {t dr : Nat} : RR t dr 0 9 = some 62 := rfl
theorem rr_0_10 {t dr : Nat} : RR t dr 0 10 = some 67 := rfl
theorem rr_0_11 {t dr : Nat} : RR t dr 0 11 = some 69 := rfl
theorem rr_0_12 {t dr : Nat} : RR t dr 0 12 = some 77 := rfl
theorem rr_2_2 {t dr : Nat} : RR t dr 2 2 = some 16 := rfl
theorem rr_3_7 {t dr : Nat} : RR t dr 3 7 = some 4 := rfl
theorem rr_3_8 {t dr : Nat} : RR t dr 3 8 = some 5 := rfl
theorem rr_3_9 {t dr : Nat} : RR t dr 3 9 = some 6 := rfl
theorem rr_3_10 {t dr : Nat} : RR t dr 3 10 = some 7 := rfl
theorem rr_3_11 {t dr : Nat} : RR t dr 3 11 = some 8 := rfl
theorem rr_3_12 {t dr : Nat} : RR t dr 3 12 = some 9 := rfl
theorem rr_3_13 {t dr : Nat} : RR t dr 3 13 = some 10 := rfl
theorem rr_3_14 {t dr : Nat} : RR t dr 3 14 = some 11 := rfl
theorem rr_3_15 {t dr : Nat} : RR t dr 3 15 = some 12 := rfl
theorem rr_12_2 {t dr : Nat} : RR t dr 12 2 = some 13 := rfl
theorem rr_12_3 {t dr : Nat} : RR t dr 12 3 = some 14 := rfl
theorem rr_12_4 {t dr : Nat} : RR t dr 12 4 = some 15 := rfl
theorem rr_16_0 {t dr : Nat} : RR t dr 16 0 = some 1 := rfl
theorem rr_17_7 {t dr : Nat} : RR t dr 17 7 = some 18 := rfl
theorem rr_17_8 {t dr : Nat} : RR t dr 17 8 = some 19 := rfl
theorem rr_17_9 {t dr : Nat} : RR t dr 17 9 = some 20 := rfl
theorem rr_17_10 {t dr : Nat} : RR t dr 17 10 = some 21 := rfl
theorem rr_17_11 {t dr : Nat} : RR t dr 17 11 = some 22 := rfl
theorem rr_17_12 {t dr : Nat} : RR t dr 17 12 = some 23 := rfl
theorem rr_17_13 {t dr : Nat} : RR t dr 17 13 = some 24 := rfl
theorem rr_17_14 {t dr : Nat} : RR t dr 17 14 = some 25 := rfl
theorem rr_17_15 {t dr : Nat} : RR t dr 17 15 = some 26 := rfl
theorem rr_26_2 {t dr : Nat} : RR t dr 26 2 = some 27 := rfl
theorem rr_26_3 {t dr : Nat} : RR t dr 26 3 = some 28 := rfl
theorem rr_26_4 {t dr : Nat} : RR t dr 26 4 = some 29 := rfl
theorem rr_30_2 {t dr : Nat} : RR t dr 30 2 = some 31 := rfl
theorem rr_30_3 {t dr : Nat} : RR t dr 30 3 = some 32 := rfl
theorem rr_30_4 {t dr : Nat} : RR t dr 30 4 = some 33 := rfl
theorem rr_30_5 {t dr : Nat} : RR t dr 30 5 = some 34 := rfl
theorem rr_35_0 {t dr : Nat} : RR t dr 35 0 = some 36 := rfl
theorem rr_35_1 {t dr : Nat} : RR t dr 35 1 = some 41 := rfl
theorem rr_35_2 {t dr : Nat} : RR t dr 35 2 = some 46 := rfl
theorem rr_36_2 {t dr : Nat} : RR t dr 36 2 = some 37 := rfl
theorem rr_36_3 {t dr : Nat} : RR t dr 36 3 = some 38 := rfl
theorem rr_36_4 {t dr : Nat} : RR t dr 36 4 = some 39 := rfl
theorem rr_36_5 {t dr : Nat} : RR t dr 36 5 = some 40 := rfl
theorem rr_41_2 {t dr : Nat} : RR t dr 41 2 = some 42 := rfl
theorem rr_41_3 {t dr : Nat} : RR t dr 41 3 = some 43 := rfl
theorem rr_41_4 {t dr : Nat} : RR t dr 41 4 = some 44 := rfl
theorem rr_41_5 {t dr : Nat} : RR t dr 41 5 = some 45 := rfl
theorem rr_46_2 {t dr : Nat} : RR t dr 46 2 = some 47 := rfl
theorem rr_46_3 {t dr : Nat} : RR t dr 46 3 = some 48 := rfl
theorem rr_46_4 {t dr : Nat} : RR t dr 46 4 = some 49 := rfl
theorem rr_46_5 {t dr : Nat} : RR t dr 46 5 = some 50 := rfl
theorem rr_51_2 {t dr : Nat} : RR t dr 51 2 = some 52 := rfl
theorem rr_51_3 {t dr : Nat} : RR t dr 51 3 = some 53 := rfl
theorem rr_51_4 {t dr : Nat} : RR t dr 51 4 = some 54 := rfl
theorem rr_51_5 {t dr : Nat} : RR t dr 51 5 = some 55 := rfl
theorem rr_56_8 {t dr : Nat} : RR t dr 56 8 = some 57 := rfl
theorem rr_56_9 {t dr : Nat} : RR t dr 56 9 = some 58 := rfl
theorem rr_56_10 {t dr : Nat} : RR t dr 56 10 = some 59 := rfl
theorem rr_56_11 {t dr : Nat} : RR t dr 56 11 = some 60 := rfl
theorem rr_62_0 {t dr : Nat} : RR t dr 62 0 = some 56 := rfl
theorem rr_62_1 {t dr : Nat} : RR t dr 62 1 = some 61 := rfl
theorem rr_62_5 {t dr : Nat} : RR t dr 62 5 = some 63 := rfl
theorem rr_62_6 {t dr : Nat} : RR t dr 62 6 = some 64 := rfl
theorem rr_62_7 {t dr : Nat} : RR t dr 62 7 = some 65 := rfl
theorem rr_62_8 {t dr : Nat} : RR t dr 62 8 = some 66 := rfl
theorem rr_67_0 {t dr : Nat} : RR t dr 67 0 = some 56 := rfl
theorem rr_67_1 {t dr : Nat} : RR t dr 67 1 = some 68 := rfl
theorem rr_69_3 {t dr : Nat} : RR t dr 69 3 = some 70 := rfl
theorem rr_69_4 {t dr : Nat} : RR t dr 69 4 = some 71 := rfl
theorem rr_69_5 {t dr : Nat} : RR t dr 69 5 = some 72 := rfl
theorem rr_69_6 {t dr : Nat} : RR t dr 69 6 = some 73 := rfl
theorem rr_69_7 {t dr : Nat} : RR t dr 69 7 = some 74 := rfl
theorem rr_69_8 {t dr : Nat} : RR t dr 69 8 = some 75 := rfl
theorem rr_69_9 {t dr : Nat} : RR t dr 69 9 = some 76 := rfl
theorem rr_78_0 {t dr : Nat} : RR t dr 78 0 = some 79 := rfl
theorem rr_78_10 {t dr : Nat} : RR t dr 78 10 = some 80 := rfl
theorem rr_78_11 {t dr : Nat} : RR t dr 78 11 = some 81 := rfl
theorem rr_78_12 {t dr : Nat} : RR t dr 78 12 = some 82 := rfl
theorem rr_78_13 {t dr : Nat} : RR t dr 78 13 = some 83 := rfl
theorem rr_78_14 {t dr : Nat} : RR t dr 78 14 = some 84 := rfl
theorem rr_78_15 {t dr : Nat} : RR t dr 78 15 = some 85 := rfl
theorem rr_78_16 {t dr : Nat} : RR t dr 78 16 = some 86 := rfl
theorem rr_78_26 {t dr : Nat} : RR t dr 78 26 = some 87 := rfl
theorem rr_78_27 {t dr : Nat} : RR t dr 78 27 = some 88 := rfl
theorem rr_78_28 {t dr : Nat} : RR t dr 78 28 = some 89 := rfl
theorem rr_78_29 {t dr : Nat} : RR t dr 78 29 = some 90 := rfl
theorem rr_78_30 {t dr : Nat} : RR t dr 78 30 = some 91 := rfl
theorem rr_78_31 {t dr : Nat} : RR t dr 78 31 = some 92 := rfl
theorem rr_78_32 {t dr : Nat} : RR t dr 78 32 = some 93 := rfl
theorem rr_78_33 {t dr : Nat} : RR t dr 78 33 = some 94 := rfl
theorem rr_78_34 {t dr : Nat} : RR t dr 78 34 = some 95 := rfl
theorem rr_78_35 {t dr : Nat} : RR t dr 78 35 = some 96 := rfl
theorem rr_78_36 {t dr : Nat} : RR t dr 78 36 = some 97 := rfl
theorem rr_78_37 {t dr : Nat} : RR t dr 78 37 = some 98 := rfl
theorem rr_78_38 {t dr : Nat} : RR t dr 78 38 = some 99 := rfl
theorem rr_78_58 {t dr : Nat} : RR t dr 78 58 = some 100 := rfl
theorem rr_78_59 {t dr : Nat} : RR t dr 78 59 = some 101 := rfl
theorem rr_78_60 {t dr : Nat} : RR t dr 78 60 = some 102 := rfl
theorem rr_78_61 {t dr : Nat} : RR t dr 78 61 = some 103 := rfl
theorem rr_78_62 {t dr : Nat} : RR t dr 78 62 = some 104 := rfl
theorem rr_78_65 {t dr : Nat} : RR t dr 78 65 = some 105 := rfl
theorem rr_78_66 {t dr : Nat} : RR t dr 78 66 = some 106 := rfl
theorem rr_78_67 {t dr : Nat} : RR t dr 78 67 = some 107 := rfl
theorem rr_78_69 {t dr : Nat} : RR t dr 78 69 = some 108 := rfl
theorem rr_78_70 {t dr : Nat} : RR t dr 78 70 = some 109 := rfl
theorem rr_78_71 {t dr : Nat} : RR t dr 78 71 = some 110 := rfl
theorem rr_78_72 {t dr : Nat} : RR t dr 78 72 = some 111 := rfl
theorem rr_78_73 {t dr : Nat} : RR t dr 78 73 = some 112 := rfl
theorem rr_78_76 {t dr : Nat} : RR t dr 78 76 = some 113 := rfl
theorem rr_78_77 {t dr : Nat} : RR t dr 78 77 = some 114 := rfl
theorem rr_78_78 {t dr : Nat} : RR t dr 78 78 = some 115 := rfl
theorem rr_78_79 {t dr : Nat} : RR t dr 78 79 = some 116 := rfl
theorem rr_told {t dr : Nat} : RR t dr 0 3 = some t := rfl
theorem rr_draft {t dr : Nat} : RR t dr 2 3 = some dr := rfl
def isSc (h : Nat) : Bool := h == 3 || h == 17
def isFo (h : Nat) : Bool := h == 12 || h == 26
def isLa (h : Nat) : Bool := h == 30 || h == 36 || h == 41 || h == 46
def isRw (h : Nat) : Bool := (31 ≤ h && h ≤ 34) || (37 ≤ h && h ≤ 40) || (42 ≤ h && h ≤ 45) || (47 ≤ h && h ≤ 50)
theorem isSc_or {h : Nat} (p : isSc h = true) : h = 3 ∨ h = 17 := by simpa [isSc] using p
theorem isFo_or {h : Nat} (p : isFo h = true) : h = 12 ∨ h = 26 := by simpa [isFo] using p
theorem isLa_or {h : Nat} (p : isLa h = true) : h = 30 ∨ h = 36 ∨ h = 41 ∨ h = 46 := by simpa [isLa, or_assoc] using p
theorem isFo_of {h : Nat} (p : isSc h = true) : isFo (h + 9) = true := by rcases isSc_or p with rfl | rfl <;> rfl
theorem ksRw {h : Nat} (p : isRw h = true) : KS[h]? = some (1, 10) := by
  have : h ≤ 50 := by simp [isRw] at p; omega
  exact (by decide +kernel : ∀ h, h ≤ 50 → isRw h = true → KS[h]? = some (1, 10)) h this p
theorem ksSc {h : Nat} (p : isSc h = true) : KS[h]? = some (0, 2) := by rcases isSc_or p with rfl | rfl <;> rfl
theorem ksFo {h : Nat} (p : isFo h = true) : KS[h]? = some (0, 3) := by rcases isFo_or p with rfl | rfl <;> rfl
theorem ksLa {h : Nat} (p : isLa h = true) : KS[h]? = some (0, 5) := by rcases isLa_or p with rfl | rfl | rfl | rfl <;> rfl
theorem rrSc_7 {t dr h : Nat} (p : isSc h = true) : RR t dr h 7 = some (h + 1) := by rcases isSc_or p with rfl | rfl <;> rfl
theorem ksSc_1 {h : Nat} (p : isSc h = true) : KS[h + 1]? = some (2, 4) := by rcases isSc_or p with rfl | rfl <;> rfl
theorem rrSc_8 {t dr h : Nat} (p : isSc h = true) : RR t dr h 8 = some (h + 2) := by rcases isSc_or p with rfl | rfl <;> rfl
theorem ksSc_2 {h : Nat} (p : isSc h = true) : KS[h + 2]? = some (1, 4) := by rcases isSc_or p with rfl | rfl <;> rfl
theorem rrSc_9 {t dr h : Nat} (p : isSc h = true) : RR t dr h 9 = some (h + 3) := by rcases isSc_or p with rfl | rfl <;> rfl
theorem ksSc_3 {h : Nat} (p : isSc h = true) : KS[h + 3]? = some (2, 10) := by rcases isSc_or p with rfl | rfl <;> rfl
theorem rrSc_10 {t dr h : Nat} (p : isSc h = true) : RR t dr h 10 = some (h + 4) := by rcases isSc_or p with rfl | rfl <;> rfl
theorem ksSc_4 {h : Nat} (p : isSc h = true) : KS[h + 4]? = some (1, 10) := by rcases isSc_or p with rfl | rfl <;> rfl
theorem rrSc_11 {t dr h : Nat} (p : isSc h = true) : RR t dr h 11 = some (h + 5) := by rcases isSc_or p with rfl | rfl <;> rfl
theorem ksSc_5 {h : Nat} (p : isSc h = true) : KS[h + 5]? = some (1, 10) := by rcases isSc_or p with rfl | rfl <;> rfl
theorem rrSc_12 {t dr h : Nat} (p : isSc h = true) : RR t dr h 12 = some (h + 6) := by rcases isSc_or p with rfl | rfl <;> rfl
theorem ksSc_6 {h : Nat} (p : isSc h = true) : KS[h + 6]? = some (1, 10) := by rcases isSc_or p with rfl | rfl <;> rfl
theorem rrSc_13 {t dr h : Nat} (p : isSc h = true) : RR t dr h 13 = some (h + 7) := by rcases isSc_or p with rfl | rfl <;> rfl
theorem ksSc_7 {h : Nat} (p : isSc h = true) : KS[h + 7]? = some (1, 10) := by rcases isSc_or p with rfl | rfl <;> rfl
theorem rrSc_14 {t dr h : Nat} (p : isSc h = true) : RR t dr h 14 = some (h + 8) := by rcases isSc_or p with rfl | rfl <;> rfl
theorem ksSc_8 {h : Nat} (p : isSc h = true) : KS[h + 8]? = some (1, 10) := by rcases isSc_or p with rfl | rfl <;> rfl
theorem rrSc_15 {t dr h : Nat} (p : isSc h = true) : RR t dr h 15 = some (h + 9) := by rcases isSc_or p with rfl | rfl <;> rfl
theorem ksSc_9 {h : Nat} (p : isSc h = true) : KS[h + 9]? = some (0, 3) := by rcases isSc_or p with rfl | rfl <;> rfl
theorem rrFo_2 {t dr h : Nat} (p : isFo h = true) : RR t dr h 2 = some (h + 1) := by rcases isFo_or p with rfl | rfl <;> rfl
theorem ksFo_1 {h : Nat} (p : isFo h = true) : KS[h + 1]? = some (1, 270) := by rcases isFo_or p with rfl | rfl <;> rfl
theorem rrFo_3 {t dr h : Nat} (p : isFo h = true) : RR t dr h 3 = some (h + 2) := by rcases isFo_or p with rfl | rfl <;> rfl
theorem ksFo_2 {h : Nat} (p : isFo h = true) : KS[h + 2]? = some (1, 31) := by rcases isFo_or p with rfl | rfl <;> rfl
theorem rrFo_4 {t dr h : Nat} (p : isFo h = true) : RR t dr h 4 = some (h + 3) := by rcases isFo_or p with rfl | rfl <;> rfl
theorem ksFo_3 {h : Nat} (p : isFo h = true) : KS[h + 3]? = some (1, 6) := by rcases isFo_or p with rfl | rfl <;> rfl
theorem rrLa_2 {t dr h : Nat} (p : isLa h = true) : RR t dr h 2 = some (h + 1) := by rcases isLa_or p with rfl | rfl | rfl | rfl <;> rfl
theorem ksLa_1 {h : Nat} (p : isLa h = true) : KS[h + 1]? = some (1, 10) := by rcases isLa_or p with rfl | rfl | rfl | rfl <;> rfl
theorem rrLa_3 {t dr h : Nat} (p : isLa h = true) : RR t dr h 3 = some (h + 2) := by rcases isLa_or p with rfl | rfl | rfl | rfl <;> rfl
theorem ksLa_2 {h : Nat} (p : isLa h = true) : KS[h + 2]? = some (1, 10) := by rcases isLa_or p with rfl | rfl | rfl | rfl <;> rfl
theorem rrLa_4 {t dr h : Nat} (p : isLa h = true) : RR t dr h 4 = some (h + 3) := by rcases isLa_or p with rfl | rfl | rfl | rfl <;> rfl
theorem ksLa_3 {h : Nat} (p : isLa h = true) : KS[h + 3]? = some (1, 10) := by rcases isLa_or p with rfl | rfl | rfl | rfl <;> rfl
theorem rrLa_5 {t dr h : Nat} (p : isLa h = true) : RR t dr h 5 = some (h + 4) := by rcases isLa_or p with rfl | rfl | rfl | rfl <;> rfl
theorem ksLa_4 {h : Nat} (p : isLa h = true) : KS[h + 4]? = some (1, 10) := by rcases isLa_or p with rfl | rfl | rfl | rfl <;> rfl
theorem rr_box {t dr : Nat} {i : Nat} (h : i < 3) : RR t dr 35 i = some (36 + 5 * i) := by rcases (by omega : i = 0 ∨ i = 1 ∨ i = 2) with rfl | rfl | rfl <;> rfl
theorem isLa_box {i : Nat} (h : i < 3) : isLa (36 + 5 * i) = true := by rcases (by omega : i = 0 ∨ i = 1 ∨ i = 2) with rfl | rfl | rfl <;> rfl
/-! words of the functions: a guard, a name, a call, a loop -/
def gd {α : Type} (b : Bool) (x : Option α) : Option α := if b = true then x else none
theorem gd_inv {α : Type} {b : Bool} {x : Option α} {y : α} (h : gd b x = some y) : b = true ∧ x = some y := by
  cases b with
  | true => exact ⟨rfl, h⟩
  | false => cases h
def lt {α β : Type} (a : α) (f : α → β) : β := f a
theorem lt_inv {α β : Type} {a : α} {f : α → β} {y : β} (h : lt a f = y) : ∃ b, b = a ∧ f b = y := ⟨a, rfl, h⟩
def bd {α β : Type} (x : Option α) (f : α → Option β) : Option β := match x with
  | none => none
  | some a => f a
theorem bd_inv {α β : Type} {x : Option α} {f : α → Option β} {y : β} (h : bd x f = some y) : ∃ a, x = some a ∧ f a = some y := by
  cases x with
  | none => cases h
  | some a => exact ⟨a, rfl, h⟩
def bd2 {α γ β : Type} (x : Option (α × γ)) (f : α → γ → Option β) : Option β := match x with
  | none => none
  | some a => f a.1 a.2
theorem bd2_inv {α γ β : Type} {x : Option (α × γ)} {f : α → γ → Option β} {y : β} (h : bd2 x f = some y) : ∃ a c, x = some (a, c) ∧ f a c = some y := by
  cases x with
  | none => cases h
  | some a => exact ⟨a.1, a.2, rfl, h⟩
theorem ite_t {α : Type} {c : Prop} [Decidable c] {a b x : α} (hc : c) (h : (if c then a else b) = x) : a = x := by rw [if_pos hc] at h; exact h
theorem ite_f {α : Type} {c : Prop} [Decidable c] {a b x : α} (hc : ¬ c) (h : (if c then a else b) = x) : b = x := by rw [if_neg hc] at h; exact h
def inB (i : Int32) (n : Nat) : Bool := decide (0 ≤ i) && decide (i.toNatClampNeg < n)
theorem inB_in {i : Int32} {n : Nat} (h : inB i n = true) : vp_in i n := by
  simp only [inB, Bool.and_eq_true, decide_eq_true_eq] at h
  rintro (q | q)
  · exact absurd h.1 (Int32.not_le.mpr q)
  · omega
def isB (x : Int32) : Bool := decide (x = 0) || decide (x = 1)
theorem isB_nar {x : Int32} (h : isB x = true) : narrow .boolean (.int x) = .int x := by
  simp only [isB, Bool.or_eq_true, decide_eq_true_eq] at h
  rcases h with rfl | rfl <;> rfl
theorem isB_fit {x : Int32} (h : isB x = true) : fits .boolean (.int x) = true := by
  simp only [isB, Bool.or_eq_true, decide_eq_true_eq] at h
  rcases h with rfl | rfl <;> rfl
def nz (x : Int32) : Bool := decide (¬ x = 0)
theorem nz_ne {x : Int32} (h : nz x = true) : ¬ x = 0 := by simpa [nz] using h
def fx1 {A1 R : Type} (body : (A1 → Option R) → A1 → Option R) : Nat → A1 → Option R
  | 0, _ => none
  | f + 1, a1 => body (fx1 body f) a1
theorem fx1_ind {A1 R : Type} {body : (A1 → Option R) → A1 → Option R} {Q : A1 → R → Prop} (hs : ∀ rec : A1 → Option R, (∀ a1 r, rec a1 = some r → Q a1 r) → ∀ a1 r, body rec a1 = some r → Q a1 r) : ∀ f a1 r, fx1 body f a1 = some r → Q a1 r
  | 0, _, _, h => by cases h
  | f + 1, a1, r, h => hs (fx1 body f) (fx1_ind hs f) a1 r h
def fx2 {A1 A2 R : Type} (body : (A1 → A2 → Option R) → A1 → A2 → Option R) : Nat → A1 → A2 → Option R
  | 0, _, _ => none
  | f + 1, a1, a2 => body (fx2 body f) a1 a2
theorem fx2_ind {A1 A2 R : Type} {body : (A1 → A2 → Option R) → A1 → A2 → Option R} {Q : A1 → A2 → R → Prop} (hs : ∀ rec : A1 → A2 → Option R, (∀ a1 a2 r, rec a1 a2 = some r → Q a1 a2 r) → ∀ a1 a2 r, body rec a1 a2 = some r → Q a1 a2 r) : ∀ f a1 a2 r, fx2 body f a1 a2 = some r → Q a1 a2 r
  | 0, _, _, _, h => by cases h
  | f + 1, a1, a2, r, h => hs (fx2 body f) (fx2_ind hs f) a1 a2 r h
def fx3 {A1 A2 A3 R : Type} (body : (A1 → A2 → A3 → Option R) → A1 → A2 → A3 → Option R) : Nat → A1 → A2 → A3 → Option R
  | 0, _, _, _ => none
  | f + 1, a1, a2, a3 => body (fx3 body f) a1 a2 a3
theorem fx3_ind {A1 A2 A3 R : Type} {body : (A1 → A2 → A3 → Option R) → A1 → A2 → A3 → Option R} {Q : A1 → A2 → A3 → R → Prop} (hs : ∀ rec : A1 → A2 → A3 → Option R, (∀ a1 a2 a3 r, rec a1 a2 a3 = some r → Q a1 a2 a3 r) → ∀ a1 a2 a3 r, body rec a1 a2 a3 = some r → Q a1 a2 a3 r) : ∀ f a1 a2 a3 r, fx3 body f a1 a2 a3 = some r → Q a1 a2 a3 r
  | 0, _, _, _, _, h => by cases h
  | f + 1, a1, a2, a3, r, h => hs (fx3 body f) (fx3_ind hs f) a1 a2 a3 r h
def fx4 {A1 A2 A3 A4 R : Type} (body : (A1 → A2 → A3 → A4 → Option R) → A1 → A2 → A3 → A4 → Option R) : Nat → A1 → A2 → A3 → A4 → Option R
  | 0, _, _, _, _ => none
  | f + 1, a1, a2, a3, a4 => body (fx4 body f) a1 a2 a3 a4
theorem fx4_ind {A1 A2 A3 A4 R : Type} {body : (A1 → A2 → A3 → A4 → Option R) → A1 → A2 → A3 → A4 → Option R} {Q : A1 → A2 → A3 → A4 → R → Prop} (hs : ∀ rec : A1 → A2 → A3 → A4 → Option R, (∀ a1 a2 a3 a4 r, rec a1 a2 a3 a4 = some r → Q a1 a2 a3 a4 r) → ∀ a1 a2 a3 a4 r, body rec a1 a2 a3 a4 = some r → Q a1 a2 a3 a4 r) : ∀ f a1 a2 a3 a4 r, fx4 body f a1 a2 a3 a4 = some r → Q a1 a2 a3 a4 r
  | 0, _, _, _, _, _, h => by cases h
  | f + 1, a1, a2, a3, a4, r, h => hs (fx4 body f) (fx4_ind hs f) a1 a2 a3 a4 r h
def fx5 {A1 A2 A3 A4 A5 R : Type} (body : (A1 → A2 → A3 → A4 → A5 → Option R) → A1 → A2 → A3 → A4 → A5 → Option R) : Nat → A1 → A2 → A3 → A4 → A5 → Option R
  | 0, _, _, _, _, _ => none
  | f + 1, a1, a2, a3, a4, a5 => body (fx5 body f) a1 a2 a3 a4 a5
theorem fx5_ind {A1 A2 A3 A4 A5 R : Type} {body : (A1 → A2 → A3 → A4 → A5 → Option R) → A1 → A2 → A3 → A4 → A5 → Option R} {Q : A1 → A2 → A3 → A4 → A5 → R → Prop} (hs : ∀ rec : A1 → A2 → A3 → A4 → A5 → Option R, (∀ a1 a2 a3 a4 a5 r, rec a1 a2 a3 a4 a5 = some r → Q a1 a2 a3 a4 a5 r) → ∀ a1 a2 a3 a4 a5 r, body rec a1 a2 a3 a4 a5 = some r → Q a1 a2 a3 a4 a5 r) : ∀ f a1 a2 a3 a4 a5 r, fx5 body f a1 a2 a3 a4 a5 = some r → Q a1 a2 a3 a4 a5 r
  | 0, _, _, _, _, _, _, h => by cases h
  | f + 1, a1, a2, a3, a4, a5, r, h => hs (fx5 body f) (fx5_ind hs f) a1 a2 a3 a4 a5 r h
def fx6 {A1 A2 A3 A4 A5 A6 R : Type} (body : (A1 → A2 → A3 → A4 → A5 → A6 → Option R) → A1 → A2 → A3 → A4 → A5 → A6 → Option R) : Nat → A1 → A2 → A3 → A4 → A5 → A6 → Option R
  | 0, _, _, _, _, _, _ => none
  | f + 1, a1, a2, a3, a4, a5, a6 => body (fx6 body f) a1 a2 a3 a4 a5 a6
theorem fx6_ind {A1 A2 A3 A4 A5 A6 R : Type} {body : (A1 → A2 → A3 → A4 → A5 → A6 → Option R) → A1 → A2 → A3 → A4 → A5 → A6 → Option R} {Q : A1 → A2 → A3 → A4 → A5 → A6 → R → Prop} (hs : ∀ rec : A1 → A2 → A3 → A4 → A5 → A6 → Option R, (∀ a1 a2 a3 a4 a5 a6 r, rec a1 a2 a3 a4 a5 a6 = some r → Q a1 a2 a3 a4 a5 a6 r) → ∀ a1 a2 a3 a4 a5 a6 r, body rec a1 a2 a3 a4 a5 a6 = some r → Q a1 a2 a3 a4 a5 a6 r) : ∀ f a1 a2 a3 a4 a5 a6 r, fx6 body f a1 a2 a3 a4 a5 a6 = some r → Q a1 a2 a3 a4 a5 a6 r
  | 0, _, _, _, _, _, _, _, h => by cases h
  | f + 1, a1, a2, a3, a4, a5, a6, r, h => hs (fx6 body f) (fx6_ind hs f) a1 a2 a3 a4 a5 a6 r h
def fx7 {A1 A2 A3 A4 A5 A6 A7 R : Type} (body : (A1 → A2 → A3 → A4 → A5 → A6 → A7 → Option R) → A1 → A2 → A3 → A4 → A5 → A6 → A7 → Option R) : Nat → A1 → A2 → A3 → A4 → A5 → A6 → A7 → Option R
  | 0, _, _, _, _, _, _, _ => none
  | f + 1, a1, a2, a3, a4, a5, a6, a7 => body (fx7 body f) a1 a2 a3 a4 a5 a6 a7
theorem fx7_ind {A1 A2 A3 A4 A5 A6 A7 R : Type} {body : (A1 → A2 → A3 → A4 → A5 → A6 → A7 → Option R) → A1 → A2 → A3 → A4 → A5 → A6 → A7 → Option R} {Q : A1 → A2 → A3 → A4 → A5 → A6 → A7 → R → Prop} (hs : ∀ rec : A1 → A2 → A3 → A4 → A5 → A6 → A7 → Option R, (∀ a1 a2 a3 a4 a5 a6 a7 r, rec a1 a2 a3 a4 a5 a6 a7 = some r → Q a1 a2 a3 a4 a5 a6 a7 r) → ∀ a1 a2 a3 a4 a5 a6 a7 r, body rec a1 a2 a3 a4 a5 a6 a7 = some r → Q a1 a2 a3 a4 a5 a6 a7 r) : ∀ f a1 a2 a3 a4 a5 a6 a7 r, fx7 body f a1 a2 a3 a4 a5 a6 a7 = some r → Q a1 a2 a3 a4 a5 a6 a7 r
  | 0, _, _, _, _, _, _, _, _, h => by cases h
  | f + 1, a1, a2, a3, a4, a5, a6, a7, r, h => hs (fx7 body f) (fx7_ind hs f) a1 a2 a3 a4 a5 a6 a7 r h
def fx8 {A1 A2 A3 A4 A5 A6 A7 A8 R : Type} (body : (A1 → A2 → A3 → A4 → A5 → A6 → A7 → A8 → Option R) → A1 → A2 → A3 → A4 → A5 → A6 → A7 → A8 → Option R) : Nat → A1 → A2 → A3 → A4 → A5 → A6 → A7 → A8 → Option R
  | 0, _, _, _, _, _, _, _, _ => none
  | f + 1, a1, a2, a3, a4, a5, a6, a7, a8 => body (fx8 body f) a1 a2 a3 a4 a5 a6 a7 a8
theorem fx8_ind {A1 A2 A3 A4 A5 A6 A7 A8 R : Type} {body : (A1 → A2 → A3 → A4 → A5 → A6 → A7 → A8 → Option R) → A1 → A2 → A3 → A4 → A5 → A6 → A7 → A8 → Option R} {Q : A1 → A2 → A3 → A4 → A5 → A6 → A7 → A8 → R → Prop} (hs : ∀ rec : A1 → A2 → A3 → A4 → A5 → A6 → A7 → A8 → Option R, (∀ a1 a2 a3 a4 a5 a6 a7 a8 r, rec a1 a2 a3 a4 a5 a6 a7 a8 = some r → Q a1 a2 a3 a4 a5 a6 a7 a8 r) → ∀ a1 a2 a3 a4 a5 a6 a7 a8 r, body rec a1 a2 a3 a4 a5 a6 a7 a8 = some r → Q a1 a2 a3 a4 a5 a6 a7 a8 r) : ∀ f a1 a2 a3 a4 a5 a6 a7 a8 r, fx8 body f a1 a2 a3 a4 a5 a6 a7 a8 = some r → Q a1 a2 a3 a4 a5 a6 a7 a8 r
  | 0, _, _, _, _, _, _, _, _, _, h => by cases h
  | f + 1, a1, a2, a3, a4, a5, a6, a7, a8, r, h => hs (fx8 body f) (fx8_ind hs f) a1 a2 a3 a4 a5 a6 a7 a8 r h
def fx9 {A1 A2 A3 A4 A5 A6 A7 A8 A9 R : Type} (body : (A1 → A2 → A3 → A4 → A5 → A6 → A7 → A8 → A9 → Option R) → A1 → A2 → A3 → A4 → A5 → A6 → A7 → A8 → A9 → Option R) : Nat → A1 → A2 → A3 → A4 → A5 → A6 → A7 → A8 → A9 → Option R
  | 0, _, _, _, _, _, _, _, _, _ => none
  | f + 1, a1, a2, a3, a4, a5, a6, a7, a8, a9 => body (fx9 body f) a1 a2 a3 a4 a5 a6 a7 a8 a9
theorem fx9_ind {A1 A2 A3 A4 A5 A6 A7 A8 A9 R : Type} {body : (A1 → A2 → A3 → A4 → A5 → A6 → A7 → A8 → A9 → Option R) → A1 → A2 → A3 → A4 → A5 → A6 → A7 → A8 → A9 → Option R} {Q : A1 → A2 → A3 → A4 → A5 → A6 → A7 → A8 → A9 → R → Prop} (hs : ∀ rec : A1 → A2 → A3 → A4 → A5 → A6 → A7 → A8 → A9 → Option R, (∀ a1 a2 a3 a4 a5 a6 a7 a8 a9 r, rec a1 a2 a3 a4 a5 a6 a7 a8 a9 = some r → Q a1 a2 a3 a4 a5 a6 a7 a8 a9 r) → ∀ a1 a2 a3 a4 a5 a6 a7 a8 a9 r, body rec a1 a2 a3 a4 a5 a6 a7 a8 a9 = some r → Q a1 a2 a3 a4 a5 a6 a7 a8 a9 r) : ∀ f a1 a2 a3 a4 a5 a6 a7 a8 a9 r, fx9 body f a1 a2 a3 a4 a5 a6 a7 a8 a9 = some r → Q a1 a2 a3 a4 a5 a6 a7 a8 a9 r
  | 0, _, _, _, _, _, _, _, _, _, _, h => by cases h
  | f + 1, a1, a2, a3, a4, a5, a6, a7, a8, a9, r, h => hs (fx9 body f) (fx9_ind hs f) a1 a2 a3 a4 a5 a6 a7 a8 a9 r h
def fx10 {A1 A2 A3 A4 A5 A6 A7 A8 A9 A10 R : Type} (body : (A1 → A2 → A3 → A4 → A5 → A6 → A7 → A8 → A9 → A10 → Option R) → A1 → A2 → A3 → A4 → A5 → A6 → A7 → A8 → A9 → A10 → Option R) : Nat → A1 → A2 → A3 → A4 → A5 → A6 → A7 → A8 → A9 → A10 → Option R
  | 0, _, _, _, _, _, _, _, _, _, _ => none
  | f + 1, a1, a2, a3, a4, a5, a6, a7, a8, a9, a10 => body (fx10 body f) a1 a2 a3 a4 a5 a6 a7 a8 a9 a10
theorem fx10_ind {A1 A2 A3 A4 A5 A6 A7 A8 A9 A10 R : Type} {body : (A1 → A2 → A3 → A4 → A5 → A6 → A7 → A8 → A9 → A10 → Option R) → A1 → A2 → A3 → A4 → A5 → A6 → A7 → A8 → A9 → A10 → Option R} {Q : A1 → A2 → A3 → A4 → A5 → A6 → A7 → A8 → A9 → A10 → R → Prop} (hs : ∀ rec : A1 → A2 → A3 → A4 → A5 → A6 → A7 → A8 → A9 → A10 → Option R, (∀ a1 a2 a3 a4 a5 a6 a7 a8 a9 a10 r, rec a1 a2 a3 a4 a5 a6 a7 a8 a9 a10 = some r → Q a1 a2 a3 a4 a5 a6 a7 a8 a9 a10 r) → ∀ a1 a2 a3 a4 a5 a6 a7 a8 a9 a10 r, body rec a1 a2 a3 a4 a5 a6 a7 a8 a9 a10 = some r → Q a1 a2 a3 a4 a5 a6 a7 a8 a9 a10 r) : ∀ f a1 a2 a3 a4 a5 a6 a7 a8 a9 a10 r, fx10 body f a1 a2 a3 a4 a5 a6 a7 a8 a9 a10 = some r → Q a1 a2 a3 a4 a5 a6 a7 a8 a9 a10 r
  | 0, _, _, _, _, _, _, _, _, _, _, _, h => by cases h
  | f + 1, a1, a2, a3, a4, a5, a6, a7, a8, a9, a10, r, h => hs (fx10 body f) (fx10_ind hs f) a1 a2 a3 a4 a5 a6 a7 a8 a9 a10 r h
abbrev Ek (X : Nat × (Nat → Int32)) (d : Nat) (μ : Mt) (pc : Nat) (L : List (Nat × Value)) (st : List Value) (S : St) (r : Option Value) (S' : St) : Prop := Ev X d μ pc L st KS (mk S) r KS (mk S')
section YR
variable {X : Nat × (Nat → Int32)} {d : Nat} {μ : Mt} {pc : Nat} {L L1 : List (Nat × Value)} {st : List Value} {S S1 : St} {r : Option Value} {S' : St} {h idx ci f n : Nat}
theorem y_getI (hd : decode μ.2.1 pc = .ok (.getfield idx, 3)) (hf : fL μ.1.cls idx ci f) (ht : isI (tyT ci f) = true) (ho : KS[h]? = some (0, ci)) (k : Ek X d μ (pc + 3) L (.int (S.1 h f) :: st) S r S') : Ek X d μ pc L (.ref h :: st) S r S' := x_getI hd hf ht ho k
theorem y_getL (hd : decode μ.2.1 pc = .ok (.getfield idx, 3)) (hf : fL μ.1.cls idx ci f) (ht : tyT ci f = .long) (ho : KS[h]? = some (0, ci)) (k : Ek X d μ (pc + 3) L (.long (S.2.1 h f) :: st) S r S') : Ek X d μ pc L (.ref h :: st) S r S' := x_getL hd hf ht ho k
theorem y_getR {a : Nat} (hd : decode μ.2.1 pc = .ok (.getfield idx, 3)) (hf : fL μ.1.cls idx ci f) (ht : isRf (tyT ci f) = true) (ho : KS[h]? = some (0, ci)) (hm : RR S.2.2.1 S.2.2.2 h f = some a) (k : Ek X d μ (pc + 3) L (.ref a :: st) S r S') : Ek X d μ pc L (.ref h :: st) S r S' := x_getR hd hf ht ho hm k
theorem y_putI {x : Int32} (e : S1 = sI S h f x) (hd : decode μ.2.1 pc = .ok (.putfield idx, 3)) (hf : fL μ.1.cls idx ci f) (ht : isI (tyT ci f) = true) (hnf : fin ci f = false) (ho : KS[h]? = some (0, ci)) (hn : narrow (tyT ci f) (.int x) = .int x) (hft : fits (tyT ci f) (.int x) = true) (k : Ek X d μ (pc + 3) L st S1 r S') : Ek X d μ pc L (.int x :: .ref h :: st) S r S' := by
  subst e
  exact x_putI hd hf ht hnf ho hn hft k
theorem y_putL {x : Int64} (e : S1 = sL S h f x) (hd : decode μ.2.1 pc = .ok (.putfield idx, 3)) (hf : fL μ.1.cls idx ci f) (ht : tyT ci f = .long) (hnf : fin ci f = false) (ho : KS[h]? = some (0, ci)) (k : Ek X d μ (pc + 3) L st S1 r S') : Ek X d μ pc L (.long x :: .ref h :: st) S r S' := by
  subst e
  exact x_putL hd hf ht hnf ho k
theorem y_iald {i : Int32} (hd : decode μ.2.1 pc = .ok (.iaload, 1)) (ho : KS[h]? = some (1, n)) (hin : inB i n = true) (k : Ek X d μ (pc + 1) L (.int (S.1 h i.toNatClampNeg) :: st) S r S') : Ek X d μ pc L (.int i :: .ref h :: st) S r S' := x_iald hd ho (inB_in hin) k
theorem y_bald {i : Int32} (hd : decode μ.2.1 pc = .ok (.baload, 1)) (ho : KS[h]? = some (3, n)) (hin : inB i n = true) (k : Ek X d μ (pc + 1) L (.int (S.1 h i.toNatClampNeg) :: st) S r S') : Ek X d μ pc L (.int i :: .ref h :: st) S r S' := x_bald hd ho (inB_in hin) k
theorem y_zald {i : Int32} (hd : decode μ.2.1 pc = .ok (.baload, 1)) (ho : KS[h]? = some (4, n)) (hin : inB i n = true) (k : Ek X d μ (pc + 1) L (.int (S.1 h i.toNatClampNeg) :: st) S r S') : Ek X d μ pc L (.int i :: .ref h :: st) S r S' := x_zald hd ho (inB_in hin) k
theorem y_lald {i : Int32} (hd : decode μ.2.1 pc = .ok (.laload, 1)) (ho : KS[h]? = some (2, n)) (hin : inB i n = true) (k : Ek X d μ (pc + 1) L (.long (S.2.1 h i.toNatClampNeg) :: st) S r S') : Ek X d μ pc L (.int i :: .ref h :: st) S r S' := x_lald hd ho (inB_in hin) k
theorem y_aald {i : Int32} (hd : decode μ.2.1 pc = .ok (.aaload, 1)) (hin : inB i 3 = true) (k : Ek X d μ (pc + 1) L (.ref (36 + 5 * i.toNatClampNeg) :: st) S r S') : Ek X d μ pc L (.int i :: .ref 35 :: st) S r S' := by
  refine x_aald hd kd_35 (inB_in hin) (rr_box ?_) k
  simp only [inB, Bool.and_eq_true, decide_eq_true_eq] at hin
  exact hin.2
theorem inB_lt {i : Int32} {n : Nat} (h : inB i n = true) : i.toNatClampNeg < n := by
  simp only [inB, Bool.and_eq_true, decide_eq_true_eq] at h
  exact h.2
theorem y_iast {i x : Int32} (e : S1 = sI S h i.toNatClampNeg x) (hd : decode μ.2.1 pc = .ok (.iastore, 1)) (ho : KS[h]? = some (1, n)) (hin : inB i n = true) (k : Ek X d μ (pc + 1) L st S1 r S') : Ek X d μ pc L (.int x :: .int i :: .ref h :: st) S r S' := by
  subst e
  exact x_iast hd ho (inB_in hin) k
theorem y_bast {i x : Int32} (e : S1 = sI S h i.toNatClampNeg (vp_nar .byte x)) (hd : decode μ.2.1 pc = .ok (.bastore, 1)) (ho : KS[h]? = some (3, n)) (hin : inB i n = true) (k : Ek X d μ (pc + 1) L st S1 r S') : Ek X d μ pc L (.int x :: .int i :: .ref h :: st) S r S' := by
  subst e
  exact x_bast hd ho (inB_in hin) k
theorem y_zast {i x : Int32} (e : S1 = sI S h i.toNatClampNeg (vp_nar .boolean x)) (hd : decode μ.2.1 pc = .ok (.bastore, 1)) (ho : KS[h]? = some (4, n)) (hin : inB i n = true) (k : Ek X d μ (pc + 1) L st S1 r S') : Ek X d μ pc L (.int x :: .int i :: .ref h :: st) S r S' := by
  subst e
  exact x_zast hd ho (inB_in hin) k
theorem y_last {i : Int32} {x : Int64} (e : S1 = sL S h i.toNatClampNeg x) (hd : decode μ.2.1 pc = .ok (.lastore, 1)) (ho : KS[h]? = some (2, n)) (hin : inB i n = true) (k : Ek X d μ (pc + 1) L st S1 r S') : Ek X d μ pc L (.long x :: .int i :: .ref h :: st) S r S' := by
  subst e
  exact x_last hd ho (inB_in hin) k
theorem y_istore_n {k4 : Fin 4} {i : Nat} {x v : Int32} (e : v = x) (hd : decode μ.2.1 pc = .ok (.istore_n k4, 1)) (hi : (k4 : Nat) = i) (hn : i < μ.2.2.1) (hok : lok i L = true) (hL : lput i (.int v) L = L1) (k : Ek X d μ (pc + 1) L1 st S r S') : Ek X d μ pc L (.int x :: st) S r S' := by
  subst e
  exact x_istore_n hd hi hn hok hL k
theorem y_istore {i : Nat} {x v : Int32} (e : v = x) (hd : decode μ.2.1 pc = .ok (.istore i, 2)) (hn : i < μ.2.2.1) (hok : lok i L = true) (hL : lput i (.int v) L = L1) (k : Ek X d μ (pc + 2) L1 st S r S') : Ek X d μ pc L (.int x :: st) S r S' := by
  subst e
  exact x_istore hd hn hok hL k
theorem y_lstore_n {k4 : Fin 4} {i : Nat} {x v : Int64} (e : v = x) (hd : decode μ.2.1 pc = .ok (.lstore_n k4, 1)) (hi : (k4 : Nat) = i) (hn : i + 1 < μ.2.2.1) (hok : lok2 i L = true) (hL : lput i (.long v) L = L1) (k : Ek X d μ (pc + 1) L1 st S r S') : Ek X d μ pc L (.long x :: st) S r S' := by
  subst e
  exact x_lstore_n hd hi hn hok hL k
theorem y_iinc {i : Nat} {z : Int} {x c v : Int32} (e : v = x + c) (hz : Int32.ofInt z = c) (hd : decode μ.2.1 pc = .ok (.iinc i z, 3)) (j : Nat) (hj : L[j]? = some (i, .int x)) (hn : i < μ.2.2.1) (hok : lok i L = true) (hL : lput i (.int v) L = L1) (k : Ek X d μ (pc + 3) L1 st S r S') : Ek X d μ pc L st S r S' := by
  subst e
  subst hz
  exact x_iinc hd j hj rfl hn hok hL k
theorem y_copy {h' n' : Nat} {sp dp z : Int32} (e : S1 = sA S h' (va_cpy (S.1 h) (S.1 h') sp.toNatClampNeg dp.toNatClampNeg z.toNatClampNeg)) (hg : (decide (0 ≤ sp) && decide (0 ≤ dp) && decide (0 ≤ z) && decide (sp.toNatClampNeg + z.toNatClampNeg ≤ n) && decide (dp.toNatClampNeg + z.toNatClampNeg ≤ n')) = true) (hd : decode μ.2.1 pc = .ok (.invokestatic idx, 3)) (hw : Cond.methodLink μ.1.cls idx arraycopyName ∈ GW ∧ Cond.native arraycopyName ∈ GW ∧ Cond.static arraycopyName ∈ GW ∧ Cond.initialized "java/lang/System" ∈ GW) (ho : KS[h]? = some (1, n)) (ho' : KS[h']? = some (1, n')) (hst : (st.map fun v => v.category).sum ≤ 8) (k : Ek X (d + 1) μ (pc + 3) L st S1 r S') : Ek X (d + 1) μ pc L (.int z :: .int dp :: .ref h' :: .int sp :: .ref h :: st) S r S' := by
  subst e
  simp only [Bool.and_eq_true, decide_eq_true_eq] at hg
  obtain ⟨⟨⟨⟨g1, g2⟩, g3⟩, g4⟩, g5⟩ := hg
  exact x_copy hd hw ho ho' (Int32.not_lt.mpr g1) (Int32.not_lt.mpr g2) (Int32.not_lt.mpr g3) g4 g5 hst k
theorem y_pick (is : List Nat) (hL : is.filterMap (fun i => L[i]?) = L1) (k : Ek X d μ pc L1 st S r S') : Ek X d μ pc L st S r S' := by
  refine x_drop (fun q hq => ?_) k
  rw [← hL] at hq
  obtain ⟨i, -, hi⟩ := List.mem_filterMap.mp hq
  exact List.mem_of_getElem? hi
theorem y_V0v {μ' : Mt} (hd : decode μ.2.1 pc = .ok (.invokevirtual idx, 3)) (hm : mLV μ.1.cls idx μ' 0) (ho : KS[h]? = some (0, ci)) (hc : (classes[ci]?).map (fun q => q.1) = some μ'.1.cls) (hst : (st.map fun v => v.category).sum ≤ 8) (hsl : (lg_sl (.ref h :: [])).length ≤ μ'.2.2.1) (hE : Ek X d μ' 0 (lv_args 0 (.ref h :: [])) [] S none S1) (k : Ek X (d + 1) μ (pc + 3) L st S1 r S') : Ek X (d + 1) μ pc L (.ref h :: st) S r S' := x_invV (av := []) hd hm rfl ho hc hst hsl ⟨Nat.le_refl _, Nat.le_refl _⟩ hE k
theorem y_S0v {μ' : Mt} (hd : decode μ.2.1 pc = .ok (.invokestatic idx, 3)) (hm : mLS μ.1.cls idx μ' 0) (hst : (st.map fun v => v.category).sum ≤ 8) (hsl : (lg_sl []).length ≤ μ'.2.2.1) (hE : Ek X d μ' 0 (lv_args 0 []) [] S none S1) (k : Ek X (d + 1) μ (pc + 3) L st S1 r S') : Ek X (d + 1) μ pc L (st) S r S' := x_invS (av := []) hd hm rfl hst hsl ⟨Nat.le_refl _, Nat.le_refl _⟩ hE k
theorem y_V0i {μ' : Mt} {v : Int32} (hd : decode μ.2.1 pc = .ok (.invokevirtual idx, 3)) (hm : mLV μ.1.cls idx μ' 0) (ho : KS[h]? = some (0, ci)) (hc : (classes[ci]?).map (fun q => q.1) = some μ'.1.cls) (hst : (st.map fun v => v.category).sum ≤ 8) (hsl : (lg_sl (.ref h :: [])).length ≤ μ'.2.2.1) (hE : Ek X d μ' 0 (lv_args 0 (.ref h :: [])) [] S (some (.int v)) S1) (k : Ek X (d + 1) μ (pc + 3) L (.int v :: st) S1 r S') : Ek X (d + 1) μ pc L (.ref h :: st) S r S' := x_invV (av := []) hd hm rfl ho hc hst hsl ⟨Nat.le_refl _, Nat.le_refl _⟩ hE k
theorem y_S0i {μ' : Mt} {v : Int32} (hd : decode μ.2.1 pc = .ok (.invokestatic idx, 3)) (hm : mLS μ.1.cls idx μ' 0) (hst : (st.map fun v => v.category).sum ≤ 8) (hsl : (lg_sl []).length ≤ μ'.2.2.1) (hE : Ek X d μ' 0 (lv_args 0 []) [] S (some (.int v)) S1) (k : Ek X (d + 1) μ (pc + 3) L (.int v :: st) S1 r S') : Ek X (d + 1) μ pc L (st) S r S' := x_invS (av := []) hd hm rfl hst hsl ⟨Nat.le_refl _, Nat.le_refl _⟩ hE k
theorem y_V0l {μ' : Mt} {v : Int64} (hd : decode μ.2.1 pc = .ok (.invokevirtual idx, 3)) (hm : mLV μ.1.cls idx μ' 0) (ho : KS[h]? = some (0, ci)) (hc : (classes[ci]?).map (fun q => q.1) = some μ'.1.cls) (hst : (st.map fun v => v.category).sum ≤ 8) (hsl : (lg_sl (.ref h :: [])).length ≤ μ'.2.2.1) (hE : Ek X d μ' 0 (lv_args 0 (.ref h :: [])) [] S (some (.long v)) S1) (k : Ek X (d + 1) μ (pc + 3) L (.long v :: st) S1 r S') : Ek X (d + 1) μ pc L (.ref h :: st) S r S' := x_invV (av := []) hd hm rfl ho hc hst hsl ⟨Nat.le_refl _, Nat.le_refl _⟩ hE k
theorem y_S0l {μ' : Mt} {v : Int64} (hd : decode μ.2.1 pc = .ok (.invokestatic idx, 3)) (hm : mLS μ.1.cls idx μ' 0) (hst : (st.map fun v => v.category).sum ≤ 8) (hsl : (lg_sl []).length ≤ μ'.2.2.1) (hE : Ek X d μ' 0 (lv_args 0 []) [] S (some (.long v)) S1) (k : Ek X (d + 1) μ (pc + 3) L (.long v :: st) S1 r S') : Ek X (d + 1) μ pc L (st) S r S' := x_invS (av := []) hd hm rfl hst hsl ⟨Nat.le_refl _, Nat.le_refl _⟩ hE k
theorem y_V0r {μ' : Mt} {v : Nat} (hd : decode μ.2.1 pc = .ok (.invokevirtual idx, 3)) (hm : mLV μ.1.cls idx μ' 0) (ho : KS[h]? = some (0, ci)) (hc : (classes[ci]?).map (fun q => q.1) = some μ'.1.cls) (hst : (st.map fun v => v.category).sum ≤ 8) (hsl : (lg_sl (.ref h :: [])).length ≤ μ'.2.2.1) (hE : Ek X d μ' 0 (lv_args 0 (.ref h :: [])) [] S (some (.ref v)) S1) (k : Ek X (d + 1) μ (pc + 3) L (.ref v :: st) S1 r S') : Ek X (d + 1) μ pc L (.ref h :: st) S r S' := x_invV (av := []) hd hm rfl ho hc hst hsl ⟨Nat.le_refl _, Nat.le_refl _⟩ hE k
theorem y_S0r {μ' : Mt} {v : Nat} (hd : decode μ.2.1 pc = .ok (.invokestatic idx, 3)) (hm : mLS μ.1.cls idx μ' 0) (hst : (st.map fun v => v.category).sum ≤ 8) (hsl : (lg_sl []).length ≤ μ'.2.2.1) (hE : Ek X d μ' 0 (lv_args 0 []) [] S (some (.ref v)) S1) (k : Ek X (d + 1) μ (pc + 3) L (.ref v :: st) S1 r S') : Ek X (d + 1) μ pc L (st) S r S' := x_invS (av := []) hd hm rfl hst hsl ⟨Nat.le_refl _, Nat.le_refl _⟩ hE k
theorem y_V1v {μ' : Mt} {a1 : Value} (hd : decode μ.2.1 pc = .ok (.invokevirtual idx, 3)) (hm : mLV μ.1.cls idx μ' 1) (ho : KS[h]? = some (0, ci)) (hc : (classes[ci]?).map (fun q => q.1) = some μ'.1.cls) (hst : (st.map fun v => v.category).sum ≤ 8) (hsl : (lg_sl (.ref h :: [a1])).length ≤ μ'.2.2.1) (hE : Ek X d μ' 0 (lv_args 0 (.ref h :: [a1])) [] S none S1) (k : Ek X (d + 1) μ (pc + 3) L st S1 r S') : Ek X (d + 1) μ pc L (a1 :: .ref h :: st) S r S' := x_invV (av := [a1]) hd hm rfl ho hc hst hsl ⟨Nat.le_refl _, Nat.le_refl _⟩ hE k
theorem y_S1v {μ' : Mt} {a1 : Value} (hd : decode μ.2.1 pc = .ok (.invokestatic idx, 3)) (hm : mLS μ.1.cls idx μ' 1) (hst : (st.map fun v => v.category).sum ≤ 8) (hsl : (lg_sl [a1]).length ≤ μ'.2.2.1) (hE : Ek X d μ' 0 (lv_args 0 [a1]) [] S none S1) (k : Ek X (d + 1) μ (pc + 3) L st S1 r S') : Ek X (d + 1) μ pc L (a1 :: st) S r S' := x_invS (av := [a1]) hd hm rfl hst hsl ⟨Nat.le_refl _, Nat.le_refl _⟩ hE k
theorem y_V1i {μ' : Mt} {a1 : Value} {v : Int32} (hd : decode μ.2.1 pc = .ok (.invokevirtual idx, 3)) (hm : mLV μ.1.cls idx μ' 1) (ho : KS[h]? = some (0, ci)) (hc : (classes[ci]?).map (fun q => q.1) = some μ'.1.cls) (hst : (st.map fun v => v.category).sum ≤ 8) (hsl : (lg_sl (.ref h :: [a1])).length ≤ μ'.2.2.1) (hE : Ek X d μ' 0 (lv_args 0 (.ref h :: [a1])) [] S (some (.int v)) S1) (k : Ek X (d + 1) μ (pc + 3) L (.int v :: st) S1 r S') : Ek X (d + 1) μ pc L (a1 :: .ref h :: st) S r S' := x_invV (av := [a1]) hd hm rfl ho hc hst hsl ⟨Nat.le_refl _, Nat.le_refl _⟩ hE k
theorem y_S1i {μ' : Mt} {a1 : Value} {v : Int32} (hd : decode μ.2.1 pc = .ok (.invokestatic idx, 3)) (hm : mLS μ.1.cls idx μ' 1) (hst : (st.map fun v => v.category).sum ≤ 8) (hsl : (lg_sl [a1]).length ≤ μ'.2.2.1) (hE : Ek X d μ' 0 (lv_args 0 [a1]) [] S (some (.int v)) S1) (k : Ek X (d + 1) μ (pc + 3) L (.int v :: st) S1 r S') : Ek X (d + 1) μ pc L (a1 :: st) S r S' := x_invS (av := [a1]) hd hm rfl hst hsl ⟨Nat.le_refl _, Nat.le_refl _⟩ hE k
theorem y_V1l {μ' : Mt} {a1 : Value} {v : Int64} (hd : decode μ.2.1 pc = .ok (.invokevirtual idx, 3)) (hm : mLV μ.1.cls idx μ' 1) (ho : KS[h]? = some (0, ci)) (hc : (classes[ci]?).map (fun q => q.1) = some μ'.1.cls) (hst : (st.map fun v => v.category).sum ≤ 8) (hsl : (lg_sl (.ref h :: [a1])).length ≤ μ'.2.2.1) (hE : Ek X d μ' 0 (lv_args 0 (.ref h :: [a1])) [] S (some (.long v)) S1) (k : Ek X (d + 1) μ (pc + 3) L (.long v :: st) S1 r S') : Ek X (d + 1) μ pc L (a1 :: .ref h :: st) S r S' := x_invV (av := [a1]) hd hm rfl ho hc hst hsl ⟨Nat.le_refl _, Nat.le_refl _⟩ hE k
theorem y_S1l {μ' : Mt} {a1 : Value} {v : Int64} (hd : decode μ.2.1 pc = .ok (.invokestatic idx, 3)) (hm : mLS μ.1.cls idx μ' 1) (hst : (st.map fun v => v.category).sum ≤ 8) (hsl : (lg_sl [a1]).length ≤ μ'.2.2.1) (hE : Ek X d μ' 0 (lv_args 0 [a1]) [] S (some (.long v)) S1) (k : Ek X (d + 1) μ (pc + 3) L (.long v :: st) S1 r S') : Ek X (d + 1) μ pc L (a1 :: st) S r S' := x_invS (av := [a1]) hd hm rfl hst hsl ⟨Nat.le_refl _, Nat.le_refl _⟩ hE k
theorem y_V1r {μ' : Mt} {a1 : Value} {v : Nat} (hd : decode μ.2.1 pc = .ok (.invokevirtual idx, 3)) (hm : mLV μ.1.cls idx μ' 1) (ho : KS[h]? = some (0, ci)) (hc : (classes[ci]?).map (fun q => q.1) = some μ'.1.cls) (hst : (st.map fun v => v.category).sum ≤ 8) (hsl : (lg_sl (.ref h :: [a1])).length ≤ μ'.2.2.1) (hE : Ek X d μ' 0 (lv_args 0 (.ref h :: [a1])) [] S (some (.ref v)) S1) (k : Ek X (d + 1) μ (pc + 3) L (.ref v :: st) S1 r S') : Ek X (d + 1) μ pc L (a1 :: .ref h :: st) S r S' := x_invV (av := [a1]) hd hm rfl ho hc hst hsl ⟨Nat.le_refl _, Nat.le_refl _⟩ hE k
theorem y_S1r {μ' : Mt} {a1 : Value} {v : Nat} (hd : decode μ.2.1 pc = .ok (.invokestatic idx, 3)) (hm : mLS μ.1.cls idx μ' 1) (hst : (st.map fun v => v.category).sum ≤ 8) (hsl : (lg_sl [a1]).length ≤ μ'.2.2.1) (hE : Ek X d μ' 0 (lv_args 0 [a1]) [] S (some (.ref v)) S1) (k : Ek X (d + 1) μ (pc + 3) L (.ref v :: st) S1 r S') : Ek X (d + 1) μ pc L (a1 :: st) S r S' := x_invS (av := [a1]) hd hm rfl hst hsl ⟨Nat.le_refl _, Nat.le_refl _⟩ hE k
theorem y_V2v {μ' : Mt} {a1 a2 : Value} (hd : decode μ.2.1 pc = .ok (.invokevirtual idx, 3)) (hm : mLV μ.1.cls idx μ' 2) (ho : KS[h]? = some (0, ci)) (hc : (classes[ci]?).map (fun q => q.1) = some μ'.1.cls) (hst : (st.map fun v => v.category).sum ≤ 8) (hsl : (lg_sl (.ref h :: [a1, a2])).length ≤ μ'.2.2.1) (hE : Ek X d μ' 0 (lv_args 0 (.ref h :: [a1, a2])) [] S none S1) (k : Ek X (d + 1) μ (pc + 3) L st S1 r S') : Ek X (d + 1) μ pc L (a2 :: a1 :: .ref h :: st) S r S' := x_invV (av := [a1, a2]) hd hm rfl ho hc hst hsl ⟨Nat.le_refl _, Nat.le_refl _⟩ hE k
theorem y_S2v {μ' : Mt} {a1 a2 : Value} (hd : decode μ.2.1 pc = .ok (.invokestatic idx, 3)) (hm : mLS μ.1.cls idx μ' 2) (hst : (st.map fun v => v.category).sum ≤ 8) (hsl : (lg_sl [a1, a2]).length ≤ μ'.2.2.1) (hE : Ek X d μ' 0 (lv_args 0 [a1, a2]) [] S none S1) (k : Ek X (d + 1) μ (pc + 3) L st S1 r S') : Ek X (d + 1) μ pc L (a2 :: a1 :: st) S r S' := x_invS (av := [a1, a2]) hd hm rfl hst hsl ⟨Nat.le_refl _, Nat.le_refl _⟩ hE k
theorem y_V2i {μ' : Mt} {a1 a2 : Value} {v : Int32} (hd : decode μ.2.1 pc = .ok (.invokevirtual idx, 3)) (hm : mLV μ.1.cls idx μ' 2) (ho : KS[h]? = some (0, ci)) (hc : (classes[ci]?).map (fun q => q.1) = some μ'.1.cls) (hst : (st.map fun v => v.category).sum ≤ 8) (hsl : (lg_sl (.ref h :: [a1, a2])).length ≤ μ'.2.2.1) (hE : Ek X d μ' 0 (lv_args 0 (.ref h :: [a1, a2])) [] S (some (.int v)) S1) (k : Ek X (d + 1) μ (pc + 3) L (.int v :: st) S1 r S') : Ek X (d + 1) μ pc L (a2 :: a1 :: .ref h :: st) S r S' := x_invV (av := [a1, a2]) hd hm rfl ho hc hst hsl ⟨Nat.le_refl _, Nat.le_refl _⟩ hE k
theorem y_S2i {μ' : Mt} {a1 a2 : Value} {v : Int32} (hd : decode μ.2.1 pc = .ok (.invokestatic idx, 3)) (hm : mLS μ.1.cls idx μ' 2) (hst : (st.map fun v => v.category).sum ≤ 8) (hsl : (lg_sl [a1, a2]).length ≤ μ'.2.2.1) (hE : Ek X d μ' 0 (lv_args 0 [a1, a2]) [] S (some (.int v)) S1) (k : Ek X (d + 1) μ (pc + 3) L (.int v :: st) S1 r S') : Ek X (d + 1) μ pc L (a2 :: a1 :: st) S r S' := x_invS (av := [a1, a2]) hd hm rfl hst hsl ⟨Nat.le_refl _, Nat.le_refl _⟩ hE k
theorem y_V2l {μ' : Mt} {a1 a2 : Value} {v : Int64} (hd : decode μ.2.1 pc = .ok (.invokevirtual idx, 3)) (hm : mLV μ.1.cls idx μ' 2) (ho : KS[h]? = some (0, ci)) (hc : (classes[ci]?).map (fun q => q.1) = some μ'.1.cls) (hst : (st.map fun v => v.category).sum ≤ 8) (hsl : (lg_sl (.ref h :: [a1, a2])).length ≤ μ'.2.2.1) (hE : Ek X d μ' 0 (lv_args 0 (.ref h :: [a1, a2])) [] S (some (.long v)) S1) (k : Ek X (d + 1) μ (pc + 3) L (.long v :: st) S1 r S') : Ek X (d + 1) μ pc L (a2 :: a1 :: .ref h :: st) S r S' := x_invV (av := [a1, a2]) hd hm rfl ho hc hst hsl ⟨Nat.le_refl _, Nat.le_refl _⟩ hE k
theorem y_S2l {μ' : Mt} {a1 a2 : Value} {v : Int64} (hd : decode μ.2.1 pc = .ok (.invokestatic idx, 3)) (hm : mLS μ.1.cls idx μ' 2) (hst : (st.map fun v => v.category).sum ≤ 8) (hsl : (lg_sl [a1, a2]).length ≤ μ'.2.2.1) (hE : Ek X d μ' 0 (lv_args 0 [a1, a2]) [] S (some (.long v)) S1) (k : Ek X (d + 1) μ (pc + 3) L (.long v :: st) S1 r S') : Ek X (d + 1) μ pc L (a2 :: a1 :: st) S r S' := x_invS (av := [a1, a2]) hd hm rfl hst hsl ⟨Nat.le_refl _, Nat.le_refl _⟩ hE k
theorem y_V2r {μ' : Mt} {a1 a2 : Value} {v : Nat} (hd : decode μ.2.1 pc = .ok (.invokevirtual idx, 3)) (hm : mLV μ.1.cls idx μ' 2) (ho : KS[h]? = some (0, ci)) (hc : (classes[ci]?).map (fun q => q.1) = some μ'.1.cls) (hst : (st.map fun v => v.category).sum ≤ 8) (hsl : (lg_sl (.ref h :: [a1, a2])).length ≤ μ'.2.2.1) (hE : Ek X d μ' 0 (lv_args 0 (.ref h :: [a1, a2])) [] S (some (.ref v)) S1) (k : Ek X (d + 1) μ (pc + 3) L (.ref v :: st) S1 r S') : Ek X (d + 1) μ pc L (a2 :: a1 :: .ref h :: st) S r S' := x_invV (av := [a1, a2]) hd hm rfl ho hc hst hsl ⟨Nat.le_refl _, Nat.le_refl _⟩ hE k
theorem y_S2r {μ' : Mt} {a1 a2 : Value} {v : Nat} (hd : decode μ.2.1 pc = .ok (.invokestatic idx, 3)) (hm : mLS μ.1.cls idx μ' 2) (hst : (st.map fun v => v.category).sum ≤ 8) (hsl : (lg_sl [a1, a2]).length ≤ μ'.2.2.1) (hE : Ek X d μ' 0 (lv_args 0 [a1, a2]) [] S (some (.ref v)) S1) (k : Ek X (d + 1) μ (pc + 3) L (.ref v :: st) S1 r S') : Ek X (d + 1) μ pc L (a2 :: a1 :: st) S r S' := x_invS (av := [a1, a2]) hd hm rfl hst hsl ⟨Nat.le_refl _, Nat.le_refl _⟩ hE k
theorem y_V3v {μ' : Mt} {a1 a2 a3 : Value} (hd : decode μ.2.1 pc = .ok (.invokevirtual idx, 3)) (hm : mLV μ.1.cls idx μ' 3) (ho : KS[h]? = some (0, ci)) (hc : (classes[ci]?).map (fun q => q.1) = some μ'.1.cls) (hst : (st.map fun v => v.category).sum ≤ 8) (hsl : (lg_sl (.ref h :: [a1, a2, a3])).length ≤ μ'.2.2.1) (hE : Ek X d μ' 0 (lv_args 0 (.ref h :: [a1, a2, a3])) [] S none S1) (k : Ek X (d + 1) μ (pc + 3) L st S1 r S') : Ek X (d + 1) μ pc L (a3 :: a2 :: a1 :: .ref h :: st) S r S' := x_invV (av := [a1, a2, a3]) hd hm rfl ho hc hst hsl ⟨Nat.le_refl _, Nat.le_refl _⟩ hE k
theorem y_S3v {μ' : Mt} {a1 a2 a3 : Value} (hd : decode μ.2.1 pc = .ok (.invokestatic idx, 3)) (hm : mLS μ.1.cls idx μ' 3) (hst : (st.map fun v => v.category).sum ≤ 8) (hsl : (lg_sl [a1, a2, a3]).length ≤ μ'.2.2.1) (hE : Ek X d μ' 0 (lv_args 0 [a1, a2, a3]) [] S none S1) (k : Ek X (d + 1) μ (pc + 3) L st S1 r S') : Ek X (d + 1) μ pc L (a3 :: a2 :: a1 :: st) S r S' := x_invS (av := [a1, a2, a3]) hd hm rfl hst hsl ⟨Nat.le_refl _, Nat.le_refl _⟩ hE k
theorem y_V3i {μ' : Mt} {a1 a2 a3 : Value} {v : Int32} (hd : decode μ.2.1 pc = .ok (.invokevirtual idx, 3)) (hm : mLV μ.1.cls idx μ' 3) (ho : KS[h]? = some (0, ci)) (hc : (classes[ci]?).map (fun q => q.1) = some μ'.1.cls) (hst : (st.map fun v => v.category).sum ≤ 8) (hsl : (lg_sl (.ref h :: [a1, a2, a3])).length ≤ μ'.2.2.1) (hE : Ek X d μ' 0 (lv_args 0 (.ref h :: [a1, a2, a3])) [] S (some (.int v)) S1) (k : Ek X (d + 1) μ (pc + 3) L (.int v :: st) S1 r S') : Ek X (d + 1) μ pc L (a3 :: a2 :: a1 :: .ref h :: st) S r S' := x_invV (av := [a1, a2, a3]) hd hm rfl ho hc hst hsl ⟨Nat.le_refl _, Nat.le_refl _⟩ hE k
theorem y_S3i {μ' : Mt} {a1 a2 a3 : Value} {v : Int32} (hd : decode μ.2.1 pc = .ok (.invokestatic idx, 3)) (hm : mLS μ.1.cls idx μ' 3) (hst : (st.map fun v => v.category).sum ≤ 8) (hsl : (lg_sl [a1, a2, a3]).length ≤ μ'.2.2.1) (hE : Ek X d μ' 0 (lv_args 0 [a1, a2, a3]) [] S (some (.int v)) S1) (k : Ek X (d + 1) μ (pc + 3) L (.int v :: st) S1 r S') : Ek X (d + 1) μ pc L (a3 :: a2 :: a1 :: st) S r S' := x_invS (av := [a1, a2, a3]) hd hm rfl hst hsl ⟨Nat.le_refl _, Nat.le_refl _⟩ hE k
theorem y_V3l {μ' : Mt} {a1 a2 a3 : Value} {v : Int64} (hd : decode μ.2.1 pc = .ok (.invokevirtual idx, 3)) (hm : mLV μ.1.cls idx μ' 3) (ho : KS[h]? = some (0, ci)) (hc : (classes[ci]?).map (fun q => q.1) = some μ'.1.cls) (hst : (st.map fun v => v.category).sum ≤ 8) (hsl : (lg_sl (.ref h :: [a1, a2, a3])).length ≤ μ'.2.2.1) (hE : Ek X d μ' 0 (lv_args 0 (.ref h :: [a1, a2, a3])) [] S (some (.long v)) S1) (k : Ek X (d + 1) μ (pc + 3) L (.long v :: st) S1 r S') : Ek X (d + 1) μ pc L (a3 :: a2 :: a1 :: .ref h :: st) S r S' := x_invV (av := [a1, a2, a3]) hd hm rfl ho hc hst hsl ⟨Nat.le_refl _, Nat.le_refl _⟩ hE k
theorem y_S3l {μ' : Mt} {a1 a2 a3 : Value} {v : Int64} (hd : decode μ.2.1 pc = .ok (.invokestatic idx, 3)) (hm : mLS μ.1.cls idx μ' 3) (hst : (st.map fun v => v.category).sum ≤ 8) (hsl : (lg_sl [a1, a2, a3]).length ≤ μ'.2.2.1) (hE : Ek X d μ' 0 (lv_args 0 [a1, a2, a3]) [] S (some (.long v)) S1) (k : Ek X (d + 1) μ (pc + 3) L (.long v :: st) S1 r S') : Ek X (d + 1) μ pc L (a3 :: a2 :: a1 :: st) S r S' := x_invS (av := [a1, a2, a3]) hd hm rfl hst hsl ⟨Nat.le_refl _, Nat.le_refl _⟩ hE k
theorem y_V3r {μ' : Mt} {a1 a2 a3 : Value} {v : Nat} (hd : decode μ.2.1 pc = .ok (.invokevirtual idx, 3)) (hm : mLV μ.1.cls idx μ' 3) (ho : KS[h]? = some (0, ci)) (hc : (classes[ci]?).map (fun q => q.1) = some μ'.1.cls) (hst : (st.map fun v => v.category).sum ≤ 8) (hsl : (lg_sl (.ref h :: [a1, a2, a3])).length ≤ μ'.2.2.1) (hE : Ek X d μ' 0 (lv_args 0 (.ref h :: [a1, a2, a3])) [] S (some (.ref v)) S1) (k : Ek X (d + 1) μ (pc + 3) L (.ref v :: st) S1 r S') : Ek X (d + 1) μ pc L (a3 :: a2 :: a1 :: .ref h :: st) S r S' := x_invV (av := [a1, a2, a3]) hd hm rfl ho hc hst hsl ⟨Nat.le_refl _, Nat.le_refl _⟩ hE k
theorem y_S3r {μ' : Mt} {a1 a2 a3 : Value} {v : Nat} (hd : decode μ.2.1 pc = .ok (.invokestatic idx, 3)) (hm : mLS μ.1.cls idx μ' 3) (hst : (st.map fun v => v.category).sum ≤ 8) (hsl : (lg_sl [a1, a2, a3]).length ≤ μ'.2.2.1) (hE : Ek X d μ' 0 (lv_args 0 [a1, a2, a3]) [] S (some (.ref v)) S1) (k : Ek X (d + 1) μ (pc + 3) L (.ref v :: st) S1 r S') : Ek X (d + 1) μ pc L (a3 :: a2 :: a1 :: st) S r S' := x_invS (av := [a1, a2, a3]) hd hm rfl hst hsl ⟨Nat.le_refl _, Nat.le_refl _⟩ hE k
theorem y_V4v {μ' : Mt} {a1 a2 a3 a4 : Value} (hd : decode μ.2.1 pc = .ok (.invokevirtual idx, 3)) (hm : mLV μ.1.cls idx μ' 4) (ho : KS[h]? = some (0, ci)) (hc : (classes[ci]?).map (fun q => q.1) = some μ'.1.cls) (hst : (st.map fun v => v.category).sum ≤ 8) (hsl : (lg_sl (.ref h :: [a1, a2, a3, a4])).length ≤ μ'.2.2.1) (hE : Ek X d μ' 0 (lv_args 0 (.ref h :: [a1, a2, a3, a4])) [] S none S1) (k : Ek X (d + 1) μ (pc + 3) L st S1 r S') : Ek X (d + 1) μ pc L (a4 :: a3 :: a2 :: a1 :: .ref h :: st) S r S' := x_invV (av := [a1, a2, a3, a4]) hd hm rfl ho hc hst hsl ⟨Nat.le_refl _, Nat.le_refl _⟩ hE k
theorem y_S4v {μ' : Mt} {a1 a2 a3 a4 : Value} (hd : decode μ.2.1 pc = .ok (.invokestatic idx, 3)) (hm : mLS μ.1.cls idx μ' 4) (hst : (st.map fun v => v.category).sum ≤ 8) (hsl : (lg_sl [a1, a2, a3, a4]).length ≤ μ'.2.2.1) (hE : Ek X d μ' 0 (lv_args 0 [a1, a2, a3, a4]) [] S none S1) (k : Ek X (d + 1) μ (pc + 3) L st S1 r S') : Ek X (d + 1) μ pc L (a4 :: a3 :: a2 :: a1 :: st) S r S' := x_invS (av := [a1, a2, a3, a4]) hd hm rfl hst hsl ⟨Nat.le_refl _, Nat.le_refl _⟩ hE k
theorem y_V4i {μ' : Mt} {a1 a2 a3 a4 : Value} {v : Int32} (hd : decode μ.2.1 pc = .ok (.invokevirtual idx, 3)) (hm : mLV μ.1.cls idx μ' 4) (ho : KS[h]? = some (0, ci)) (hc : (classes[ci]?).map (fun q => q.1) = some μ'.1.cls) (hst : (st.map fun v => v.category).sum ≤ 8) (hsl : (lg_sl (.ref h :: [a1, a2, a3, a4])).length ≤ μ'.2.2.1) (hE : Ek X d μ' 0 (lv_args 0 (.ref h :: [a1, a2, a3, a4])) [] S (some (.int v)) S1) (k : Ek X (d + 1) μ (pc + 3) L (.int v :: st) S1 r S') : Ek X (d + 1) μ pc L (a4 :: a3 :: a2 :: a1 :: .ref h :: st) S r S' := x_invV (av := [a1, a2, a3, a4]) hd hm rfl ho hc hst hsl ⟨Nat.le_refl _, Nat.le_refl _⟩ hE k
theorem y_S4i {μ' : Mt} {a1 a2 a3 a4 : Value} {v : Int32} (hd : decode μ.2.1 pc = .ok (.invokestatic idx, 3)) (hm : mLS μ.1.cls idx μ' 4) (hst : (st.map fun v => v.category).sum ≤ 8) (hsl : (lg_sl [a1, a2, a3, a4]).length ≤ μ'.2.2.1) (hE : Ek X d μ' 0 (lv_args 0 [a1, a2, a3, a4]) [] S (some (.int v)) S1) (k : Ek X (d + 1) μ (pc + 3) L (.int v :: st) S1 r S') : Ek X (d + 1) μ pc L (a4 :: a3 :: a2 :: a1 :: st) S r S' := x_invS (av := [a1, a2, a3, a4]) hd hm rfl hst hsl ⟨Nat.le_refl _, Nat.le_refl _⟩ hE k
theorem y_V4l {μ' : Mt} {a1 a2 a3 a4 : Value} {v : Int64} (hd : decode μ.2.1 pc = .ok (.invokevirtual idx, 3)) (hm : mLV μ.1.cls idx μ' 4) (ho : KS[h]? = some (0, ci)) (hc : (classes[ci]?).map (fun q => q.1) = some μ'.1.cls) (hst : (st.map fun v => v.category).sum ≤ 8) (hsl : (lg_sl (.ref h :: [a1, a2, a3, a4])).length ≤ μ'.2.2.1) (hE : Ek X d μ' 0 (lv_args 0 (.ref h :: [a1, a2, a3, a4])) [] S (some (.long v)) S1) (k : Ek X (d + 1) μ (pc + 3) L (.long v :: st) S1 r S') : Ek X (d + 1) μ pc L (a4 :: a3 :: a2 :: a1 :: .ref h :: st) S r S' := x_invV (av := [a1, a2, a3, a4]) hd hm rfl ho hc hst hsl ⟨Nat.le_refl _, Nat.le_refl _⟩ hE k
theorem y_S4l {μ' : Mt} {a1 a2 a3 a4 : Value} {v : Int64} (hd : decode μ.2.1 pc = .ok (.invokestatic idx, 3)) (hm : mLS μ.1.cls idx μ' 4) (hst : (st.map fun v => v.category).sum ≤ 8) (hsl : (lg_sl [a1, a2, a3, a4]).length ≤ μ'.2.2.1) (hE : Ek X d μ' 0 (lv_args 0 [a1, a2, a3, a4]) [] S (some (.long v)) S1) (k : Ek X (d + 1) μ (pc + 3) L (.long v :: st) S1 r S') : Ek X (d + 1) μ pc L (a4 :: a3 :: a2 :: a1 :: st) S r S' := x_invS (av := [a1, a2, a3, a4]) hd hm rfl hst hsl ⟨Nat.le_refl _, Nat.le_refl _⟩ hE k
theorem y_V4r {μ' : Mt} {a1 a2 a3 a4 : Value} {v : Nat} (hd : decode μ.2.1 pc = .ok (.invokevirtual idx, 3)) (hm : mLV μ.1.cls idx μ' 4) (ho : KS[h]? = some (0, ci)) (hc : (classes[ci]?).map (fun q => q.1) = some μ'.1.cls) (hst : (st.map fun v => v.category).sum ≤ 8) (hsl : (lg_sl (.ref h :: [a1, a2, a3, a4])).length ≤ μ'.2.2.1) (hE : Ek X d μ' 0 (lv_args 0 (.ref h :: [a1, a2, a3, a4])) [] S (some (.ref v)) S1) (k : Ek X (d + 1) μ (pc + 3) L (.ref v :: st) S1 r S') : Ek X (d + 1) μ pc L (a4 :: a3 :: a2 :: a1 :: .ref h :: st) S r S' := x_invV (av := [a1, a2, a3, a4]) hd hm rfl ho hc hst hsl ⟨Nat.le_refl _, Nat.le_refl _⟩ hE k
theorem y_S4r {μ' : Mt} {a1 a2 a3 a4 : Value} {v : Nat} (hd : decode μ.2.1 pc = .ok (.invokestatic idx, 3)) (hm : mLS μ.1.cls idx μ' 4) (hst : (st.map fun v => v.category).sum ≤ 8) (hsl : (lg_sl [a1, a2, a3, a4]).length ≤ μ'.2.2.1) (hE : Ek X d μ' 0 (lv_args 0 [a1, a2, a3, a4]) [] S (some (.ref v)) S1) (k : Ek X (d + 1) μ (pc + 3) L (.ref v :: st) S1 r S') : Ek X (d + 1) μ pc L (a4 :: a3 :: a2 :: a1 :: st) S r S' := x_invS (av := [a1, a2, a3, a4]) hd hm rfl hst hsl ⟨Nat.le_refl _, Nat.le_refl _⟩ hE k
theorem y_V5v {μ' : Mt} {a1 a2 a3 a4 a5 : Value} (hd : decode μ.2.1 pc = .ok (.invokevirtual idx, 3)) (hm : mLV μ.1.cls idx μ' 5) (ho : KS[h]? = some (0, ci)) (hc : (classes[ci]?).map (fun q => q.1) = some μ'.1.cls) (hst : (st.map fun v => v.category).sum ≤ 8) (hsl : (lg_sl (.ref h :: [a1, a2, a3, a4, a5])).length ≤ μ'.2.2.1) (hE : Ek X d μ' 0 (lv_args 0 (.ref h :: [a1, a2, a3, a4, a5])) [] S none S1) (k : Ek X (d + 1) μ (pc + 3) L st S1 r S') : Ek X (d + 1) μ pc L (a5 :: a4 :: a3 :: a2 :: a1 :: .ref h :: st) S r S' := x_invV (av := [a1, a2, a3, a4, a5]) hd hm rfl ho hc hst hsl ⟨Nat.le_refl _, Nat.le_refl _⟩ hE k
theorem y_S5v {μ' : Mt} {a1 a2 a3 a4 a5 : Value} (hd : decode μ.2.1 pc = .ok (.invokestatic idx, 3)) (hm : mLS μ.1.cls idx μ' 5) (hst : (st.map fun v => v.category).sum ≤ 8) (hsl : (lg_sl [a1, a2, a3, a4, a5]).length ≤ μ'.2.2.1) (hE : Ek X d μ' 0 (lv_args 0 [a1, a2, a3, a4, a5]) [] S none S1) (k : Ek X (d + 1) μ (pc + 3) L st S1 r S') : Ek X (d + 1) μ pc L (a5 :: a4 :: a3 :: a2 :: a1 :: st) S r S' := x_invS (av := [a1, a2, a3, a4, a5]) hd hm rfl hst hsl ⟨Nat.le_refl _, Nat.le_refl _⟩ hE k
theorem y_V5i {μ' : Mt} {a1 a2 a3 a4 a5 : Value} {v : Int32} (hd : decode μ.2.1 pc = .ok (.invokevirtual idx, 3)) (hm : mLV μ.1.cls idx μ' 5) (ho : KS[h]? = some (0, ci)) (hc : (classes[ci]?).map (fun q => q.1) = some μ'.1.cls) (hst : (st.map fun v => v.category).sum ≤ 8) (hsl : (lg_sl (.ref h :: [a1, a2, a3, a4, a5])).length ≤ μ'.2.2.1) (hE : Ek X d μ' 0 (lv_args 0 (.ref h :: [a1, a2, a3, a4, a5])) [] S (some (.int v)) S1) (k : Ek X (d + 1) μ (pc + 3) L (.int v :: st) S1 r S') : Ek X (d + 1) μ pc L (a5 :: a4 :: a3 :: a2 :: a1 :: .ref h :: st) S r S' := x_invV (av := [a1, a2, a3, a4, a5]) hd hm rfl ho hc hst hsl ⟨Nat.le_refl _, Nat.le_refl _⟩ hE k
theorem y_S5i {μ' : Mt} {a1 a2 a3 a4 a5 : Value} {v : Int32} (hd : decode μ.2.1 pc = .ok (.invokestatic idx, 3)) (hm : mLS μ.1.cls idx μ' 5) (hst : (st.map fun v => v.category).sum ≤ 8) (hsl : (lg_sl [a1, a2, a3, a4, a5]).length ≤ μ'.2.2.1) (hE : Ek X d μ' 0 (lv_args 0 [a1, a2, a3, a4, a5]) [] S (some (.int v)) S1) (k : Ek X (d + 1) μ (pc + 3) L (.int v :: st) S1 r S') : Ek X (d + 1) μ pc L (a5 :: a4 :: a3 :: a2 :: a1 :: st) S r S' := x_invS (av := [a1, a2, a3, a4, a5]) hd hm rfl hst hsl ⟨Nat.le_refl _, Nat.le_refl _⟩ hE k
theorem y_V5l {μ' : Mt} {a1 a2 a3 a4 a5 : Value} {v : Int64} (hd : decode μ.2.1 pc = .ok (.invokevirtual idx, 3)) (hm : mLV μ.1.cls idx μ' 5) (ho : KS[h]? = some (0, ci)) (hc : (classes[ci]?).map (fun q => q.1) = some μ'.1.cls) (hst : (st.map fun v => v.category).sum ≤ 8) (hsl : (lg_sl (.ref h :: [a1, a2, a3, a4, a5])).length ≤ μ'.2.2.1) (hE : Ek X d μ' 0 (lv_args 0 (.ref h :: [a1, a2, a3, a4, a5])) [] S (some (.long v)) S1) (k : Ek X (d + 1) μ (pc + 3) L (.long v :: st) S1 r S') : Ek X (d + 1) μ pc L (a5 :: a4 :: a3 :: a2 :: a1 :: .ref h :: st) S r S' := x_invV (av := [a1, a2, a3, a4, a5]) hd hm rfl ho hc hst hsl ⟨Nat.le_refl _, Nat.le_refl _⟩ hE k
theorem y_S5l {μ' : Mt} {a1 a2 a3 a4 a5 : Value} {v : Int64} (hd : decode μ.2.1 pc = .ok (.invokestatic idx, 3)) (hm : mLS μ.1.cls idx μ' 5) (hst : (st.map fun v => v.category).sum ≤ 8) (hsl : (lg_sl [a1, a2, a3, a4, a5]).length ≤ μ'.2.2.1) (hE : Ek X d μ' 0 (lv_args 0 [a1, a2, a3, a4, a5]) [] S (some (.long v)) S1) (k : Ek X (d + 1) μ (pc + 3) L (.long v :: st) S1 r S') : Ek X (d + 1) μ pc L (a5 :: a4 :: a3 :: a2 :: a1 :: st) S r S' := x_invS (av := [a1, a2, a3, a4, a5]) hd hm rfl hst hsl ⟨Nat.le_refl _, Nat.le_refl _⟩ hE k
theorem y_V5r {μ' : Mt} {a1 a2 a3 a4 a5 : Value} {v : Nat} (hd : decode μ.2.1 pc = .ok (.invokevirtual idx, 3)) (hm : mLV μ.1.cls idx μ' 5) (ho : KS[h]? = some (0, ci)) (hc : (classes[ci]?).map (fun q => q.1) = some μ'.1.cls) (hst : (st.map fun v => v.category).sum ≤ 8) (hsl : (lg_sl (.ref h :: [a1, a2, a3, a4, a5])).length ≤ μ'.2.2.1) (hE : Ek X d μ' 0 (lv_args 0 (.ref h :: [a1, a2, a3, a4, a5])) [] S (some (.ref v)) S1) (k : Ek X (d + 1) μ (pc + 3) L (.ref v :: st) S1 r S') : Ek X (d + 1) μ pc L (a5 :: a4 :: a3 :: a2 :: a1 :: .ref h :: st) S r S' := x_invV (av := [a1, a2, a3, a4, a5]) hd hm rfl ho hc hst hsl ⟨Nat.le_refl _, Nat.le_refl _⟩ hE k
theorem y_S5r {μ' : Mt} {a1 a2 a3 a4 a5 : Value} {v : Nat} (hd : decode μ.2.1 pc = .ok (.invokestatic idx, 3)) (hm : mLS μ.1.cls idx μ' 5) (hst : (st.map fun v => v.category).sum ≤ 8) (hsl : (lg_sl [a1, a2, a3, a4, a5]).length ≤ μ'.2.2.1) (hE : Ek X d μ' 0 (lv_args 0 [a1, a2, a3, a4, a5]) [] S (some (.ref v)) S1) (k : Ek X (d + 1) μ (pc + 3) L (.ref v :: st) S1 r S') : Ek X (d + 1) μ pc L (a5 :: a4 :: a3 :: a2 :: a1 :: st) S r S' := x_invS (av := [a1, a2, a3, a4, a5]) hd hm rfl hst hsl ⟨Nat.le_refl _, Nat.le_refl _⟩ hE k
theorem y_V6v {μ' : Mt} {a1 a2 a3 a4 a5 a6 : Value} (hd : decode μ.2.1 pc = .ok (.invokevirtual idx, 3)) (hm : mLV μ.1.cls idx μ' 6) (ho : KS[h]? = some (0, ci)) (hc : (classes[ci]?).map (fun q => q.1) = some μ'.1.cls) (hst : (st.map fun v => v.category).sum ≤ 8) (hsl : (lg_sl (.ref h :: [a1, a2, a3, a4, a5, a6])).length ≤ μ'.2.2.1) (hE : Ek X d μ' 0 (lv_args 0 (.ref h :: [a1, a2, a3, a4, a5, a6])) [] S none S1) (k : Ek X (d + 1) μ (pc + 3) L st S1 r S') : Ek X (d + 1) μ pc L (a6 :: a5 :: a4 :: a3 :: a2 :: a1 :: .ref h :: st) S r S' := x_invV (av := [a1, a2, a3, a4, a5, a6]) hd hm rfl ho hc hst hsl ⟨Nat.le_refl _, Nat.le_refl _⟩ hE k
theorem y_S6v {μ' : Mt} {a1 a2 a3 a4 a5 a6 : Value} (hd : decode μ.2.1 pc = .ok (.invokestatic idx, 3)) (hm : mLS μ.1.cls idx μ' 6) (hst : (st.map fun v => v.category).sum ≤ 8) (hsl : (lg_sl [a1, a2, a3, a4, a5, a6]).length ≤ μ'.2.2.1) (hE : Ek X d μ' 0 (lv_args 0 [a1, a2, a3, a4, a5, a6]) [] S none S1) (k : Ek X (d + 1) μ (pc + 3) L st S1 r S') : Ek X (d + 1) μ pc L (a6 :: a5 :: a4 :: a3 :: a2 :: a1 :: st) S r S' := x_invS (av := [a1, a2, a3, a4, a5, a6]) hd hm rfl hst hsl ⟨Nat.le_refl _, Nat.le_refl _⟩ hE k
theorem y_V6i {μ' : Mt} {a1 a2 a3 a4 a5 a6 : Value} {v : Int32} (hd : decode μ.2.1 pc = .ok (.invokevirtual idx, 3)) (hm : mLV μ.1.cls idx μ' 6) (ho : KS[h]? = some (0, ci)) (hc : (classes[ci]?).map (fun q => q.1) = some μ'.1.cls) (hst : (st.map fun v => v.category).sum ≤ 8) (hsl : (lg_sl (.ref h :: [a1, a2, a3, a4, a5, a6])).length ≤ μ'.2.2.1) (hE : Ek X d μ' 0 (lv_args 0 (.ref h :: [a1, a2, a3, a4, a5, a6])) [] S (some (.int v)) S1) (k : Ek X (d + 1) μ (pc + 3) L (.int v :: st) S1 r S') : Ek X (d + 1) μ pc L (a6 :: a5 :: a4 :: a3 :: a2 :: a1 :: .ref h :: st) S r S' := x_invV (av := [a1, a2, a3, a4, a5, a6]) hd hm rfl ho hc hst hsl ⟨Nat.le_refl _, Nat.le_refl _⟩ hE k
theorem y_S6i {μ' : Mt} {a1 a2 a3 a4 a5 a6 : Value} {v : Int32} (hd : decode μ.2.1 pc = .ok (.invokestatic idx, 3)) (hm : mLS μ.1.cls idx μ' 6) (hst : (st.map fun v => v.category).sum ≤ 8) (hsl : (lg_sl [a1, a2, a3, a4, a5, a6]).length ≤ μ'.2.2.1) (hE : Ek X d μ' 0 (lv_args 0 [a1, a2, a3, a4, a5, a6]) [] S (some (.int v)) S1) (k : Ek X (d + 1) μ (pc + 3) L (.int v :: st) S1 r S') : Ek X (d + 1) μ pc L (a6 :: a5 :: a4 :: a3 :: a2 :: a1 :: st) S r S' := x_invS (av := [a1, a2, a3, a4, a5, a6]) hd hm rfl hst hsl ⟨Nat.le_refl _, Nat.le_refl _⟩ hE k
theorem y_V6l {μ' : Mt} {a1 a2 a3 a4 a5 a6 : Value} {v : Int64} (hd : decode μ.2.1 pc = .ok (.invokevirtual idx, 3)) (hm : mLV μ.1.cls idx μ' 6) (ho : KS[h]? = some (0, ci)) (hc : (classes[ci]?).map (fun q => q.1) = some μ'.1.cls) (hst : (st.map fun v => v.category).sum ≤ 8) (hsl : (lg_sl (.ref h :: [a1, a2, a3, a4, a5, a6])).length ≤ μ'.2.2.1) (hE : Ek X d μ' 0 (lv_args 0 (.ref h :: [a1, a2, a3, a4, a5, a6])) [] S (some (.long v)) S1) (k : Ek X (d + 1) μ (pc + 3) L (.long v :: st) S1 r S') : Ek X (d + 1) μ pc L (a6 :: a5 :: a4 :: a3 :: a2 :: a1 :: .ref h :: st) S r S' := x_invV (av := [a1, a2, a3, a4, a5, a6]) hd hm rfl ho hc hst hsl ⟨Nat.le_refl _, Nat.le_refl _⟩ hE k
theorem y_S6l {μ' : Mt} {a1 a2 a3 a4 a5 a6 : Value} {v : Int64} (hd : decode μ.2.1 pc = .ok (.invokestatic idx, 3)) (hm : mLS μ.1.cls idx μ' 6) (hst : (st.map fun v => v.category).sum ≤ 8) (hsl : (lg_sl [a1, a2, a3, a4, a5, a6]).length ≤ μ'.2.2.1) (hE : Ek X d μ' 0 (lv_args 0 [a1, a2, a3, a4, a5, a6]) [] S (some (.long v)) S1) (k : Ek X (d + 1) μ (pc + 3) L (.long v :: st) S1 r S') : Ek X (d + 1) μ pc L (a6 :: a5 :: a4 :: a3 :: a2 :: a1 :: st) S r S' := x_invS (av := [a1, a2, a3, a4, a5, a6]) hd hm rfl hst hsl ⟨Nat.le_refl _, Nat.le_refl _⟩ hE k
theorem y_V6r {μ' : Mt} {a1 a2 a3 a4 a5 a6 : Value} {v : Nat} (hd : decode μ.2.1 pc = .ok (.invokevirtual idx, 3)) (hm : mLV μ.1.cls idx μ' 6) (ho : KS[h]? = some (0, ci)) (hc : (classes[ci]?).map (fun q => q.1) = some μ'.1.cls) (hst : (st.map fun v => v.category).sum ≤ 8) (hsl : (lg_sl (.ref h :: [a1, a2, a3, a4, a5, a6])).length ≤ μ'.2.2.1) (hE : Ek X d μ' 0 (lv_args 0 (.ref h :: [a1, a2, a3, a4, a5, a6])) [] S (some (.ref v)) S1) (k : Ek X (d + 1) μ (pc + 3) L (.ref v :: st) S1 r S') : Ek X (d + 1) μ pc L (a6 :: a5 :: a4 :: a3 :: a2 :: a1 :: .ref h :: st) S r S' := x_invV (av := [a1, a2, a3, a4, a5, a6]) hd hm rfl ho hc hst hsl ⟨Nat.le_refl _, Nat.le_refl _⟩ hE k
theorem y_S6r {μ' : Mt} {a1 a2 a3 a4 a5 a6 : Value} {v : Nat} (hd : decode μ.2.1 pc = .ok (.invokestatic idx, 3)) (hm : mLS μ.1.cls idx μ' 6) (hst : (st.map fun v => v.category).sum ≤ 8) (hsl : (lg_sl [a1, a2, a3, a4, a5, a6]).length ≤ μ'.2.2.1) (hE : Ek X d μ' 0 (lv_args 0 [a1, a2, a3, a4, a5, a6]) [] S (some (.ref v)) S1) (k : Ek X (d + 1) μ (pc + 3) L (.ref v :: st) S1 r S') : Ek X (d + 1) μ pc L (a6 :: a5 :: a4 :: a3 :: a2 :: a1 :: st) S r S' := x_invS (av := [a1, a2, a3, a4, a5, a6]) hd hm rfl hst hsl ⟨Nat.le_refl _, Nat.le_refl _⟩ hE k
theorem y_V7v {μ' : Mt} {a1 a2 a3 a4 a5 a6 a7 : Value} (hd : decode μ.2.1 pc = .ok (.invokevirtual idx, 3)) (hm : mLV μ.1.cls idx μ' 7) (ho : KS[h]? = some (0, ci)) (hc : (classes[ci]?).map (fun q => q.1) = some μ'.1.cls) (hst : (st.map fun v => v.category).sum ≤ 8) (hsl : (lg_sl (.ref h :: [a1, a2, a3, a4, a5, a6, a7])).length ≤ μ'.2.2.1) (hE : Ek X d μ' 0 (lv_args 0 (.ref h :: [a1, a2, a3, a4, a5, a6, a7])) [] S none S1) (k : Ek X (d + 1) μ (pc + 3) L st S1 r S') : Ek X (d + 1) μ pc L (a7 :: a6 :: a5 :: a4 :: a3 :: a2 :: a1 :: .ref h :: st) S r S' := x_invV (av := [a1, a2, a3, a4, a5, a6, a7]) hd hm rfl ho hc hst hsl ⟨Nat.le_refl _, Nat.le_refl _⟩ hE k
theorem y_S7v {μ' : Mt} {a1 a2 a3 a4 a5 a6 a7 : Value} (hd : decode μ.2.1 pc = .ok (.invokestatic idx, 3)) (hm : mLS μ.1.cls idx μ' 7) (hst : (st.map fun v => v.category).sum ≤ 8) (hsl : (lg_sl [a1, a2, a3, a4, a5, a6, a7]).length ≤ μ'.2.2.1) (hE : Ek X d μ' 0 (lv_args 0 [a1, a2, a3, a4, a5, a6, a7]) [] S none S1) (k : Ek X (d + 1) μ (pc + 3) L st S1 r S') : Ek X (d + 1) μ pc L (a7 :: a6 :: a5 :: a4 :: a3 :: a2 :: a1 :: st) S r S' := x_invS (av := [a1, a2, a3, a4, a5, a6, a7]) hd hm rfl hst hsl ⟨Nat.le_refl _, Nat.le_refl _⟩ hE k
theorem y_V7i {μ' : Mt} {a1 a2 a3 a4 a5 a6 a7 : Value} {v : Int32} (hd : decode μ.2.1 pc = .ok (.invokevirtual idx, 3)) (hm : mLV μ.1.cls idx μ' 7) (ho : KS[h]? = some (0, ci)) (hc : (classes[ci]?).map (fun q => q.1) = some μ'.1.cls) (hst : (st.map fun v => v.category).sum ≤ 8) (hsl : (lg_sl (.ref h :: [a1, a2, a3, a4, a5, a6, a7])).length ≤ μ'.2.2.1) (hE : Ek X d μ' 0 (lv_args 0 (.ref h :: [a1, a2, a3, a4, a5, a6, a7])) [] S (some (.int v)) S1) (k : Ek X (d + 1) μ (pc + 3) L (.int v :: st) S1 r S') : Ek X (d + 1) μ pc L (a7 :: a6 :: a5 :: a4 :: a3 :: a2 :: a1 :: .ref h :: st) S r S' := x_invV (av := [a1, a2, a3, a4, a5, a6, a7]) hd hm rfl ho hc hst hsl ⟨Nat.le_refl _, Nat.le_refl _⟩ hE k
theorem y_S7i {μ' : Mt} {a1 a2 a3 a4 a5 a6 a7 : Value} {v : Int32} (hd : decode μ.2.1 pc = .ok (.invokestatic idx, 3)) (hm : mLS μ.1.cls idx μ' 7) (hst : (st.map fun v => v.category).sum ≤ 8) (hsl : (lg_sl [a1, a2, a3, a4, a5, a6, a7]).length ≤ μ'.2.2.1) (hE : Ek X d μ' 0 (lv_args 0 [a1, a2, a3, a4, a5, a6, a7]) [] S (some (.int v)) S1) (k : Ek X (d + 1) μ (pc + 3) L (.int v :: st) S1 r S') : Ek X (d + 1) μ pc L (a7 :: a6 :: a5 :: a4 :: a3 :: a2 :: a1 :: st) S r S' := x_invS (av := [a1, a2, a3, a4, a5, a6, a7]) hd hm rfl hst hsl ⟨Nat.le_refl _, Nat.le_refl _⟩ hE k
theorem y_V7l {μ' : Mt} {a1 a2 a3 a4 a5 a6 a7 : Value} {v : Int64} (hd : decode μ.2.1 pc = .ok (.invokevirtual idx, 3)) (hm : mLV μ.1.cls idx μ' 7) (ho : KS[h]? = some (0, ci)) (hc : (classes[ci]?).map (fun q => q.1) = some μ'.1.cls) (hst : (st.map fun v => v.category).sum ≤ 8) (hsl : (lg_sl (.ref h :: [a1, a2, a3, a4, a5, a6, a7])).length ≤ μ'.2.2.1) (hE : Ek X d μ' 0 (lv_args 0 (.ref h :: [a1, a2, a3, a4, a5, a6, a7])) [] S (some (.long v)) S1) (k : Ek X (d + 1) μ (pc + 3) L (.long v :: st) S1 r S') : Ek X (d + 1) μ pc L (a7 :: a6 :: a5 :: a4 :: a3 :: a2 :: a1 :: .ref h :: st) S r S' := x_invV (av := [a1, a2, a3, a4, a5, a6, a7]) hd hm rfl ho hc hst hsl ⟨Nat.le_refl _, Nat.le_refl _⟩ hE k
theorem y_S7l {μ' : Mt} {a1 a2 a3 a4 a5 a6 a7 : Value} {v : Int64} (hd : decode μ.2.1 pc = .ok (.invokestatic idx, 3)) (hm : mLS μ.1.cls idx μ' 7) (hst : (st.map fun v => v.category).sum ≤ 8) (hsl : (lg_sl [a1, a2, a3, a4, a5, a6, a7]).length ≤ μ'.2.2.1) (hE : Ek X d μ' 0 (lv_args 0 [a1, a2, a3, a4, a5, a6, a7]) [] S (some (.long v)) S1) (k : Ek X (d + 1) μ (pc + 3) L (.long v :: st) S1 r S') : Ek X (d + 1) μ pc L (a7 :: a6 :: a5 :: a4 :: a3 :: a2 :: a1 :: st) S r S' := x_invS (av := [a1, a2, a3, a4, a5, a6, a7]) hd hm rfl hst hsl ⟨Nat.le_refl _, Nat.le_refl _⟩ hE k
theorem y_V7r {μ' : Mt} {a1 a2 a3 a4 a5 a6 a7 : Value} {v : Nat} (hd : decode μ.2.1 pc = .ok (.invokevirtual idx, 3)) (hm : mLV μ.1.cls idx μ' 7) (ho : KS[h]? = some (0, ci)) (hc : (classes[ci]?).map (fun q => q.1) = some μ'.1.cls) (hst : (st.map fun v => v.category).sum ≤ 8) (hsl : (lg_sl (.ref h :: [a1, a2, a3, a4, a5, a6, a7])).length ≤ μ'.2.2.1) (hE : Ek X d μ' 0 (lv_args 0 (.ref h :: [a1, a2, a3, a4, a5, a6, a7])) [] S (some (.ref v)) S1) (k : Ek X (d + 1) μ (pc + 3) L (.ref v :: st) S1 r S') : Ek X (d + 1) μ pc L (a7 :: a6 :: a5 :: a4 :: a3 :: a2 :: a1 :: .ref h :: st) S r S' := x_invV (av := [a1, a2, a3, a4, a5, a6, a7]) hd hm rfl ho hc hst hsl ⟨Nat.le_refl _, Nat.le_refl _⟩ hE k
theorem y_S7r {μ' : Mt} {a1 a2 a3 a4 a5 a6 a7 : Value} {v : Nat} (hd : decode μ.2.1 pc = .ok (.invokestatic idx, 3)) (hm : mLS μ.1.cls idx μ' 7) (hst : (st.map fun v => v.category).sum ≤ 8) (hsl : (lg_sl [a1, a2, a3, a4, a5, a6, a7]).length ≤ μ'.2.2.1) (hE : Ek X d μ' 0 (lv_args 0 [a1, a2, a3, a4, a5, a6, a7]) [] S (some (.ref v)) S1) (k : Ek X (d + 1) μ (pc + 3) L (.ref v :: st) S1 r S') : Ek X (d + 1) μ pc L (a7 :: a6 :: a5 :: a4 :: a3 :: a2 :: a1 :: st) S r S' := x_invS (av := [a1, a2, a3, a4, a5, a6, a7]) hd hm rfl hst hsl ⟨Nat.le_refl _, Nat.le_refl _⟩ hE k
theorem y_SN1i {μ' : Mt} {a1 : Value} {v : Int32} {host : String} (hd : decode μ.2.1 pc = .ok (.invokestatic idx, 3)) (hm : yOK μ' 1 ∧ Cond.static μ'.1 ∈ GW) (hnl : Cond.methodLinkNest μ.1.cls idx μ'.1 host ∈ nestL) (hst : (st.map fun v => v.category).sum ≤ 8) (hsl : (lg_sl [a1]).length ≤ μ'.2.2.1) (hE : Ek X d μ' 0 (lv_args 0 [a1]) [] S (some (.int v)) S1) (k : Ek X (d + 1) μ (pc + 3) L (.int v :: st) S1 r S') : Ek X (d + 1) μ pc L (a1 :: st) S r S' := x_invSN (av := [a1]) hd hm hnl rfl hst hsl ⟨Nat.le_refl _, Nat.le_refl _⟩ hE k
theorem y_T0i {μ' : Mt} {i : Nat} {v : Int32} (hd : decode μ.2.1 pc = .ok (.invokevirtual idx, 3)) (hm : mLV μ.1.cls idx μ' 0) (hi : decide (i < 2) = true) (hcl : μ'.1.cls = "java/lang/String") (hst : (st.map fun v => v.category).sum ≤ 8) (hsl : (lg_sl (.ref (1000 + 2 * i) :: [])).length ≤ μ'.2.2.1) (hE : Ek X d μ' 0 (lv_args 0 (.ref (1000 + 2 * i) :: [])) [] S (some (.int v)) S1) (k : Ek X (d + 1) μ (pc + 3) L (.int v :: st) S1 r S') : Ek X (d + 1) μ pc L (.ref (1000 + 2 * i) :: st) S r S' := x_invVS (av := []) hd hm rfl (of_decide_eq_true hi) rfl hcl hst hsl ⟨Nat.le_refl _, Nat.le_refl _⟩ hE k
theorem y_T1i {μ' : Mt} {a1 : Value} {i : Nat} {v : Int32} (hd : decode μ.2.1 pc = .ok (.invokevirtual idx, 3)) (hm : mLV μ.1.cls idx μ' 1) (hi : decide (i < 2) = true) (hcl : μ'.1.cls = "java/lang/String") (hst : (st.map fun v => v.category).sum ≤ 8) (hsl : (lg_sl (.ref (1000 + 2 * i) :: [a1])).length ≤ μ'.2.2.1) (hE : Ek X d μ' 0 (lv_args 0 (.ref (1000 + 2 * i) :: [a1])) [] S (some (.int v)) S1) (k : Ek X (d + 1) μ (pc + 3) L (.int v :: st) S1 r S') : Ek X (d + 1) μ pc L (a1 :: .ref (1000 + 2 * i) :: st) S r S' := x_invVS (av := [a1]) hd hm rfl (of_decide_eq_true hi) rfl hcl hst hsl ⟨Nat.le_refl _, Nat.le_refl _⟩ hE k
theorem y_T2i {μ' : Mt} {a1 a2 : Value} {i : Nat} {v : Int32} (hd : decode μ.2.1 pc = .ok (.invokevirtual idx, 3)) (hm : mLV μ.1.cls idx μ' 2) (hi : decide (i < 2) = true) (hcl : μ'.1.cls = "java/lang/String") (hst : (st.map fun v => v.category).sum ≤ 8) (hsl : (lg_sl (.ref (1000 + 2 * i) :: [a1, a2])).length ≤ μ'.2.2.1) (hE : Ek X d μ' 0 (lv_args 0 (.ref (1000 + 2 * i) :: [a1, a2])) [] S (some (.int v)) S1) (k : Ek X (d + 1) μ (pc + 3) L (.int v :: st) S1 r S') : Ek X (d + 1) μ pc L (a2 :: a1 :: .ref (1000 + 2 * i) :: st) S r S' := x_invVS (av := [a1, a2]) hd hm rfl (of_decide_eq_true hi) rfl hcl hst hsl ⟨Nat.le_refl _, Nat.le_refl _⟩ hE k
end YR
end
section
/-! the library's Math by its own laws -/
def mMmax (own : String) (idx : Nat) : Prop := Cond.methodLink own idx Lib.Math.max.name ∈ GW ∧ Cond.static Lib.Math.max.name ∈ GW ∧ Cond.initialized "java/lang/Math" ∈ GW ∧ Cond.code Lib.Math.max.name Lib.Math.max.code 2 (some .int) ∈ GW
theorem y_mmax {X : Nat × (Nat → Int32)} {d : Nat} {μ : Mt} {pc : Nat} {L : List (Nat × Value)} {st : List Value} {S : St} {r : Option Value} {S' : St} {idx : Nat} {x y : Int32} (hd : decode μ.2.1 pc = .ok (.invokestatic idx, 3)) (hw : mMmax μ.1.cls idx) (hst : (st.map fun v => v.category).sum ≤ 8) (k : Ek X (d + 1) μ (pc + 3) L (.int (if x < y then y else x) :: st) S r S') : Ek X (d + 1) μ pc L (.int y :: .int x :: st) S r S' := by
  intro l p e R s m args below meth c D dA σ A H locs cells slots mc ms ls Q C hP hD hS hl h1 h2 h3 h4 hret
  obtain ⟨hx, hb, hml, hown, hts, hr, hlk, hnm, hK, hA, hX, hfr, hlo⟩ := id C
  have hF : ((st.map (rv σ)).map fun v => v.category).sum + 13 ≤ R.locals := by
    rw [cat_sum hX.2.2.2.1.2]
    omega
  exact va_mmax hx hb (hml.trans hl.1.symm) hown (hts _ hw.1) (hts _ hw.2.1) (hts _ hw.2.2.1) (hts _ hw.2.2.2) (by omega) hF (by omega) (by omega) hd (k l p e R s m args below meth c D dA σ A H locs cells slots mc ms ls Q C hP hD hS hl h1 h2 h3 h4 hret)
def mMmin (own : String) (idx : Nat) : Prop := Cond.methodLink own idx Lib.Math.min.name ∈ GW ∧ Cond.static Lib.Math.min.name ∈ GW ∧ Cond.initialized "java/lang/Math" ∈ GW ∧ Cond.code Lib.Math.min.name Lib.Math.min.code 2 (some .int) ∈ GW
theorem y_mmin {X : Nat × (Nat → Int32)} {d : Nat} {μ : Mt} {pc : Nat} {L : List (Nat × Value)} {st : List Value} {S : St} {r : Option Value} {S' : St} {idx : Nat} {x y : Int32} (hd : decode μ.2.1 pc = .ok (.invokestatic idx, 3)) (hw : mMmin μ.1.cls idx) (hst : (st.map fun v => v.category).sum ≤ 8) (k : Ek X (d + 1) μ (pc + 3) L (.int (if y < x then y else x) :: st) S r S') : Ek X (d + 1) μ pc L (.int y :: .int x :: st) S r S' := by
  intro l p e R s m args below meth c D dA σ A H locs cells slots mc ms ls Q C hP hD hS hl h1 h2 h3 h4 hret
  obtain ⟨hx, hb, hml, hown, hts, hr, hlk, hnm, hK, hA, hX, hfr, hlo⟩ := id C
  have hF : ((st.map (rv σ)).map fun v => v.category).sum + 13 ≤ R.locals := by
    rw [cat_sum hX.2.2.2.1.2]
    omega
  exact va_mmin hx hb (hml.trans hl.1.symm) hown (hts _ hw.1) (hts _ hw.2.1) (hts _ hw.2.2.1) (hts _ hw.2.2.2) (by omega) hF (by omega) (by omega) hd (k l p e R s m args below meth c D dA σ A H locs cells slots mc ms ls Q C hP hD hS hl h1 h2 h3 h4 hret)
def mMabs (own : String) (idx : Nat) : Prop := Cond.methodLink own idx Lib.Math.abs.name ∈ GW ∧ Cond.static Lib.Math.abs.name ∈ GW ∧ Cond.initialized "java/lang/Math" ∈ GW ∧ Cond.code Lib.Math.abs.name Lib.Math.abs.code 1 (some .int) ∈ GW
theorem y_mabs {X : Nat × (Nat → Int32)} {d : Nat} {μ : Mt} {pc : Nat} {L : List (Nat × Value)} {st : List Value} {S : St} {r : Option Value} {S' : St} {idx : Nat} {x : Int32} (hd : decode μ.2.1 pc = .ok (.invokestatic idx, 3)) (hw : mMabs μ.1.cls idx) (hst : (st.map fun v => v.category).sum ≤ 8) (k : Ek X (d + 1) μ (pc + 3) L (.int (if 0 ≤ x then x else 0 - x) :: st) S r S') : Ek X (d + 1) μ pc L (.int x :: st) S r S' := by
  intro l p e R s m args below meth c D dA σ A H locs cells slots mc ms ls Q C hP hD hS hl h1 h2 h3 h4 hret
  obtain ⟨hx, hb, hml, hown, hts, hr, hlk, hnm, hK, hA, hX, hfr, hlo⟩ := id C
  have hF : ((st.map (rv σ)).map fun v => v.category).sum + 13 ≤ R.locals := by
    rw [cat_sum hX.2.2.2.1.2]
    omega
  exact va_mabs hx hb (hml.trans hl.1.symm) hown (hts _ hw.1) (hts _ hw.2.1) (hts _ hw.2.2.1) (hts _ hw.2.2.2) (by omega) hF (by omega) (by omega) hd (k l p e R s m args below meth c D dA σ A H locs cells slots mc ms ls Q C hP hD hS hl h1 h2 h3 h4 hret)
/-! methods, and what the tables say of them -/
abbrev m0 : Mt := (⟨"NinetyPlayersLaw", "law", "([I)Z"⟩, code, 4, (some FieldType.boolean))
abbrev m1 : Mt := (⟨"NinetyPlayers", "<init>", "()V"⟩, prog_1_method_1_code, 1, none)
theorem yk_1 : yOK m1 0 := ⟨⟨by decide, by decide, by decide +kernel⟩, by decide +kernel, by decide, gw_of (tb_1 (List.mem_of_getElem? (i := 26) rfl)) rfl, gw_of (tb_1 (List.mem_of_getElem? (i := 1) rfl)) rfl⟩
abbrev m3 : Mt := (⟨"NinetyPlayers$Reader", "<init>", "([B)V"⟩, prog_8_method_1_code, 2, none)
theorem yk_3 : yOK m3 1 := ⟨⟨by decide, by decide, by decide +kernel⟩, by decide +kernel, by decide, gw_of (tb_1 (List.mem_of_getElem? (i := 34) rfl)) rfl, gw_of (tb_1 (List.mem_of_getElem? (i := 2) rfl)) rfl⟩
abbrev m4 : Mt := (⟨"NinetyPlayers$Score", "<init>", "()V"⟩, prog_9_method_1_code, 1, none)
theorem yk_4 : yOK m4 0 := ⟨⟨by decide, by decide, by decide +kernel⟩, by decide +kernel, by decide, gw_of (tb_1 (List.mem_of_getElem? (i := 40) rfl)) rfl, gw_of (tb_1 (List.mem_of_getElem? (i := 3) rfl)) rfl⟩
abbrev m5 : Mt := (⟨"NinetyPlayers$Formula", "<init>", "()V"⟩, prog_4_method_1_code, 1, none)
theorem yk_5 : yOK m5 0 := ⟨⟨by decide, by decide, by decide +kernel⟩, by decide +kernel, by decide, gw_of (tb_1 (List.mem_of_getElem? (i := 46) rfl)) rfl, gw_of (tb_1 (List.mem_of_getElem? (i := 4) rfl)) rfl⟩
abbrev m6 : Mt := (⟨"NinetyPlayers$Score", "forget", "()V"⟩, prog_9_method_2_code, 1, none)
theorem yk_6 : yOK m6 0 := ⟨⟨by decide, by decide, by decide +kernel⟩, by decide +kernel, by decide, gw_of (tb_1 (List.mem_of_getElem? (i := 75) rfl)) rfl, gw_of (tb_1 (List.mem_of_getElem? (i := 3) rfl)) rfl⟩
abbrev m7 : Mt := (⟨"NinetyPlayers$Formula", "forget", "()V"⟩, prog_4_method_2_code, 1, none)
theorem yk_7 : yOK m7 0 := ⟨⟨by decide, by decide, by decide +kernel⟩, by decide +kernel, by decide, gw_of (tb_1 (List.mem_of_getElem? (i := 79) rfl)) rfl, gw_of (tb_1 (List.mem_of_getElem? (i := 4) rfl)) rfl⟩
abbrev m8 : Mt := (⟨"NinetyPlayers$Tokens", "<init>", "([B)V"⟩, prog_10_method_1_code, 2, none)
theorem yk_8 : yOK m8 1 := ⟨⟨by decide, by decide, by decide +kernel⟩, by decide +kernel, by decide, gw_of (tb_1 (List.mem_of_getElem? (i := 165) rfl)) rfl, gw_of (tb_1 (List.mem_of_getElem? (i := 5) rfl)) rfl⟩
abbrev m9 : Mt := (⟨"NinetyPlayers$Laying", "<init>", "()V"⟩, prog_6_method_1_code, 1, none)
theorem yk_9 : yOK m9 0 := ⟨⟨by decide, by decide, by decide +kernel⟩, by decide +kernel, by decide, gw_of (tb_1 (List.mem_of_getElem? (i := 217) rfl)) rfl, gw_of (tb_1 (List.mem_of_getElem? (i := 6) rfl)) rfl⟩
abbrev m10 : Mt := (⟨"NinetyPlayers$Acts", "<init>", "()V"⟩, prog_2_method_1_code, 1, none)
theorem yk_10 : yOK m10 0 := ⟨⟨by decide, by decide, by decide +kernel⟩, by decide +kernel, by decide, gw_of (tb_2 (List.mem_of_getElem? (i := 11) rfl)) rfl, gw_of (tb_1 (List.mem_of_getElem? (i := 7) rfl)) rfl⟩
abbrev m11 : Mt := (⟨"NinetyPlayers$Keyboard", "<init>", "()V"⟩, prog_5_method_1_code, 1, none)
theorem yk_11 : yOK m11 0 := ⟨⟨by decide, by decide, by decide +kernel⟩, by decide +kernel, by decide, gw_of (tb_2 (List.mem_of_getElem? (i := 38) rfl)) rfl, gw_of (tb_1 (List.mem_of_getElem? (i := 8) rfl)) rfl⟩
abbrev m12 : Mt := (⟨"NinetyPlayers$Arranger", "<init>", "(LNinetyPlayers$Keyboard;[I)V"⟩, prog_3_method_1_code, 3, none)
theorem yk_12 : yOK m12 2 := ⟨⟨by decide, by decide, by decide +kernel⟩, by decide +kernel, by decide, gw_of (tb_2 (List.mem_of_getElem? (i := 96) rfl)) rfl, gw_of (tb_1 (List.mem_of_getElem? (i := 9) rfl)) rfl⟩
abbrev m13 : Mt := (⟨"NinetyPlayers$Pedaller", "<init>", "(LNinetyPlayers$Keyboard;)V"⟩, prog_7_method_1_code, 2, none)
theorem yk_13 : yOK m13 1 := ⟨⟨by decide, by decide, by decide +kernel⟩, by decide +kernel, by decide, gw_of (tb_2 (List.mem_of_getElem? (i := 133) rfl)) rfl, gw_of (tb_1 (List.mem_of_getElem? (i := 10) rfl)) rfl⟩
abbrev m14 : Mt := (⟨"NinetyPlayers$Witness", "<init>", "()V"⟩, prog_11_method_1_code, 1, none)
theorem yk_14 : yOK m14 0 := ⟨⟨by decide, by decide, by decide +kernel⟩, by decide +kernel, by decide, gw_of (tb_2 (List.mem_of_getElem? (i := 146) rfl)) rfl, gw_of (tb_1 (List.mem_of_getElem? (i := 11) rfl)) rfl⟩
abbrev m15 : Mt := (⟨"NinetyPlayers$Laying", "follow", "(LNinetyPlayers$Score;)V"⟩, prog_6_method_2_code, 3, none)
theorem yk_15 : yOK m15 1 := ⟨⟨by decide, by decide, by decide +kernel⟩, by decide +kernel, by decide, gw_of (tb_2 (List.mem_of_getElem? (i := 193) rfl)) rfl, gw_of (tb_1 (List.mem_of_getElem? (i := 6) rfl)) rfl⟩
abbrev m16 : Mt := (⟨"NinetyPlayers", "feed", "(IIIII)I"⟩, prog_1_method_2_code, 6, (some FieldType.int))
theorem yk_16 : yOK m16 5 := ⟨⟨by decide, by decide, by decide +kernel⟩, by decide +kernel, by decide, gw_of (tb_3 (List.mem_of_getElem? (i := 0) rfl)) rfl, gw_of (tb_1 (List.mem_of_getElem? (i := 1) rfl)) rfl⟩
abbrev m17 : Mt := (⟨"NinetyPlayers", "putFourBytes", "(I)V"⟩, prog_1_method_3_code, 3, none)
theorem yk_17 : yOK m17 1 := ⟨⟨by decide, by decide, by decide +kernel⟩, by decide +kernel, by decide, gw_of (tb_3 (List.mem_of_getElem? (i := 4) rfl)) rfl, gw_of (tb_1 (List.mem_of_getElem? (i := 1) rfl)) rfl⟩
abbrev m18 : Mt := (⟨"NinetyPlayers", "end", "(I)I"⟩, prog_1_method_4_code, 2, (some FieldType.int))
theorem yk_18 : yOK m18 1 := ⟨⟨by decide, by decide, by decide +kernel⟩, by decide +kernel, by decide, gw_of (tb_3 (List.mem_of_getElem? (i := 8) rfl)) rfl, gw_of (tb_1 (List.mem_of_getElem? (i := 1) rfl)) rfl⟩
abbrev m19 : Mt := (⟨"NinetyPlayers", "score", "()I"⟩, prog_1_method_5_code, 3, (some FieldType.int))
theorem yk_19 : yOK m19 0 := ⟨⟨by decide, by decide, by decide +kernel⟩, by decide +kernel, by decide, gw_of (tb_3 (List.mem_of_getElem? (i := 12) rfl)) rfl, gw_of (tb_1 (List.mem_of_getElem? (i := 1) rfl)) rfl⟩
abbrev m20 : Mt := (⟨"NinetyPlayers$Reader", "reads", "(I)Z"⟩, prog_8_method_3_code, 3, (some FieldType.boolean))
theorem yk_20 : yOK m20 1 := ⟨⟨by decide, by decide, by decide +kernel⟩, by decide +kernel, by decide, gw_of (tb_3 (List.mem_of_getElem? (i := 16) rfl)) rfl, gw_of (tb_1 (List.mem_of_getElem? (i := 2) rfl)) rfl⟩
abbrev m21 : Mt := (⟨"NinetyPlayers$Tokens", "begin", "(I)V"⟩, prog_10_method_2_code, 2, none)
theorem yk_21 : yOK m21 1 := ⟨⟨by decide, by decide, by decide +kernel⟩, by decide +kernel, by decide, gw_of (tb_3 (List.mem_of_getElem? (i := 21) rfl)) rfl, gw_of (tb_1 (List.mem_of_getElem? (i := 5) rfl)) rfl⟩
abbrev m24 : Mt := (⟨"NinetyPlayers$Tokens", "step", "()V"⟩, prog_10_method_3_code, 2, none)
theorem yk_24 : yOK m24 0 := ⟨⟨by decide, by decide, by decide +kernel⟩, by decide +kernel, by decide, gw_of (tb_3 (List.mem_of_getElem? (i := 31) rfl)) rfl, gw_of (tb_1 (List.mem_of_getElem? (i := 5) rfl)) rfl⟩
abbrev m25 : Mt := (⟨"NinetyPlayers$Tokens", "at", "(I)I"⟩, prog_10_method_6_code, 2, (some FieldType.int))
theorem yk_25 : yOK m25 1 := ⟨⟨by decide, by decide, by decide +kernel⟩, by decide +kernel, by decide, gw_of (tb_3 (List.mem_of_getElem? (i := 35) rfl)) rfl, gw_of (tb_1 (List.mem_of_getElem? (i := 5) rfl)) rfl⟩
abbrev m26 : Mt := (⟨"NinetyPlayers$Tokens", "isBlank", "(I)Z"⟩, prog_10_method_7_code, 1, (some FieldType.boolean))
theorem yk_26 : yOK m26 1 := ⟨⟨by decide, by decide, by decide +kernel⟩, by decide +kernel, by decide, gw_of (tb_3 (List.mem_of_getElem? (i := 38) rfl)) rfl, gw_of (tb_1 (List.mem_of_getElem? (i := 5) rfl)) rfl⟩
abbrev m27 : Mt := (⟨"NinetyPlayers$Tokens", "isLetter", "(I)Z"⟩, prog_10_method_8_code, 1, (some FieldType.boolean))
theorem yk_27 : yOK m27 1 := ⟨⟨by decide, by decide, by decide +kernel⟩, by decide +kernel, by decide, gw_of (tb_3 (List.mem_of_getElem? (i := 41) rfl)) rfl, gw_of (tb_1 (List.mem_of_getElem? (i := 5) rfl)) rfl⟩
abbrev m28 : Mt := (⟨"NinetyPlayers$Tokens", "takeWord", "()V"⟩, prog_10_method_4_code, 1, none)
theorem yk_28 : yOK m28 0 := ⟨⟨by decide, by decide, by decide +kernel⟩, by decide +kernel, by decide, gw_of (tb_3 (List.mem_of_getElem? (i := 45) rfl)) rfl, gw_of (tb_1 (List.mem_of_getElem? (i := 5) rfl)) rfl⟩
abbrev m29 : Mt := (⟨"NinetyPlayers$Word", "numberOf", "([BII)I"⟩, prog_12_method_2_code, 4, (some FieldType.int))
theorem yk_29 : yOK m29 3 := ⟨⟨by decide, by decide, by decide +kernel⟩, by decide +kernel, by decide, gw_of (tb_3 (List.mem_of_getElem? (i := 48) rfl)) rfl, gw_of (tb_1 (List.mem_of_getElem? (i := 14) rfl)) rfl⟩
abbrev m30 : Mt := (⟨"NinetyPlayers$Word", "stands", "(I[BII)Z"⟩, prog_12_method_3_code, 8, (some FieldType.boolean))
theorem yk_30 : yOK m30 4 := ⟨⟨by decide, by decide, by decide +kernel⟩, by decide +kernel, by decide, gw_of (tb_3 (List.mem_of_getElem? (i := 51) rfl)) rfl, gw_of (tb_1 (List.mem_of_getElem? (i := 14) rfl)) rfl⟩
abbrev m31 : Mt := (⟨"java/lang/String", "length", "()I"⟩, prog_18_method_54_code, 1, (some FieldType.int))
theorem yk_31 : yOK m31 0 := ⟨⟨by decide, by decide, by decide +kernel⟩, by decide +kernel, by decide, gw_of (tb_3 (List.mem_of_getElem? (i := 56) rfl)) rfl, gw_of (tb_1 (List.mem_of_getElem? (i := 15) rfl)) rfl⟩
abbrev m32 : Mt := (⟨"java/lang/String", "coder", "()B"⟩, prog_18_method_152_code, 1, (some FieldType.byte))
theorem yk_32 : yOK m32 0 := ⟨⟨by decide, by decide, by decide +kernel⟩, by decide +kernel, by decide, gw_of (tb_3 (List.mem_of_getElem? (i := 60) rfl)) rfl, gw_of (tb_1 (List.mem_of_getElem? (i := 15) rfl)) rfl⟩
abbrev m33 : Mt := (⟨"java/lang/String", "charAt", "(I)C"⟩, prog_18_method_56_code, 2, (some FieldType.char))
theorem yk_33 : yOK m33 1 := ⟨⟨by decide, by decide, by decide +kernel⟩, by decide +kernel, by decide, gw_of (tb_3 (List.mem_of_getElem? (i := 66) rfl)) rfl, gw_of (tb_1 (List.mem_of_getElem? (i := 15) rfl)) rfl⟩
abbrev m34 : Mt := (⟨"java/lang/String", "isLatin1", "()Z"⟩, prog_18_method_154_code, 1, (some FieldType.boolean))
theorem yk_34 : yOK m34 0 := ⟨⟨by decide, by decide, by decide +kernel⟩, by decide +kernel, by decide, gw_of (tb_3 (List.mem_of_getElem? (i := 70) rfl)) rfl, gw_of (tb_1 (List.mem_of_getElem? (i := 15) rfl)) rfl⟩
abbrev m35 : Mt := (⟨"java/lang/StringLatin1", "charAt", "([BI)C"⟩, prog_19_method_2_code, 2, (some FieldType.char))
theorem yk_35 : yOK m35 2 := ⟨⟨by decide, by decide, by decide +kernel⟩, by decide +kernel, by decide, gw_of (tb_3 (List.mem_of_getElem? (i := 73) rfl)) rfl, gw_of (tb_1 (List.mem_of_getElem? (i := 16) rfl)) rfl⟩
abbrev m36 : Mt := (⟨"java/lang/String", "checkIndex", "(II)V"⟩, prog_18_method_155_code, 2, none)
theorem yk_36 : yOK m36 2 := ⟨⟨by decide, by decide, by decide +kernel⟩, by decide +kernel, by decide, gw_of (tb_3 (List.mem_of_getElem? (i := 76) rfl)) rfl, gw_of (tb_1 (List.mem_of_getElem? (i := 15) rfl)) rfl⟩
abbrev m37 : Mt := (⟨"jdk/internal/util/Preconditions", "checkIndex", "(IILjava/util/function/BiFunction;)I"⟩, prog_22_method_11_code, 3, (some FieldType.int))
theorem yk_37 : yOK m37 3 := ⟨⟨by decide, by decide, by decide +kernel⟩, by decide +kernel, by decide, gw_of (tb_3 (List.mem_of_getElem? (i := 81) rfl)) rfl, gw_of (tb_1 (List.mem_of_getElem? (i := 17) rfl)) rfl⟩
abbrev m42 : Mt := (⟨"NinetyPlayers$Tokens", "isDigit", "(I)Z"⟩, prog_10_method_9_code, 1, (some FieldType.boolean))
theorem yk_42 : yOK m42 1 := ⟨⟨by decide, by decide, by decide +kernel⟩, by decide +kernel, by decide, gw_of (tb_3 (List.mem_of_getElem? (i := 103) rfl)) rfl, gw_of (tb_1 (List.mem_of_getElem? (i := 5) rfl)) rfl⟩
abbrev m43 : Mt := (⟨"NinetyPlayers$Tokens", "takeNumber", "()V"⟩, prog_10_method_5_code, 1, none)
theorem yk_43 : yOK m43 0 := ⟨⟨by decide, by decide, by decide +kernel⟩, by decide +kernel, by decide, gw_of (tb_3 (List.mem_of_getElem? (i := 107) rfl)) rfl, gw_of (tb_1 (List.mem_of_getElem? (i := 5) rfl)) rfl⟩
abbrev m44 : Mt := (⟨"java/lang/String", "indexOf", "(I)I"⟩, prog_18_method_79_code, 2, (some FieldType.int))
theorem yk_44 : yOK m44 1 := ⟨⟨by decide, by decide, by decide +kernel⟩, by decide +kernel, by decide, gw_of (tb_3 (List.mem_of_getElem? (i := 112) rfl)) rfl, gw_of (tb_1 (List.mem_of_getElem? (i := 15) rfl)) rfl⟩
abbrev m45 : Mt := (⟨"java/lang/String", "indexOf", "(II)I"⟩, prog_18_method_80_code, 3, (some FieldType.int))
theorem yk_45 : yOK m45 2 := ⟨⟨by decide, by decide, by decide +kernel⟩, by decide +kernel, by decide, gw_of (tb_3 (List.mem_of_getElem? (i := 116) rfl)) rfl, gw_of (tb_1 (List.mem_of_getElem? (i := 15) rfl)) rfl⟩
abbrev m46 : Mt := (⟨"java/lang/StringLatin1", "indexOf", "([BIII)I"⟩, prog_19_method_22_code, 4, (some FieldType.int))
theorem yk_46 : yOK m46 4 := ⟨⟨by decide, by decide, by decide +kernel⟩, by decide +kernel, by decide, gw_of (tb_3 (List.mem_of_getElem? (i := 120) rfl)) rfl, gw_of (tb_1 (List.mem_of_getElem? (i := 16) rfl)) rfl⟩
abbrev m47 : Mt := (⟨"java/lang/StringLatin1", "canEncode", "(I)Z"⟩, prog_19_method_4_code, 1, (some FieldType.boolean))
theorem yk_47 : yOK m47 1 := ⟨⟨by decide, by decide, by decide +kernel⟩, by decide +kernel, by decide, gw_of (tb_3 (List.mem_of_getElem? (i := 123) rfl)) rfl, gw_of (tb_1 (List.mem_of_getElem? (i := 16) rfl)) rfl⟩
abbrev m48 : Mt := (⟨"java/lang/StringLatin1", "indexOfChar", "([BIII)I"⟩, prog_19_method_23_code, 6, (some FieldType.int))
theorem yk_48 : yOK m48 4 := ⟨⟨by decide, by decide, by decide +kernel⟩, by decide +kernel, by decide, gw_of (tb_3 (List.mem_of_getElem? (i := 128) rfl)) rfl, gw_of (tb_1 (List.mem_of_getElem? (i := 16) rfl)) rfl⟩
abbrev m59 : Mt := (⟨"NinetyPlayers$Reader", "line", "()V"⟩, prog_8_method_4_code, 2, none)
theorem yk_59 : yOK m59 0 := ⟨⟨by decide, by decide, by decide +kernel⟩, by decide +kernel, by decide, gw_of (tb_3 (List.mem_of_getElem? (i := 167) rfl)) rfl, gw_of (tb_1 (List.mem_of_getElem? (i := 2) rfl)) rfl⟩
abbrev m60 : Mt := (⟨"NinetyPlayers$Reader", "mayBegin", "(I)Z"⟩, prog_8_method_5_code, 2, (some FieldType.boolean))
theorem yk_60 : yOK m60 1 := ⟨⟨by decide, by decide, by decide +kernel⟩, by decide +kernel, by decide, gw_of (tb_3 (List.mem_of_getElem? (i := 171) rfl)) rfl, gw_of (tb_1 (List.mem_of_getElem? (i := 2) rfl)) rfl⟩
abbrev m61 : Mt := (⟨"NinetyPlayers$Reader", "refuse", "(I)V"⟩, prog_8_method_15_code, 2, none)
theorem yk_61 : yOK m61 1 := ⟨⟨by decide, by decide, by decide +kernel⟩, by decide +kernel, by decide, gw_of (tb_3 (List.mem_of_getElem? (i := 175) rfl)) rfl, gw_of (tb_1 (List.mem_of_getElem? (i := 2) rfl)) rfl⟩
abbrev m62 : Mt := (⟨"NinetyPlayers$Reader", "number", "(II)I"⟩, prog_8_method_10_code, 4, (some FieldType.int))
theorem yk_62 : yOK m62 2 := ⟨⟨by decide, by decide, by decide +kernel⟩, by decide +kernel, by decide, gw_of (tb_3 (List.mem_of_getElem? (i := 180) rfl)) rfl, gw_of (tb_1 (List.mem_of_getElem? (i := 2) rfl)) rfl⟩
abbrev m63 : Mt := (⟨"NinetyPlayers$Reader", "partLine", "()V"⟩, prog_8_method_6_code, 4, none)
theorem yk_63 : yOK m63 0 := ⟨⟨by decide, by decide, by decide +kernel⟩, by decide +kernel, by decide, gw_of (tb_3 (List.mem_of_getElem? (i := 184) rfl)) rfl, gw_of (tb_1 (List.mem_of_getElem? (i := 2) rfl)) rfl⟩
abbrev m64 : Mt := (⟨"NinetyPlayers$Score", "partNamed", "(J)I"⟩, prog_9_method_5_code, 4, (some FieldType.int))
theorem yk_64 : yOK m64 1 := ⟨⟨by decide, by decide, by decide +kernel⟩, by decide +kernel, by decide, gw_of (tb_3 (List.mem_of_getElem? (i := 188) rfl)) rfl, gw_of (tb_1 (List.mem_of_getElem? (i := 3) rfl)) rfl⟩
abbrev m65 : Mt := (⟨"NinetyPlayers$Reader", "newName", "(Z)J"⟩, prog_8_method_8_code, 4, (some FieldType.long))
theorem yk_65 : yOK m65 1 := ⟨⟨by decide, by decide, by decide +kernel⟩, by decide +kernel, by decide, gw_of (tb_3 (List.mem_of_getElem? (i := 192) rfl)) rfl, gw_of (tb_1 (List.mem_of_getElem? (i := 2) rfl)) rfl⟩
abbrev m66 : Mt := (⟨"NinetyPlayers$Reader", "isWord", "(I)Z"⟩, prog_8_method_11_code, 2, (some FieldType.boolean))
theorem yk_66 : yOK m66 1 := ⟨⟨by decide, by decide, by decide +kernel⟩, by decide +kernel, by decide, gw_of (tb_3 (List.mem_of_getElem? (i := 196) rfl)) rfl, gw_of (tb_1 (List.mem_of_getElem? (i := 2) rfl)) rfl⟩
abbrev m67 : Mt := (⟨"NinetyPlayers$Score", "addPart", "(JI)V"⟩, prog_9_method_3_code, 4, none)
theorem yk_67 : yOK m67 2 := ⟨⟨by decide, by decide, by decide +kernel⟩, by decide +kernel, by decide, gw_of (tb_3 (List.mem_of_getElem? (i := 200) rfl)) rfl, gw_of (tb_1 (List.mem_of_getElem? (i := 3) rfl)) rfl⟩
abbrev m68 : Mt := (⟨"NinetyPlayers$Reader", "noteLine", "()V"⟩, prog_8_method_7_code, 8, none)
theorem yk_68 : yOK m68 0 := ⟨⟨by decide, by decide, by decide +kernel⟩, by decide +kernel, by decide, gw_of (tb_3 (List.mem_of_getElem? (i := 204) rfl)) rfl, gw_of (tb_1 (List.mem_of_getElem? (i := 2) rfl)) rfl⟩
abbrev m69 : Mt := (⟨"NinetyPlayers$Score", "hasNoteNamed", "(J)Z"⟩, prog_9_method_6_code, 4, (some FieldType.boolean))
theorem yk_69 : yOK m69 1 := ⟨⟨by decide, by decide, by decide +kernel⟩, by decide +kernel, by decide, gw_of (tb_3 (List.mem_of_getElem? (i := 208) rfl)) rfl, gw_of (tb_1 (List.mem_of_getElem? (i := 3) rfl)) rfl⟩
abbrev m70 : Mt := (⟨"NinetyPlayers$Reader", "takeWord", "(I)V"⟩, prog_8_method_13_code, 2, none)
theorem yk_70 : yOK m70 1 := ⟨⟨by decide, by decide, by decide +kernel⟩, by decide +kernel, by decide, gw_of (tb_3 (List.mem_of_getElem? (i := 212) rfl)) rfl, gw_of (tb_1 (List.mem_of_getElem? (i := 2) rfl)) rfl⟩
abbrev m71 : Mt := (⟨"NinetyPlayers$Reader", "knownPart", "()I"⟩, prog_8_method_9_code, 2, (some FieldType.int))
theorem yk_71 : yOK m71 0 := ⟨⟨by decide, by decide, by decide +kernel⟩, by decide +kernel, by decide, gw_of (tb_3 (List.mem_of_getElem? (i := 216) rfl)) rfl, gw_of (tb_1 (List.mem_of_getElem? (i := 2) rfl)) rfl⟩
abbrev m72 : Mt := (⟨"NinetyPlayers$Score", "addNote", "(JIIIII)V"⟩, prog_9_method_4_code, 8, none)
theorem yk_72 : yOK m72 6 := ⟨⟨by decide, by decide, by decide +kernel⟩, by decide +kernel, by decide, gw_of (tb_3 (List.mem_of_getElem? (i := 220) rfl)) rfl, gw_of (tb_1 (List.mem_of_getElem? (i := 3) rfl)) rfl⟩
abbrev m73 : Mt := (⟨"NinetyPlayers$Reader", "either", "(I)V"⟩, prog_8_method_16_code, 3, none)
theorem yk_73 : yOK m73 1 := ⟨⟨by decide, by decide, by decide +kernel⟩, by decide +kernel, by decide, gw_of (tb_3 (List.mem_of_getElem? (i := 224) rfl)) rfl, gw_of (tb_1 (List.mem_of_getElem? (i := 2) rfl)) rfl⟩
abbrev m74 : Mt := (⟨"NinetyPlayers$Reader", "both", "(I)V"⟩, prog_8_method_17_code, 3, none)
theorem yk_74 : yOK m74 1 := ⟨⟨by decide, by decide, by decide +kernel⟩, by decide +kernel, by decide, gw_of (tb_3 (List.mem_of_getElem? (i := 228) rfl)) rfl, gw_of (tb_1 (List.mem_of_getElem? (i := 2) rfl)) rfl⟩
abbrev m75 : Mt := (⟨"NinetyPlayers$Reader", "one", "(I)V"⟩, prog_8_method_18_code, 3, none)
theorem yk_75 : yOK m75 1 := ⟨⟨by decide, by decide, by decide +kernel⟩, by decide +kernel, by decide, gw_of (tb_3 (List.mem_of_getElem? (i := 232) rfl)) rfl, gw_of (tb_1 (List.mem_of_getElem? (i := 2) rfl)) rfl⟩
abbrev m76 : Mt := (⟨"NinetyPlayers$Formula", "put", "(I)V"⟩, prog_4_method_4_code, 2, none)
theorem yk_76 : yOK m76 1 := ⟨⟨by decide, by decide, by decide +kernel⟩, by decide +kernel, by decide, gw_of (tb_3 (List.mem_of_getElem? (i := 236) rfl)) rfl, gw_of (tb_1 (List.mem_of_getElem? (i := 4) rfl)) rfl⟩
abbrev m77 : Mt := (⟨"NinetyPlayers$Reader", "sum", "(I)V"⟩, prog_8_method_19_code, 4, none)
theorem yk_77 : yOK m77 1 := ⟨⟨by decide, by decide, by decide +kernel⟩, by decide +kernel, by decide, gw_of (tb_4 (List.mem_of_getElem? (i := 0) rfl)) rfl, gw_of (tb_1 (List.mem_of_getElem? (i := 2) rfl)) rfl⟩
abbrev m78 : Mt := (⟨"NinetyPlayers$Reader", "term", "(I)V"⟩, prog_8_method_20_code, 4, none)
theorem yk_78 : yOK m78 1 := ⟨⟨by decide, by decide, by decide +kernel⟩, by decide +kernel, by decide, gw_of (tb_4 (List.mem_of_getElem? (i := 4) rfl)) rfl, gw_of (tb_1 (List.mem_of_getElem? (i := 2) rfl)) rfl⟩
abbrev m79 : Mt := (⟨"NinetyPlayers$Reader", "unit", "(I)V"⟩, prog_8_method_21_code, 6, none)
theorem yk_79 : yOK m79 1 := ⟨⟨by decide, by decide, by decide +kernel⟩, by decide +kernel, by decide, gw_of (tb_4 (List.mem_of_getElem? (i := 8) rfl)) rfl, gw_of (tb_1 (List.mem_of_getElem? (i := 2) rfl)) rfl⟩
abbrev m80 : Mt := (⟨"NinetyPlayers$Reader", "isSign", "(C)Z"⟩, prog_8_method_12_code, 2, (some FieldType.boolean))
theorem yk_80 : yOK m80 1 := ⟨⟨by decide, by decide, by decide +kernel⟩, by decide +kernel, by decide, gw_of (tb_4 (List.mem_of_getElem? (i := 12) rfl)) rfl, gw_of (tb_1 (List.mem_of_getElem? (i := 2) rfl)) rfl⟩
abbrev m81 : Mt := (⟨"NinetyPlayers$Reader", "takeSign", "(C)V"⟩, prog_8_method_14_code, 2, none)
theorem yk_81 : yOK m81 1 := ⟨⟨by decide, by decide, by decide +kernel⟩, by decide +kernel, by decide, gw_of (tb_4 (List.mem_of_getElem? (i := 16) rfl)) rfl, gw_of (tb_1 (List.mem_of_getElem? (i := 2) rfl)) rfl⟩
abbrev m82 : Mt := (⟨"NinetyPlayers$Reader", "exchange", "(LNinetyPlayers$Score;)LNinetyPlayers$Score;"⟩, prog_8_method_2_code, 3, (some (FieldType.object "NinetyPlayers$Score")))
theorem yk_82 : yOK m82 1 := ⟨⟨by decide, by decide, by decide +kernel⟩, by decide +kernel, by decide, gw_of (tb_4 (List.mem_of_getElem? (i := 20) rfl)) rfl, gw_of (tb_1 (List.mem_of_getElem? (i := 2) rfl)) rfl⟩
abbrev m83 : Mt := (⟨"NinetyPlayers$Acts", "forget", "()V"⟩, prog_2_method_2_code, 1, none)
theorem yk_83 : yOK m83 0 := ⟨⟨by decide, by decide, by decide +kernel⟩, by decide +kernel, by decide, gw_of (tb_4 (List.mem_of_getElem? (i := 24) rfl)) rfl, gw_of (tb_1 (List.mem_of_getElem? (i := 7) rfl)) rfl⟩
abbrev m84 : Mt := (⟨"NinetyPlayers$Witness", "forget", "()V"⟩, prog_11_method_2_code, 1, none)
theorem yk_84 : yOK m84 0 := ⟨⟨by decide, by decide, by decide +kernel⟩, by decide +kernel, by decide, gw_of (tb_4 (List.mem_of_getElem? (i := 28) rfl)) rfl, gw_of (tb_1 (List.mem_of_getElem? (i := 11) rfl)) rfl⟩
abbrev m85 : Mt := (⟨"NinetyPlayers", "fault", "(I)I"⟩, prog_1_method_6_code, 2, (some FieldType.int))
theorem yk_85 : yOK m85 1 := ⟨⟨by decide, by decide, by decide +kernel⟩, by decide +kernel, by decide, gw_of (tb_4 (List.mem_of_getElem? (i := 32) rfl)) rfl, gw_of (tb_1 (List.mem_of_getElem? (i := 1) rfl)) rfl⟩
abbrev m86 : Mt := (⟨"NinetyPlayers", "note", "(II)I"⟩, prog_1_method_7_code, 3, (some FieldType.int))
theorem yk_86 : yOK m86 2 := ⟨⟨by decide, by decide, by decide +kernel⟩, by decide +kernel, by decide, gw_of (tb_4 (List.mem_of_getElem? (i := 36) rfl)) rfl, gw_of (tb_1 (List.mem_of_getElem? (i := 1) rfl)) rfl⟩
abbrev m87 : Mt := (⟨"NinetyPlayers", "isNote", "(I)Z"⟩, prog_1_method_12_code, 2, (some FieldType.boolean))
theorem yk_87 : yOK m87 1 := ⟨⟨by decide, by decide, by decide +kernel⟩, by decide +kernel, by decide, gw_of (tb_4 (List.mem_of_getElem? (i := 40) rfl)) rfl, gw_of (tb_1 (List.mem_of_getElem? (i := 1) rfl)) rfl⟩
abbrev m88 : Mt := (⟨"NinetyPlayers", "missedOf", "(I)I"⟩, prog_1_method_20_code, 6, (some FieldType.int))
theorem yk_88 : yOK m88 1 := ⟨⟨by decide, by decide, by decide +kernel⟩, by decide +kernel, by decide, gw_of (tb_4 (List.mem_of_getElem? (i := 44) rfl)) rfl, gw_of (tb_1 (List.mem_of_getElem? (i := 1) rfl)) rfl⟩
abbrev m89 : Mt := (⟨"NinetyPlayers$Score", "roleOf", "(I)I"⟩, prog_9_method_8_code, 3, (some FieldType.int))
theorem yk_89 : yOK m89 1 := ⟨⟨by decide, by decide, by decide +kernel⟩, by decide +kernel, by decide, gw_of (tb_4 (List.mem_of_getElem? (i := 48) rfl)) rfl, gw_of (tb_1 (List.mem_of_getElem? (i := 3) rfl)) rfl⟩
abbrev m90 : Mt := (⟨"NinetyPlayers", "doublesOf", "(I)I"⟩, prog_1_method_19_code, 5, (some FieldType.int))
theorem yk_90 : yOK m90 1 := ⟨⟨by decide, by decide, by decide +kernel⟩, by decide +kernel, by decide, gw_of (tb_4 (List.mem_of_getElem? (i := 52) rfl)) rfl, gw_of (tb_1 (List.mem_of_getElem? (i := 1) rfl)) rfl⟩
abbrev m91 : Mt := (⟨"java/lang/Integer", "bitCount", "(I)I"⟩, prog_16_method_49_code, 1, (some FieldType.int))
theorem yk_91 : yOK m91 1 := ⟨⟨by decide, by decide, by decide +kernel⟩, by decide +kernel, by decide, gw_of (tb_4 (List.mem_of_getElem? (i := 55) rfl)) rfl, gw_of (tb_1 (List.mem_of_getElem? (i := 20) rfl)) rfl⟩
abbrev m92 : Mt := (⟨"NinetyPlayers$Formula", "isTold", "()Z"⟩, prog_4_method_3_code, 1, (some FieldType.boolean))
theorem yk_92 : yOK m92 0 := ⟨⟨by decide, by decide, by decide +kernel⟩, by decide +kernel, by decide, gw_of (tb_4 (List.mem_of_getElem? (i := 62) rfl)) rfl, gw_of (tb_1 (List.mem_of_getElem? (i := 4) rfl)) rfl⟩
abbrev m93 : Mt := (⟨"NinetyPlayers$Formula", "valueOf", "(IIIIII)I"⟩, prog_4_method_5_code, 8, (some FieldType.int))
theorem yk_93 : yOK m93 6 := ⟨⟨by decide, by decide, by decide +kernel⟩, by decide +kernel, by decide, gw_of (tb_4 (List.mem_of_getElem? (i := 66) rfl)) rfl, gw_of (tb_1 (List.mem_of_getElem? (i := 4) rfl)) rfl⟩
abbrev m94 : Mt := (⟨"NinetyPlayers$Formula", "step", "(I)V"⟩, prog_4_method_6_code, 3, none)
theorem yk_94 : yOK m94 1 := ⟨⟨by decide, by decide, by decide +kernel⟩, by decide +kernel, by decide, gw_of (tb_4 (List.mem_of_getElem? (i := 70) rfl)) rfl, gw_of (tb_1 (List.mem_of_getElem? (i := 4) rfl)) rfl⟩
abbrev m95 : Mt := (⟨"NinetyPlayers$Formula", "push", "(I)V"⟩, prog_4_method_7_code, 2, none)
theorem yk_95 : yOK m95 1 := ⟨⟨by decide, by decide, by decide +kernel⟩, by decide +kernel, by decide, gw_of (tb_4 (List.mem_of_getElem? (i := 74) rfl)) rfl, gw_of (tb_1 (List.mem_of_getElem? (i := 4) rfl)) rfl⟩
abbrev m96 : Mt := (⟨"NinetyPlayers$Formula", "joined", "(III)I"⟩, prog_4_method_8_code, 3, (some FieldType.int))
theorem yk_96 : yOK m96 3 := ⟨⟨by decide, by decide, by decide +kernel⟩, by decide +kernel, by decide, gw_of (tb_4 (List.mem_of_getElem? (i := 77) rfl)) rfl, gw_of (tb_1 (List.mem_of_getElem? (i := 4) rfl)) rfl⟩
abbrev m97 : Mt := (⟨"NinetyPlayers", "part", "(II)I"⟩, prog_1_method_8_code, 3, (some FieldType.int))
theorem yk_97 : yOK m97 2 := ⟨⟨by decide, by decide, by decide +kernel⟩, by decide +kernel, by decide, gw_of (tb_4 (List.mem_of_getElem? (i := 83) rfl)) rfl, gw_of (tb_1 (List.mem_of_getElem? (i := 1) rfl)) rfl⟩
abbrev m98 : Mt := (⟨"NinetyPlayers$Score", "notesOf", "(I)I"⟩, prog_9_method_7_code, 4, (some FieldType.int))
theorem yk_98 : yOK m98 1 := ⟨⟨by decide, by decide, by decide +kernel⟩, by decide +kernel, by decide, gw_of (tb_4 (List.mem_of_getElem? (i := 87) rfl)) rfl, gw_of (tb_1 (List.mem_of_getElem? (i := 3) rfl)) rfl⟩
abbrev m99 : Mt := (⟨"NinetyPlayers", "givenSet", "()I"⟩, prog_1_method_18_code, 1, (some FieldType.int))
theorem yk_99 : yOK m99 0 := ⟨⟨by decide, by decide, by decide +kernel⟩, by decide +kernel, by decide, gw_of (tb_4 (List.mem_of_getElem? (i := 91) rfl)) rfl, gw_of (tb_1 (List.mem_of_getElem? (i := 1) rfl)) rfl⟩
abbrev m100 : Mt := (⟨"NinetyPlayers$Laying", "setOf", "(I)I"⟩, prog_6_method_5_code, 4, (some FieldType.int))
theorem yk_100 : yOK m100 1 := ⟨⟨by decide, by decide, by decide +kernel⟩, by decide +kernel, by decide, gw_of (tb_4 (List.mem_of_getElem? (i := 95) rfl)) rfl, gw_of (tb_1 (List.mem_of_getElem? (i := 6) rfl)) rfl⟩
abbrev m101 : Mt := (⟨"NinetyPlayers", "held", "(II)I"⟩, prog_1_method_9_code, 3, (some FieldType.int))
theorem yk_101 : yOK m101 2 := ⟨⟨by decide, by decide, by decide +kernel⟩, by decide +kernel, by decide, gw_of (tb_4 (List.mem_of_getElem? (i := 99) rfl)) rfl, gw_of (tb_1 (List.mem_of_getElem? (i := 1) rfl)) rfl⟩
abbrev m102 : Mt := (⟨"NinetyPlayers", "isBeat", "(I)Z"⟩, prog_1_method_14_code, 2, (some FieldType.boolean))
theorem yk_102 : yOK m102 1 := ⟨⟨by decide, by decide, by decide +kernel⟩, by decide +kernel, by decide, gw_of (tb_4 (List.mem_of_getElem? (i := 103) rfl)) rfl, gw_of (tb_1 (List.mem_of_getElem? (i := 1) rfl)) rfl⟩
abbrev m103 : Mt := (⟨"NinetyPlayers", "isHand", "(I)Z"⟩, prog_1_method_15_code, 1, (some FieldType.boolean))
theorem yk_103 : yOK m103 1 := ⟨⟨by decide, by decide, by decide +kernel⟩, by decide +kernel, by decide, gw_of (tb_4 (List.mem_of_getElem? (i := 106) rfl)) rfl, gw_of (tb_1 (List.mem_of_getElem? (i := 1) rfl)) rfl⟩
abbrev m104 : Mt := (⟨"NinetyPlayers", "lookAtKeys", "()V"⟩, prog_1_method_17_code, 1, none)
theorem yk_104 : yOK m104 0 := ⟨⟨by decide, by decide, by decide +kernel⟩, by decide +kernel, by decide, gw_of (tb_4 (List.mem_of_getElem? (i := 110) rfl)) rfl, gw_of (tb_1 (List.mem_of_getElem? (i := 1) rfl)) rfl⟩
abbrev m105 : Mt := (⟨"NinetyPlayers$Keyboard", "lay", "(LNinetyPlayers$Score;LNinetyPlayers$Laying;)V"⟩, prog_5_method_2_code, 5, none)
theorem yk_105 : yOK m105 2 := ⟨⟨by decide, by decide, by decide +kernel⟩, by decide +kernel, by decide, gw_of (tb_4 (List.mem_of_getElem? (i := 114) rfl)) rfl, gw_of (tb_1 (List.mem_of_getElem? (i := 8) rfl)) rfl⟩
abbrev m106 : Mt := (⟨"NinetyPlayers$Keyboard", "hasPedal", "(I)Z"⟩, prog_5_method_3_code, 2, (some FieldType.boolean))
theorem yk_106 : yOK m106 1 := ⟨⟨by decide, by decide, by decide +kernel⟩, by decide +kernel, by decide, gw_of (tb_4 (List.mem_of_getElem? (i := 119) rfl)) rfl, gw_of (tb_1 (List.mem_of_getElem? (i := 8) rfl)) rfl⟩
abbrev m107 : Mt := (⟨"NinetyPlayers$Keyboard", "timelySince", "(II)I"⟩, prog_5_method_4_code, 6, (some FieldType.int))
theorem yk_107 : yOK m107 2 := ⟨⟨by decide, by decide, by decide +kernel⟩, by decide +kernel, by decide, gw_of (tb_4 (List.mem_of_getElem? (i := 123) rfl)) rfl, gw_of (tb_1 (List.mem_of_getElem? (i := 8) rfl)) rfl⟩
abbrev m108 : Mt := (⟨"NinetyPlayers$Keyboard", "heldBy", "(II)I"⟩, prog_5_method_7_code, 3, (some FieldType.int))
theorem yk_108 : yOK m108 2 := ⟨⟨by decide, by decide, by decide +kernel⟩, by decide +kernel, by decide, gw_of (tb_4 (List.mem_of_getElem? (i := 127) rfl)) rfl, gw_of (tb_1 (List.mem_of_getElem? (i := 8) rfl)) rfl⟩
abbrev m109 : Mt := (⟨"NinetyPlayers$Keyboard", "setOf", "(I)I"⟩, prog_5_method_6_code, 2, (some FieldType.int))
theorem yk_109 : yOK m109 1 := ⟨⟨by decide, by decide, by decide +kernel⟩, by decide +kernel, by decide, gw_of (tb_4 (List.mem_of_getElem? (i := 131) rfl)) rfl, gw_of (tb_1 (List.mem_of_getElem? (i := 8) rfl)) rfl⟩
abbrev m110 : Mt := (⟨"NinetyPlayers$Keyboard", "timelyAt", "(I)I"⟩, prog_5_method_5_code, 2, (some FieldType.int))
theorem yk_110 : yOK m110 1 := ⟨⟨by decide, by decide, by decide +kernel⟩, by decide +kernel, by decide, gw_of (tb_4 (List.mem_of_getElem? (i := 135) rfl)) rfl, gw_of (tb_1 (List.mem_of_getElem? (i := 8) rfl)) rfl⟩
abbrev m111 : Mt := (⟨"NinetyPlayers", "sounds", "(I)I"⟩, prog_1_method_10_code, 2, (some FieldType.int))
theorem yk_111 : yOK m111 1 := ⟨⟨by decide, by decide, by decide +kernel⟩, by decide +kernel, by decide, gw_of (tb_4 (List.mem_of_getElem? (i := 139) rfl)) rfl, gw_of (tb_1 (List.mem_of_getElem? (i := 1) rfl)) rfl⟩
abbrev m112 : Mt := (⟨"NinetyPlayers$Keyboard", "soundingAt", "(I)I"⟩, prog_5_method_8_code, 4, (some FieldType.int))
theorem yk_112 : yOK m112 1 := ⟨⟨by decide, by decide, by decide +kernel⟩, by decide +kernel, by decide, gw_of (tb_4 (List.mem_of_getElem? (i := 143) rfl)) rfl, gw_of (tb_1 (List.mem_of_getElem? (i := 8) rfl)) rfl⟩
abbrev m113 : Mt := (⟨"NinetyPlayers", "clash", "(I)I"⟩, prog_1_method_11_code, 2, (some FieldType.int))
theorem yk_113 : yOK m113 1 := ⟨⟨by decide, by decide, by decide +kernel⟩, by decide +kernel, by decide, gw_of (tb_4 (List.mem_of_getElem? (i := 147) rfl)) rfl, gw_of (tb_1 (List.mem_of_getElem? (i := 1) rfl)) rfl⟩
abbrev m114 : Mt := (⟨"NinetyPlayers$Keyboard", "clashesAt", "(III)I"⟩, prog_5_method_16_code, 4, (some FieldType.int))
theorem yk_114 : yOK m114 3 := ⟨⟨by decide, by decide, by decide +kernel⟩, by decide +kernel, by decide, gw_of (tb_4 (List.mem_of_getElem? (i := 151) rfl)) rfl, gw_of (tb_1 (List.mem_of_getElem? (i := 8) rfl)) rfl⟩
abbrev m115 : Mt := (⟨"NinetyPlayers$Keyboard", "clashesBetween", "(IIII)I"⟩, prog_5_method_15_code, 8, (some FieldType.int))
theorem yk_115 : yOK m115 4 := ⟨⟨by decide, by decide, by decide +kernel⟩, by decide +kernel, by decide, gw_of (tb_4 (List.mem_of_getElem? (i := 155) rfl)) rfl, gw_of (tb_1 (List.mem_of_getElem? (i := 8) rfl)) rfl⟩
abbrev m116 : Mt := (⟨"NinetyPlayers$Keyboard", "clashesOfHand", "(II)I"⟩, prog_5_method_14_code, 6, (some FieldType.int))
theorem yk_116 : yOK m116 2 := ⟨⟨by decide, by decide, by decide +kernel⟩, by decide +kernel, by decide, gw_of (tb_4 (List.mem_of_getElem? (i := 159) rfl)) rfl, gw_of (tb_1 (List.mem_of_getElem? (i := 8) rfl)) rfl⟩
abbrev m117 : Mt := (⟨"NinetyPlayers$Keyboard", "lowest", "(I)I"⟩, prog_5_method_9_code, 4, (some FieldType.int))
theorem yk_117 : yOK m117 1 := ⟨⟨by decide, by decide, by decide +kernel⟩, by decide +kernel, by decide, gw_of (tb_4 (List.mem_of_getElem? (i := 163) rfl)) rfl, gw_of (tb_1 (List.mem_of_getElem? (i := 8) rfl)) rfl⟩
abbrev m118 : Mt := (⟨"NinetyPlayers$Keyboard", "highest", "(I)I"⟩, prog_5_method_10_code, 4, (some FieldType.int))
theorem yk_118 : yOK m118 1 := ⟨⟨by decide, by decide, by decide +kernel⟩, by decide +kernel, by decide, gw_of (tb_4 (List.mem_of_getElem? (i := 168) rfl)) rfl, gw_of (tb_1 (List.mem_of_getElem? (i := 8) rfl)) rfl⟩
abbrev m120 : Mt := (⟨"NinetyPlayers$Keyboard", "hasKeyTwice", "(I)Z"⟩, prog_5_method_13_code, 5, (some FieldType.boolean))
theorem yk_120 : yOK m120 1 := ⟨⟨by decide, by decide, by decide +kernel⟩, by decide +kernel, by decide, gw_of (tb_4 (List.mem_of_getElem? (i := 175) rfl)) rfl, gw_of (tb_1 (List.mem_of_getElem? (i := 8) rfl)) rfl⟩
abbrev m121 : Mt := (⟨"NinetyPlayers", "give", "(II)I"⟩, prog_1_method_22_code, 3, (some FieldType.int))
theorem yk_121 : yOK m121 2 := ⟨⟨by decide, by decide, by decide +kernel⟩, by decide +kernel, by decide, gw_of (tb_4 (List.mem_of_getElem? (i := 179) rfl)) rfl, gw_of (tb_1 (List.mem_of_getElem? (i := 1) rfl)) rfl⟩
abbrev m122 : Mt := (⟨"NinetyPlayers$Acts", "act", "(LNinetyPlayers$Laying;III)V"⟩, prog_2_method_3_code, 5, none)
theorem yk_122 : yOK m122 4 := ⟨⟨by decide, by decide, by decide +kernel⟩, by decide +kernel, by decide, gw_of (tb_4 (List.mem_of_getElem? (i := 183) rfl)) rfl, gw_of (tb_1 (List.mem_of_getElem? (i := 7) rfl)) rfl⟩
abbrev m123 : Mt := (⟨"NinetyPlayers$Acts", "dropOldest", "()V"⟩, prog_2_method_4_code, 1, none)
theorem yk_123 : yOK m123 0 := ⟨⟨by decide, by decide, by decide +kernel⟩, by decide +kernel, by decide, gw_of (tb_4 (List.mem_of_getElem? (i := 187) rfl)) rfl, gw_of (tb_1 (List.mem_of_getElem? (i := 7) rfl)) rfl⟩
abbrev m124 : Mt := (⟨"NinetyPlayers$Laying", "valueOf", "(II)I"⟩, prog_6_method_6_code, 4, (some FieldType.int))
theorem yk_124 : yOK m124 2 := ⟨⟨by decide, by decide, by decide +kernel⟩, by decide +kernel, by decide, gw_of (tb_4 (List.mem_of_getElem? (i := 194) rfl)) rfl, gw_of (tb_1 (List.mem_of_getElem? (i := 6) rfl)) rfl⟩
abbrev m125 : Mt := (⟨"NinetyPlayers$Laying", "rowOf", "(I)[I"⟩, prog_6_method_8_code, 2, (some (FieldType.array FieldType.int)))
theorem yk_125 : yOK m125 1 := ⟨⟨by decide, by decide, by decide +kernel⟩, by decide +kernel, by decide, gw_of (tb_4 (List.mem_of_getElem? (i := 198) rfl)) rfl, gw_of (tb_1 (List.mem_of_getElem? (i := 6) rfl)) rfl⟩
abbrev m126 : Mt := (⟨"NinetyPlayers$Laying", "put", "(III)V"⟩, prog_6_method_7_code, 5, none)
theorem yk_126 : yOK m126 3 := ⟨⟨by decide, by decide, by decide +kernel⟩, by decide +kernel, by decide, gw_of (tb_4 (List.mem_of_getElem? (i := 202) rfl)) rfl, gw_of (tb_1 (List.mem_of_getElem? (i := 6) rfl)) rfl⟩
abbrev m127 : Mt := (⟨"NinetyPlayers", "clashes", "()I"⟩, prog_1_method_29_code, 1, (some FieldType.int))
theorem yk_127 : yOK m127 0 := ⟨⟨by decide, by decide, by decide +kernel⟩, by decide +kernel, by decide, gw_of (tb_4 (List.mem_of_getElem? (i := 206) rfl)) rfl, gw_of (tb_1 (List.mem_of_getElem? (i := 1) rfl)) rfl⟩
abbrev m128 : Mt := (⟨"NinetyPlayers$Keyboard", "clashingBeats", "(II)I"⟩, prog_5_method_17_code, 5, (some FieldType.int))
theorem yk_128 : yOK m128 2 := ⟨⟨by decide, by decide, by decide +kernel⟩, by decide +kernel, by decide, gw_of (tb_4 (List.mem_of_getElem? (i := 210) rfl)) rfl, gw_of (tb_1 (List.mem_of_getElem? (i := 8) rfl)) rfl⟩
abbrev m129 : Mt := (⟨"NinetyPlayers", "shift", "(II)I"⟩, prog_1_method_23_code, 4, (some FieldType.int))
theorem yk_129 : yOK m129 2 := ⟨⟨by decide, by decide, by decide +kernel⟩, by decide +kernel, by decide, gw_of (tb_4 (List.mem_of_getElem? (i := 215) rfl)) rfl, gw_of (tb_1 (List.mem_of_getElem? (i := 1) rfl)) rfl⟩
abbrev m130 : Mt := (⟨"NinetyPlayers", "isKey", "(I)Z"⟩, prog_1_method_16_code, 1, (some FieldType.boolean))
theorem yk_130 : yOK m130 1 := ⟨⟨by decide, by decide, by decide +kernel⟩, by decide +kernel, by decide, gw_of (tb_4 (List.mem_of_getElem? (i := 218) rfl)) rfl, gw_of (tb_1 (List.mem_of_getElem? (i := 1) rfl)) rfl⟩
abbrev m131 : Mt := (⟨"NinetyPlayers", "louder", "(II)I"⟩, prog_1_method_24_code, 4, (some FieldType.int))
theorem yk_131 : yOK m131 2 := ⟨⟨by decide, by decide, by decide +kernel⟩, by decide +kernel, by decide, gw_of (tb_4 (List.mem_of_getElem? (i := 222) rfl)) rfl, gw_of (tb_1 (List.mem_of_getElem? (i := 1) rfl)) rfl⟩
abbrev m132 : Mt := (⟨"NinetyPlayers", "last", "(II)I"⟩, prog_1_method_25_code, 4, (some FieldType.int))
theorem yk_132 : yOK m132 2 := ⟨⟨by decide, by decide, by decide +kernel⟩, by decide +kernel, by decide, gw_of (tb_4 (List.mem_of_getElem? (i := 226) rfl)) rfl, gw_of (tb_1 (List.mem_of_getElem? (i := 1) rfl)) rfl⟩
abbrev m133 : Mt := (⟨"NinetyPlayers", "pedal", "(I)I"⟩, prog_1_method_26_code, 2, (some FieldType.int))
theorem yk_133 : yOK m133 1 := ⟨⟨by decide, by decide, by decide +kernel⟩, by decide +kernel, by decide, gw_of (tb_4 (List.mem_of_getElem? (i := 230) rfl)) rfl, gw_of (tb_1 (List.mem_of_getElem? (i := 1) rfl)) rfl⟩
abbrev m134 : Mt := (⟨"NinetyPlayers", "undo", "()Z"⟩, prog_1_method_27_code, 1, (some FieldType.boolean))
theorem yk_134 : yOK m134 0 := ⟨⟨by decide, by decide, by decide +kernel⟩, by decide +kernel, by decide, gw_of (tb_4 (List.mem_of_getElem? (i := 234) rfl)) rfl, gw_of (tb_1 (List.mem_of_getElem? (i := 1) rfl)) rfl⟩
abbrev m135 : Mt := (⟨"NinetyPlayers$Acts", "takeBack", "(LNinetyPlayers$Laying;)Z"⟩, prog_2_method_5_code, 2, (some FieldType.boolean))
theorem yk_135 : yOK m135 1 := ⟨⟨by decide, by decide, by decide +kernel⟩, by decide +kernel, by decide, gw_of (tb_4 (List.mem_of_getElem? (i := 238) rfl)) rfl, gw_of (tb_1 (List.mem_of_getElem? (i := 7) rfl)) rfl⟩
abbrev m136 : Mt := (⟨"NinetyPlayers", "redo", "()Z"⟩, prog_1_method_28_code, 1, (some FieldType.boolean))
theorem yk_136 : yOK m136 0 := ⟨⟨by decide, by decide, by decide +kernel⟩, by decide +kernel, by decide, gw_of (tb_5 (List.mem_of_getElem? (i := 2) rfl)) rfl, gw_of (tb_1 (List.mem_of_getElem? (i := 1) rfl)) rfl⟩
abbrev m137 : Mt := (⟨"NinetyPlayers$Acts", "doAgain", "(LNinetyPlayers$Laying;)Z"⟩, prog_2_method_6_code, 2, (some FieldType.boolean))
theorem yk_137 : yOK m137 1 := ⟨⟨by decide, by decide, by decide +kernel⟩, by decide +kernel, by decide, gw_of (tb_5 (List.mem_of_getElem? (i := 6) rfl)) rfl, gw_of (tb_1 (List.mem_of_getElem? (i := 7) rfl)) rfl⟩
abbrev m138 : Mt := (⟨"NinetyPlayers", "loss", "()I"⟩, prog_1_method_30_code, 3, (some FieldType.int))
theorem yk_138 : yOK m138 0 := ⟨⟨by decide, by decide, by decide +kernel⟩, by decide +kernel, by decide, gw_of (tb_5 (List.mem_of_getElem? (i := 11) rfl)) rfl, gw_of (tb_1 (List.mem_of_getElem? (i := 1) rfl)) rfl⟩
abbrev m139 : Mt := (⟨"NinetyPlayers", "version", "(I)I"⟩, prog_1_method_31_code, 2, (some FieldType.int))
theorem yk_139 : yOK m139 1 := ⟨⟨by decide, by decide, by decide +kernel⟩, by decide +kernel, by decide, gw_of (tb_5 (List.mem_of_getElem? (i := 15) rfl)) rfl, gw_of (tb_1 (List.mem_of_getElem? (i := 1) rfl)) rfl⟩
abbrev m140 : Mt := (⟨"NinetyPlayers", "layLeastMissed", "(II)V"⟩, prog_1_method_33_code, 4, none)
theorem yk_140 : yOK m140 2 := ⟨⟨by decide, by decide, by decide +kernel⟩, by decide +kernel, by decide, gw_of (tb_5 (List.mem_of_getElem? (i := 19) rfl)) rfl, gw_of (tb_1 (List.mem_of_getElem? (i := 1) rfl)) rfl⟩
abbrev m141 : Mt := (⟨"NinetyPlayers", "weighAll", "()V"⟩, prog_1_method_21_code, 2, none)
theorem yk_141 : yOK m141 0 := ⟨⟨by decide, by decide, by decide +kernel⟩, by decide +kernel, by decide, gw_of (tb_5 (List.mem_of_getElem? (i := 23) rfl)) rfl, gw_of (tb_1 (List.mem_of_getElem? (i := 1) rfl)) rfl⟩
abbrev m142 : Mt := (⟨"NinetyPlayers$Arranger", "arrange", "()V"⟩, prog_3_method_3_code, 2, none)
theorem yk_142 : yOK m142 0 := ⟨⟨by decide, by decide, by decide +kernel⟩, by decide +kernel, by decide, gw_of (tb_5 (List.mem_of_getElem? (i := 27) rfl)) rfl, gw_of (tb_1 (List.mem_of_getElem? (i := 9) rfl)) rfl⟩
abbrev m143 : Mt := (⟨"NinetyPlayers$Arranger", "findBars", "(I)V"⟩, prog_3_method_5_code, 5, none)
theorem yk_143 : yOK m143 1 := ⟨⟨by decide, by decide, by decide +kernel⟩, by decide +kernel, by decide, gw_of (tb_5 (List.mem_of_getElem? (i := 31) rfl)) rfl, gw_of (tb_1 (List.mem_of_getElem? (i := 9) rfl)) rfl⟩
abbrev m144 : Mt := (⟨"NinetyPlayers$Arranger", "findSettledLeaps", "(I)V"⟩, prog_3_method_4_code, 4, none)
theorem yk_144 : yOK m144 1 := ⟨⟨by decide, by decide, by decide +kernel⟩, by decide +kernel, by decide, gw_of (tb_5 (List.mem_of_getElem? (i := 37) rfl)) rfl, gw_of (tb_1 (List.mem_of_getElem? (i := 9) rfl)) rfl⟩
abbrev m145 : Mt := (⟨"NinetyPlayers$Arranger", "search", "(IIII)V"⟩, prog_3_method_6_code, 6, none)
theorem yk_145 : yOK m145 4 := ⟨⟨by decide, by decide, by decide +kernel⟩, by decide +kernel, by decide, gw_of (tb_5 (List.mem_of_getElem? (i := 41) rfl)) rfl, gw_of (tb_1 (List.mem_of_getElem? (i := 9) rfl)) rfl⟩
abbrev m146 : Mt := (⟨"NinetyPlayers$Arranger", "isFreeLeft", "(III)Z"⟩, prog_3_method_7_code, 4, (some FieldType.boolean))
theorem yk_146 : yOK m146 3 := ⟨⟨by decide, by decide, by decide +kernel⟩, by decide +kernel, by decide, gw_of (tb_5 (List.mem_of_getElem? (i := 45) rfl)) rfl, gw_of (tb_1 (List.mem_of_getElem? (i := 9) rfl)) rfl⟩
abbrev m147 : Mt := (⟨"NinetyPlayers$Arranger", "fingersReach", "(II)Z"⟩, prog_3_method_9_code, 6, (some FieldType.boolean))
theorem yk_147 : yOK m147 2 := ⟨⟨by decide, by decide, by decide +kernel⟩, by decide +kernel, by decide, gw_of (tb_5 (List.mem_of_getElem? (i := 49) rfl)) rfl, gw_of (tb_1 (List.mem_of_getElem? (i := 9) rfl)) rfl⟩
abbrev m148 : Mt := (⟨"NinetyPlayers$Arranger", "leapsFit", "(III)Z"⟩, prog_3_method_10_code, 10, (some FieldType.boolean))
theorem yk_148 : yOK m148 3 := ⟨⟨by decide, by decide, by decide +kernel⟩, by decide +kernel, by decide, gw_of (tb_5 (List.mem_of_getElem? (i := 54) rfl)) rfl, gw_of (tb_1 (List.mem_of_getElem? (i := 9) rfl)) rfl⟩
abbrev m149 : Mt := (⟨"NinetyPlayers$Keyboard", "leapBetween", "(II)I"⟩, prog_5_method_12_code, 3, (some FieldType.int))
theorem yk_149 : yOK m149 2 := ⟨⟨by decide, by decide, by decide +kernel⟩, by decide +kernel, by decide, gw_of (tb_5 (List.mem_of_getElem? (i := 58) rfl)) rfl, gw_of (tb_1 (List.mem_of_getElem? (i := 8) rfl)) rfl⟩
abbrev m150 : Mt := (⟨"NinetyPlayers$Arranger", "isFreeRight", "(III)Z"⟩, prog_3_method_8_code, 4, (some FieldType.boolean))
theorem yk_150 : yOK m150 3 := ⟨⟨by decide, by decide, by decide +kernel⟩, by decide +kernel, by decide, gw_of (tb_5 (List.mem_of_getElem? (i := 62) rfl)) rfl, gw_of (tb_1 (List.mem_of_getElem? (i := 9) rfl)) rfl⟩
abbrev m151 : Mt := (⟨"NinetyPlayers$Arranger", "handOf", "(I)I"⟩, prog_3_method_2_code, 2, (some FieldType.int))
theorem yk_151 : yOK m151 1 := ⟨⟨by decide, by decide, by decide +kernel⟩, by decide +kernel, by decide, gw_of (tb_5 (List.mem_of_getElem? (i := 66) rfl)) rfl, gw_of (tb_1 (List.mem_of_getElem? (i := 9) rfl)) rfl⟩
abbrev m152 : Mt := (⟨"NinetyPlayers", "child", "(II)I"⟩, prog_1_method_32_code, 3, (some FieldType.int))
theorem yk_152 : yOK m152 2 := ⟨⟨by decide, by decide, by decide +kernel⟩, by decide +kernel, by decide, gw_of (tb_5 (List.mem_of_getElem? (i := 70) rfl)) rfl, gw_of (tb_1 (List.mem_of_getElem? (i := 1) rfl)) rfl⟩
abbrev m153 : Mt := (⟨"NinetyPlayers", "forbids", "(II)I"⟩, prog_1_method_34_code, 3, (some FieldType.int))
theorem yk_153 : yOK m153 2 := ⟨⟨by decide, by decide, by decide +kernel⟩, by decide +kernel, by decide, gw_of (tb_5 (List.mem_of_getElem? (i := 74) rfl)) rfl, gw_of (tb_1 (List.mem_of_getElem? (i := 1) rfl)) rfl⟩
abbrev m154 : Mt := (⟨"NinetyPlayers", "isLeftOut", "(I)Z"⟩, prog_1_method_13_code, 2, (some FieldType.boolean))
theorem yk_154 : yOK m154 1 := ⟨⟨by decide, by decide, by decide +kernel⟩, by decide +kernel, by decide, gw_of (tb_5 (List.mem_of_getElem? (i := 78) rfl)) rfl, gw_of (tb_1 (List.mem_of_getElem? (i := 1) rfl)) rfl⟩
abbrev m155 : Mt := (⟨"NinetyPlayers$Keyboard", "newClashesWith", "(II)I"⟩, prog_5_method_19_code, 7, (some FieldType.int))
theorem yk_155 : yOK m155 2 := ⟨⟨by decide, by decide, by decide +kernel⟩, by decide +kernel, by decide, gw_of (tb_5 (List.mem_of_getElem? (i := 82) rfl)) rfl, gw_of (tb_1 (List.mem_of_getElem? (i := 8) rfl)) rfl⟩
abbrev m156 : Mt := (⟨"NinetyPlayers", "giveway", "(III)I"⟩, prog_1_method_35_code, 5, (some FieldType.int))
theorem yk_156 : yOK m156 3 := ⟨⟨by decide, by decide, by decide +kernel⟩, by decide +kernel, by decide, gw_of (tb_5 (List.mem_of_getElem? (i := 86) rfl)) rfl, gw_of (tb_1 (List.mem_of_getElem? (i := 1) rfl)) rfl⟩
abbrev m157 : Mt := (⟨"NinetyPlayers$Arranger", "fewestInTheWay", "(II)I"⟩, prog_3_method_11_code, 9, (some FieldType.int))
theorem yk_157 : yOK m157 2 := ⟨⟨by decide, by decide, by decide +kernel⟩, by decide +kernel, by decide, gw_of (tb_5 (List.mem_of_getElem? (i := 90) rfl)) rfl, gw_of (tb_1 (List.mem_of_getElem? (i := 9) rfl)) rfl⟩
abbrev m158 : Mt := (⟨"NinetyPlayers$Arranger", "isLessMissed", "(II)Z"⟩, prog_3_method_12_code, 5, (some FieldType.boolean))
theorem yk_158 : yOK m158 2 := ⟨⟨by decide, by decide, by decide +kernel⟩, by decide +kernel, by decide, gw_of (tb_5 (List.mem_of_getElem? (i := 94) rfl)) rfl, gw_of (tb_1 (List.mem_of_getElem? (i := 9) rfl)) rfl⟩
abbrev m159 : Mt := (⟨"NinetyPlayers$Arranger", "missedTogether", "(I)I"⟩, prog_3_method_13_code, 4, (some FieldType.int))
theorem yk_159 : yOK m159 1 := ⟨⟨by decide, by decide, by decide +kernel⟩, by decide +kernel, by decide, gw_of (tb_5 (List.mem_of_getElem? (i := 98) rfl)) rfl, gw_of (tb_1 (List.mem_of_getElem? (i := 9) rfl)) rfl⟩
abbrev m160 : Mt := (⟨"NinetyPlayers$Keyboard", "canBePlayed", "(II)Z"⟩, prog_5_method_18_code, 4, (some FieldType.boolean))
theorem yk_160 : yOK m160 2 := ⟨⟨by decide, by decide, by decide +kernel⟩, by decide +kernel, by decide, gw_of (tb_5 (List.mem_of_getElem? (i := 102) rfl)) rfl, gw_of (tb_1 (List.mem_of_getElem? (i := 8) rfl)) rfl⟩
abbrev m161 : Mt := (⟨"NinetyPlayers", "letin", "(II)I"⟩, prog_1_method_36_code, 6, (some FieldType.int))
theorem yk_161 : yOK m161 2 := ⟨⟨by decide, by decide, by decide +kernel⟩, by decide +kernel, by decide, gw_of (tb_5 (List.mem_of_getElem? (i := 106) rfl)) rfl, gw_of (tb_1 (List.mem_of_getElem? (i := 1) rfl)) rfl⟩
abbrev m162 : Mt := (⟨"NinetyPlayers$Keyboard", "handForShifted", "(II)I"⟩, prog_5_method_20_code, 7, (some FieldType.int))
theorem yk_162 : yOK m162 2 := ⟨⟨by decide, by decide, by decide +kernel⟩, by decide +kernel, by decide, gw_of (tb_5 (List.mem_of_getElem? (i := 110) rfl)) rfl, gw_of (tb_1 (List.mem_of_getElem? (i := 8) rfl)) rfl⟩
abbrev m163 : Mt := (⟨"NinetyPlayers", "pedals", "(I)I"⟩, prog_1_method_37_code, 3, (some FieldType.int))
theorem yk_163 : yOK m163 1 := ⟨⟨by decide, by decide, by decide +kernel⟩, by decide +kernel, by decide, gw_of (tb_5 (List.mem_of_getElem? (i := 116) rfl)) rfl, gw_of (tb_1 (List.mem_of_getElem? (i := 1) rfl)) rfl⟩
abbrev m164 : Mt := (⟨"NinetyPlayers$Pedaller", "fewest", "()I"⟩, prog_7_method_2_code, 3, (some FieldType.int))
theorem yk_164 : yOK m164 0 := ⟨⟨by decide, by decide, by decide +kernel⟩, by decide +kernel, by decide, gw_of (tb_5 (List.mem_of_getElem? (i := 120) rfl)) rfl, gw_of (tb_1 (List.mem_of_getElem? (i := 10) rfl)) rfl⟩
abbrev m165 : Mt := (⟨"NinetyPlayers$Pedaller", "isFree", "(III)Z"⟩, prog_7_method_4_code, 6, (some FieldType.boolean))
theorem yk_165 : yOK m165 3 := ⟨⟨by decide, by decide, by decide +kernel⟩, by decide +kernel, by decide, gw_of (tb_5 (List.mem_of_getElem? (i := 124) rfl)) rfl, gw_of (tb_1 (List.mem_of_getElem? (i := 10) rfl)) rfl⟩
abbrev m166 : Mt := (⟨"NinetyPlayers$Pedaller", "bestWithPedalAt", "(I)I"⟩, prog_7_method_3_code, 4, (some FieldType.int))
theorem yk_166 : yOK m166 1 := ⟨⟨by decide, by decide, by decide +kernel⟩, by decide +kernel, by decide, gw_of (tb_5 (List.mem_of_getElem? (i := 130) rfl)) rfl, gw_of (tb_1 (List.mem_of_getElem? (i := 10) rfl)) rfl⟩
abbrev m167 : Mt := (⟨"NinetyPlayers$Pedaller", "better", "(II)I"⟩, prog_7_method_5_code, 3, (some FieldType.int))
theorem yk_167 : yOK m167 2 := ⟨⟨by decide, by decide, by decide +kernel⟩, by decide +kernel, by decide, gw_of (tb_5 (List.mem_of_getElem? (i := 133) rfl)) rfl, gw_of (tb_1 (List.mem_of_getElem? (i := 10) rfl)) rfl⟩
abbrev m168 : Mt := (⟨"NinetyPlayers", "spread", "(I)I"⟩, prog_1_method_38_code, 4, (some FieldType.int))
theorem yk_168 : yOK m168 1 := ⟨⟨by decide, by decide, by decide +kernel⟩, by decide +kernel, by decide, gw_of (tb_5 (List.mem_of_getElem? (i := 138) rfl)) rfl, gw_of (tb_1 (List.mem_of_getElem? (i := 1) rfl)) rfl⟩
abbrev m169 : Mt := (⟨"NinetyPlayers$Keyboard", "width", "(I)I"⟩, prog_5_method_11_code, 2, (some FieldType.int))
theorem yk_169 : yOK m169 1 := ⟨⟨by decide, by decide, by decide +kernel⟩, by decide +kernel, by decide, gw_of (tb_5 (List.mem_of_getElem? (i := 142) rfl)) rfl, gw_of (tb_1 (List.mem_of_getElem? (i := 8) rfl)) rfl⟩
abbrev m170 : Mt := (⟨"NinetyPlayers", "leaps", "(I)I"⟩, prog_1_method_39_code, 5, (some FieldType.int))
theorem yk_170 : yOK m170 1 := ⟨⟨by decide, by decide, by decide +kernel⟩, by decide +kernel, by decide, gw_of (tb_5 (List.mem_of_getElem? (i := 146) rfl)) rfl, gw_of (tb_1 (List.mem_of_getElem? (i := 1) rfl)) rfl⟩
abbrev m171 : Mt := (⟨"NinetyPlayers", "blur", "()I"⟩, prog_1_method_40_code, 3, (some FieldType.int))
theorem yk_171 : yOK m171 0 := ⟨⟨by decide, by decide, by decide +kernel⟩, by decide +kernel, by decide, gw_of (tb_5 (List.mem_of_getElem? (i := 151) rfl)) rfl, gw_of (tb_1 (List.mem_of_getElem? (i := 1) rfl)) rfl⟩
abbrev m172 : Mt := (⟨"NinetyPlayers$Keyboard", "blurredAt", "(I)I"⟩, prog_5_method_21_code, 10, (some FieldType.int))
theorem yk_172 : yOK m172 1 := ⟨⟨by decide, by decide, by decide +kernel⟩, by decide +kernel, by decide, gw_of (tb_5 (List.mem_of_getElem? (i := 155) rfl)) rfl, gw_of (tb_1 (List.mem_of_getElem? (i := 8) rfl)) rfl⟩
abbrev m173 : Mt := (⟨"NinetyPlayers", "open", "(I)I"⟩, prog_1_method_41_code, 2, (some FieldType.int))
theorem yk_173 : yOK m173 1 := ⟨⟨by decide, by decide, by decide +kernel⟩, by decide +kernel, by decide, gw_of (tb_5 (List.mem_of_getElem? (i := 160) rfl)) rfl, gw_of (tb_1 (List.mem_of_getElem? (i := 1) rfl)) rfl⟩
abbrev m174 : Mt := (⟨"NinetyPlayers", "openAt", "(I)I"⟩, prog_1_method_42_code, 6, (some FieldType.int))
theorem yk_174 : yOK m174 1 := ⟨⟨by decide, by decide, by decide +kernel⟩, by decide +kernel, by decide, gw_of (tb_5 (List.mem_of_getElem? (i := 164) rfl)) rfl, gw_of (tb_1 (List.mem_of_getElem? (i := 1) rfl)) rfl⟩
abbrev m175 : Mt := (⟨"NinetyPlayers", "lost", "()I"⟩, prog_1_method_43_code, 4, (some FieldType.int))
theorem yk_175 : yOK m175 0 := ⟨⟨by decide, by decide, by decide +kernel⟩, by decide +kernel, by decide, gw_of (tb_5 (List.mem_of_getElem? (i := 168) rfl)) rfl, gw_of (tb_1 (List.mem_of_getElem? (i := 1) rfl)) rfl⟩
abbrev m176 : Mt := (⟨"NinetyPlayers", "gaps", "()I"⟩, prog_1_method_44_code, 4, (some FieldType.int))
theorem yk_176 : yOK m176 0 := ⟨⟨by decide, by decide, by decide +kernel⟩, by decide +kernel, by decide, gw_of (tb_5 (List.mem_of_getElem? (i := 172) rfl)) rfl, gw_of (tb_1 (List.mem_of_getElem? (i := 1) rfl)) rfl⟩
abbrev m177 : Mt := (⟨"NinetyPlayers", "easier", "(I)I"⟩, prog_1_method_45_code, 5, (some FieldType.int))
theorem yk_177 : yOK m177 1 := ⟨⟨by decide, by decide, by decide +kernel⟩, by decide +kernel, by decide, gw_of (tb_5 (List.mem_of_getElem? (i := 176) rfl)) rfl, gw_of (tb_1 (List.mem_of_getElem? (i := 1) rfl)) rfl⟩
abbrev m178 : Mt := (⟨"NinetyPlayers", "thickest", "()I"⟩, prog_1_method_46_code, 1, (some FieldType.int))
theorem yk_178 : yOK m178 0 := ⟨⟨by decide, by decide, by decide +kernel⟩, by decide +kernel, by decide, gw_of (tb_5 (List.mem_of_getElem? (i := 180) rfl)) rfl, gw_of (tb_1 (List.mem_of_getElem? (i := 1) rfl)) rfl⟩
abbrev m179 : Mt := (⟨"NinetyPlayers$Keyboard", "fullestBeat", "(I)I"⟩, prog_5_method_22_code, 6, (some FieldType.int))
theorem yk_179 : yOK m179 1 := ⟨⟨by decide, by decide, by decide +kernel⟩, by decide +kernel, by decide, gw_of (tb_5 (List.mem_of_getElem? (i := 184) rfl)) rfl, gw_of (tb_1 (List.mem_of_getElem? (i := 8) rfl)) rfl⟩
abbrev m180 : Mt := (⟨"NinetyPlayers", "busiest", "(I)I"⟩, prog_1_method_47_code, 2, (some FieldType.int))
theorem yk_180 : yOK m180 1 := ⟨⟨by decide, by decide, by decide +kernel⟩, by decide +kernel, by decide, gw_of (tb_5 (List.mem_of_getElem? (i := 188) rfl)) rfl, gw_of (tb_1 (List.mem_of_getElem? (i := 1) rfl)) rfl⟩
abbrev m181 : Mt := (⟨"NinetyPlayers", "law", "(I)I"⟩, prog_1_method_48_code, 2, (some FieldType.int))
theorem yk_181 : yOK m181 1 := ⟨⟨by decide, by decide, by decide +kernel⟩, by decide +kernel, by decide, gw_of (tb_5 (List.mem_of_getElem? (i := 193) rfl)) rfl, gw_of (tb_1 (List.mem_of_getElem? (i := 1) rfl)) rfl⟩
abbrev m182 : Mt := (⟨"NinetyPlayers", "dearest", "()I"⟩, prog_1_method_49_code, 5, (some FieldType.int))
theorem yk_182 : yOK m182 0 := ⟨⟨by decide, by decide, by decide +kernel⟩, by decide +kernel, by decide, gw_of (tb_5 (List.mem_of_getElem? (i := 197) rfl)) rfl, gw_of (tb_1 (List.mem_of_getElem? (i := 1) rfl)) rfl⟩
abbrev m183 : Mt := (⟨"NinetyPlayers", "could", "(I)I"⟩, prog_1_method_50_code, 4, (some FieldType.int))
theorem yk_183 : yOK m183 1 := ⟨⟨by decide, by decide, by decide +kernel⟩, by decide +kernel, by decide, gw_of (tb_5 (List.mem_of_getElem? (i := 201) rfl)) rfl, gw_of (tb_1 (List.mem_of_getElem? (i := 1) rfl)) rfl⟩
abbrev m184 : Mt := (⟨"NinetyPlayers", "lies", "(I)I"⟩, prog_1_method_51_code, 2, (some FieldType.int))
theorem yk_184 : yOK m184 1 := ⟨⟨by decide, by decide, by decide +kernel⟩, by decide +kernel, by decide, gw_of (tb_5 (List.mem_of_getElem? (i := 205) rfl)) rfl, gw_of (tb_1 (List.mem_of_getElem? (i := 1) rfl)) rfl⟩
abbrev m185 : Mt := (⟨"NinetyPlayers", "heard", "(IIZ)I"⟩, prog_1_method_52_code, 4, (some FieldType.int))
theorem yk_185 : yOK m185 3 := ⟨⟨by decide, by decide, by decide +kernel⟩, by decide +kernel, by decide, gw_of (tb_5 (List.mem_of_getElem? (i := 209) rfl)) rfl, gw_of (tb_1 (List.mem_of_getElem? (i := 1) rfl)) rfl⟩
abbrev m186 : Mt := (⟨"NinetyPlayers$Witness", "tell", "(IIZ)I"⟩, prog_11_method_3_code, 4, (some FieldType.int))
theorem yk_186 : yOK m186 3 := ⟨⟨by decide, by decide, by decide +kernel⟩, by decide +kernel, by decide, gw_of (tb_5 (List.mem_of_getElem? (i := 213) rfl)) rfl, gw_of (tb_1 (List.mem_of_getElem? (i := 11) rfl)) rfl⟩
abbrev m187 : Mt := (⟨"NinetyPlayers", "untell", "(I)Z"⟩, prog_1_method_53_code, 2, (some FieldType.boolean))
theorem yk_187 : yOK m187 1 := ⟨⟨by decide, by decide, by decide +kernel⟩, by decide +kernel, by decide, gw_of (tb_5 (List.mem_of_getElem? (i := 217) rfl)) rfl, gw_of (tb_1 (List.mem_of_getElem? (i := 1) rfl)) rfl⟩
abbrev m188 : Mt := (⟨"NinetyPlayers$Witness", "takeFromNowOn", "(I)Z"⟩, prog_11_method_4_code, 2, (some FieldType.boolean))
theorem yk_188 : yOK m188 1 := ⟨⟨by decide, by decide, by decide +kernel⟩, by decide +kernel, by decide, gw_of (tb_5 (List.mem_of_getElem? (i := 221) rfl)) rfl, gw_of (tb_1 (List.mem_of_getElem? (i := 11) rfl)) rfl⟩
abbrev m189 : Mt := (⟨"NinetyPlayers", "later", "(I)I"⟩, prog_1_method_54_code, 2, (some FieldType.int))
theorem yk_189 : yOK m189 1 := ⟨⟨by decide, by decide, by decide +kernel⟩, by decide +kernel, by decide, gw_of (tb_5 (List.mem_of_getElem? (i := 225) rfl)) rfl, gw_of (tb_1 (List.mem_of_getElem? (i := 1) rfl)) rfl⟩
abbrev m190 : Mt := (⟨"NinetyPlayers$Witness", "goOn", "(I)I"⟩, prog_11_method_5_code, 2, (some FieldType.int))
theorem yk_190 : yOK m190 1 := ⟨⟨by decide, by decide, by decide +kernel⟩, by decide +kernel, by decide, gw_of (tb_5 (List.mem_of_getElem? (i := 229) rfl)) rfl, gw_of (tb_1 (List.mem_of_getElem? (i := 11) rfl)) rfl⟩
abbrev m191 : Mt := (⟨"NinetyPlayers", "sets", "(I)I"⟩, prog_1_method_55_code, 2, (some FieldType.int))
theorem yk_191 : yOK m191 1 := ⟨⟨by decide, by decide, by decide +kernel⟩, by decide +kernel, by decide, gw_of (tb_5 (List.mem_of_getElem? (i := 234) rfl)) rfl, gw_of (tb_1 (List.mem_of_getElem? (i := 1) rfl)) rfl⟩
abbrev m192 : Mt := (⟨"NinetyPlayers$Witness", "count", "(LNinetyPlayers$Score;I)V"⟩, prog_11_method_6_code, 4, none)
theorem yk_192 : yOK m192 2 := ⟨⟨by decide, by decide, by decide +kernel⟩, by decide +kernel, by decide, gw_of (tb_5 (List.mem_of_getElem? (i := 238) rfl)) rfl, gw_of (tb_1 (List.mem_of_getElem? (i := 11) rfl)) rfl⟩
abbrev m193 : Mt := (⟨"NinetyPlayers$Witness", "gather", "(LNinetyPlayers$Score;I)V"⟩, prog_11_method_7_code, 6, none)
theorem yk_193 : yOK m193 2 := ⟨⟨by decide, by decide, by decide +kernel⟩, by decide +kernel, by decide, gw_of (tb_6 (List.mem_of_getElem? (i := 2) rfl)) rfl, gw_of (tb_1 (List.mem_of_getElem? (i := 11) rfl)) rfl⟩
abbrev m194 : Mt := (⟨"NinetyPlayers$Witness", "soundersOf", "(LNinetyPlayers$Score;II)I"⟩, prog_11_method_8_code, 6, (some FieldType.int))
theorem yk_194 : yOK m194 3 := ⟨⟨by decide, by decide, by decide +kernel⟩, by decide +kernel, by decide, gw_of (tb_6 (List.mem_of_getElem? (i := 5) rfl)) rfl, gw_of (tb_1 (List.mem_of_getElem? (i := 11) rfl)) rfl⟩
abbrev m195 : Mt := (⟨"NinetyPlayers$Witness", "isSo", "(I)Z"⟩, prog_11_method_9_code, 3, (some FieldType.boolean))
theorem yk_195 : yOK m195 1 := ⟨⟨by decide, by decide, by decide +kernel⟩, by decide +kernel, by decide, gw_of (tb_6 (List.mem_of_getElem? (i := 9) rfl)) rfl, gw_of (tb_1 (List.mem_of_getElem? (i := 11) rfl)) rfl⟩
abbrev m196 : Mt := (⟨"NinetyPlayers$Witness", "countIn", "(I)V"⟩, prog_11_method_10_code, 3, none)
theorem yk_196 : yOK m196 1 := ⟨⟨by decide, by decide, by decide +kernel⟩, by decide +kernel, by decide, gw_of (tb_6 (List.mem_of_getElem? (i := 13) rfl)) rfl, gw_of (tb_1 (List.mem_of_getElem? (i := 11) rfl)) rfl⟩
abbrev m197 : Mt := (⟨"NinetyPlayers", "sure", "(II)I"⟩, prog_1_method_56_code, 4, (some FieldType.int))
theorem yk_197 : yOK m197 2 := ⟨⟨by decide, by decide, by decide +kernel⟩, by decide +kernel, by decide, gw_of (tb_6 (List.mem_of_getElem? (i := 17) rfl)) rfl, gw_of (tb_1 (List.mem_of_getElem? (i := 1) rfl)) rfl⟩
abbrev m198 : Mt := (⟨"NinetyPlayers", "ask", "(II)I"⟩, prog_1_method_57_code, 7, (some FieldType.int))
theorem yk_198 : yOK m198 2 := ⟨⟨by decide, by decide, by decide +kernel⟩, by decide +kernel, by decide, gw_of (tb_6 (List.mem_of_getElem? (i := 21) rfl)) rfl, gw_of (tb_1 (List.mem_of_getElem? (i := 1) rfl)) rfl⟩
abbrev m199 : Mt := (⟨"NinetyPlayers", "image", "(I)I"⟩, prog_1_method_58_code, 2, (some FieldType.int))
theorem yk_199 : yOK m199 1 := ⟨⟨by decide, by decide, by decide +kernel⟩, by decide +kernel, by decide, gw_of (tb_6 (List.mem_of_getElem? (i := 25) rfl)) rfl, gw_of (tb_1 (List.mem_of_getElem? (i := 1) rfl)) rfl⟩
abbrev m200 : Mt := (⟨"NinetyPlayers$Laying", "copy", "(LNinetyPlayers$Laying;)V"⟩, prog_6_method_3_code, 3, none)
theorem yk_200 : yOK m200 1 := ⟨⟨by decide, by decide, by decide +kernel⟩, by decide +kernel, by decide, gw_of (tb_6 (List.mem_of_getElem? (i := 29) rfl)) rfl, gw_of (tb_1 (List.mem_of_getElem? (i := 6) rfl)) rfl⟩
abbrev m201 : Mt := (⟨"NinetyPlayers", "back", "(I)I"⟩, prog_1_method_59_code, 2, (some FieldType.int))
theorem yk_201 : yOK m201 1 := ⟨⟨by decide, by decide, by decide +kernel⟩, by decide +kernel, by decide, gw_of (tb_6 (List.mem_of_getElem? (i := 33) rfl)) rfl, gw_of (tb_1 (List.mem_of_getElem? (i := 1) rfl)) rfl⟩
abbrev m202 : Mt := (⟨"NinetyPlayers", "isKept", "(I)Z"⟩, prog_1_method_61_code, 2, (some FieldType.boolean))
theorem yk_202 : yOK m202 1 := ⟨⟨by decide, by decide, by decide +kernel⟩, by decide +kernel, by decide, gw_of (tb_6 (List.mem_of_getElem? (i := 37) rfl)) rfl, gw_of (tb_1 (List.mem_of_getElem? (i := 1) rfl)) rfl⟩
abbrev m203 : Mt := (⟨"NinetyPlayers", "differ", "(I)I"⟩, prog_1_method_60_code, 4, (some FieldType.int))
theorem yk_203 : yOK m203 1 := ⟨⟨by decide, by decide, by decide +kernel⟩, by decide +kernel, by decide, gw_of (tb_6 (List.mem_of_getElem? (i := 41) rfl)) rfl, gw_of (tb_1 (List.mem_of_getElem? (i := 1) rfl)) rfl⟩
abbrev m204 : Mt := (⟨"NinetyPlayers$Laying", "differsAt", "(ILNinetyPlayers$Laying;)Z"⟩, prog_6_method_4_code, 3, (some FieldType.boolean))
theorem yk_204 : yOK m204 2 := ⟨⟨by decide, by decide, by decide +kernel⟩, by decide +kernel, by decide, gw_of (tb_6 (List.mem_of_getElem? (i := 45) rfl)) rfl, gw_of (tb_1 (List.mem_of_getElem? (i := 6) rfl)) rfl⟩
abbrev m205 : Mt := (⟨"NinetyPlayers", "about", "(I)I"⟩, prog_1_method_62_code, 2, (some FieldType.int))
theorem yk_205 : yOK m205 1 := ⟨⟨by decide, by decide, by decide +kernel⟩, by decide +kernel, by decide, gw_of (tb_6 (List.mem_of_getElem? (i := 49) rfl)) rfl, gw_of (tb_1 (List.mem_of_getElem? (i := 1) rfl)) rfl⟩
abbrev m206 : Mt := (⟨"NinetyPlayers", "aboutTheRest", "(I)I"⟩, prog_1_method_63_code, 2, (some FieldType.int))
theorem yk_206 : yOK m206 1 := ⟨⟨by decide, by decide, by decide +kernel⟩, by decide +kernel, by decide, gw_of (tb_6 (List.mem_of_getElem? (i := 53) rfl)) rfl, gw_of (tb_1 (List.mem_of_getElem? (i := 1) rfl)) rfl⟩
abbrev m207 : Mt := (⟨"NinetyPlayersModel", "<init>", "()V"⟩, prog_14_method_1_code, 1, none)
theorem yk_207 : yOK m207 0 := ⟨⟨by decide, by decide, by decide +kernel⟩, by decide +kernel, by decide, gw_of (tb_6 (List.mem_of_getElem? (i := 58) rfl)) rfl, gw_of (tb_1 (List.mem_of_getElem? (i := 12) rfl)) rfl⟩
abbrev m208 : Mt := (⟨"NinetyPlayersModel", "feed", "(IIIII)I"⟩, prog_14_method_2_code, 6, (some FieldType.int))
theorem yk_208 : yOK m208 5 := ⟨⟨by decide, by decide, by decide +kernel⟩, by decide +kernel, by decide, gw_of (tb_7 (List.mem_of_getElem? (i := 64) rfl)) rfl, gw_of (tb_1 (List.mem_of_getElem? (i := 12) rfl)) rfl⟩
abbrev m209 : Mt := (⟨"NinetyPlayersModel", "four", "(I)V"⟩, prog_14_method_3_code, 3, none)
theorem yk_209 : yOK m209 1 := ⟨⟨by decide, by decide, by decide +kernel⟩, by decide +kernel, by decide, gw_of (tb_7 (List.mem_of_getElem? (i := 68) rfl)) rfl, gw_of (tb_1 (List.mem_of_getElem? (i := 12) rfl)) rfl⟩
abbrev m210 : Mt := (⟨"NinetyPlayersModel", "end", "(I)I"⟩, prog_14_method_4_code, 2, (some FieldType.int))
theorem yk_210 : yOK m210 1 := ⟨⟨by decide, by decide, by decide +kernel⟩, by decide +kernel, by decide, gw_of (tb_7 (List.mem_of_getElem? (i := 72) rfl)) rfl, gw_of (tb_1 (List.mem_of_getElem? (i := 12) rfl)) rfl⟩
abbrev m211 : Mt := (⟨"NinetyPlayersModel", "score", "()I"⟩, prog_14_method_44_code, 2, (some FieldType.int))
theorem yk_211 : yOK m211 0 := ⟨⟨by decide, by decide, by decide +kernel⟩, by decide +kernel, by decide, gw_of (tb_7 (List.mem_of_getElem? (i := 76) rfl)) rfl, gw_of (tb_1 (List.mem_of_getElem? (i := 12) rfl)) rfl⟩
abbrev m212 : Mt := (⟨"NinetyPlayersModel", "readAll", "()V"⟩, prog_14_method_43_code, 1, none)
theorem yk_212 : yOK m212 0 := ⟨⟨by decide, by decide, by decide +kernel⟩, by decide +kernel, by decide, gw_of (tb_7 (List.mem_of_getElem? (i := 80) rfl)) rfl, gw_of (tb_1 (List.mem_of_getElem? (i := 12) rfl)) rfl⟩
abbrev m213 : Mt := (⟨"NinetyPlayersModel", "token", "()V"⟩, prog_14_method_9_code, 3, none)
theorem yk_213 : yOK m213 0 := ⟨⟨by decide, by decide, by decide +kernel⟩, by decide +kernel, by decide, gw_of (tb_7 (List.mem_of_getElem? (i := 84) rfl)) rfl, gw_of (tb_1 (List.mem_of_getElem? (i := 12) rfl)) rfl⟩
abbrev m214 : Mt := (⟨"NinetyPlayersModel", "here", "(I)I"⟩, prog_14_method_5_code, 2, (some FieldType.int))
theorem yk_214 : yOK m214 1 := ⟨⟨by decide, by decide, by decide +kernel⟩, by decide +kernel, by decide, gw_of (tb_7 (List.mem_of_getElem? (i := 88) rfl)) rfl, gw_of (tb_1 (List.mem_of_getElem? (i := 12) rfl)) rfl⟩
abbrev m215 : Mt := (⟨"NinetyPlayersModel", "isLetter", "(I)Z"⟩, prog_14_method_6_code, 1, (some FieldType.boolean))
theorem yk_215 : yOK m215 1 := ⟨⟨by decide, by decide, by decide +kernel⟩, by decide +kernel, by decide, gw_of (tb_7 (List.mem_of_getElem? (i := 91) rfl)) rfl, gw_of (tb_1 (List.mem_of_getElem? (i := 12) rfl)) rfl⟩
abbrev m216 : Mt := (⟨"NinetyPlayersModel", "isDigit", "(I)Z"⟩, prog_14_method_7_code, 1, (some FieldType.boolean))
theorem yk_216 : yOK m216 1 := ⟨⟨by decide, by decide, by decide +kernel⟩, by decide +kernel, by decide, gw_of (tb_7 (List.mem_of_getElem? (i := 94) rfl)) rfl, gw_of (tb_1 (List.mem_of_getElem? (i := 12) rfl)) rfl⟩
abbrev m217 : Mt := (⟨"NinetyPlayersModel", "isSign", "(I)Z"⟩, prog_14_method_8_code, 1, (some FieldType.boolean))
theorem yk_217 : yOK m217 1 := ⟨⟨by decide, by decide, by decide +kernel⟩, by decide +kernel, by decide, gw_of (tb_7 (List.mem_of_getElem? (i := 97) rfl)) rfl, gw_of (tb_1 (List.mem_of_getElem? (i := 12) rfl)) rfl⟩
abbrev m218 : Mt := (⟨"NinetyPlayersModel", "readLine", "()V"⟩, prog_14_method_42_code, 1, none)
theorem yk_218 : yOK m218 0 := ⟨⟨by decide, by decide, by decide +kernel⟩, by decide +kernel, by decide, gw_of (tb_7 (List.mem_of_getElem? (i := 101) rfl)) rfl, gw_of (tb_1 (List.mem_of_getElem? (i := 12) rfl)) rfl⟩
abbrev m219 : Mt := (⟨"NinetyPlayersModel", "isWord", "(J)Z"⟩, prog_14_method_11_code, 3, (some FieldType.boolean))
theorem yk_219 : yOK m219 1 := ⟨⟨by decide, by decide, by decide +kernel⟩, by decide +kernel, by decide, gw_of (tb_7 (List.mem_of_getElem? (i := 106) rfl)) rfl, gw_of (tb_1 (List.mem_of_getElem? (i := 12) rfl)) rfl⟩
abbrev m220 : Mt := (⟨"NinetyPlayersModel", "told", "(JII)I"⟩, prog_14_method_16_code, 5, (some FieldType.int))
theorem yk_220 : yOK m220 3 := ⟨⟨by decide, by decide, by decide +kernel⟩, by decide +kernel, by decide, gw_of (tb_7 (List.mem_of_getElem? (i := 110) rfl)) rfl, gw_of (tb_1 (List.mem_of_getElem? (i := 12) rfl)) rfl⟩
abbrev m221 : Mt := (⟨"NinetyPlayersModel", "want", "(J)V"⟩, prog_14_method_14_code, 3, none)
theorem yk_221 : yOK m221 1 := ⟨⟨by decide, by decide, by decide +kernel⟩, by decide +kernel, by decide, gw_of (tb_7 (List.mem_of_getElem? (i := 114) rfl)) rfl, gw_of (tb_1 (List.mem_of_getElem? (i := 12) rfl)) rfl⟩
abbrev m222 : Mt := (⟨"NinetyPlayersModel", "wrong", "(I)V"⟩, prog_14_method_10_code, 2, none)
theorem yk_222 : yOK m222 1 := ⟨⟨by decide, by decide, by decide +kernel⟩, by decide +kernel, by decide, gw_of (tb_7 (List.mem_of_getElem? (i := 118) rfl)) rfl, gw_of (tb_1 (List.mem_of_getElem? (i := 12) rfl)) rfl⟩
abbrev m223 : Mt := (⟨"NinetyPlayersModel", "toldNumber", "(II)I"⟩, prog_14_method_15_code, 4, (some FieldType.int))
theorem yk_223 : yOK m223 2 := ⟨⟨by decide, by decide, by decide +kernel⟩, by decide +kernel, by decide, gw_of (tb_7 (List.mem_of_getElem? (i := 122) rfl)) rfl, gw_of (tb_1 (List.mem_of_getElem? (i := 12) rfl)) rfl⟩
abbrev m224 : Mt := (⟨"NinetyPlayersModel", "readPart", "()V"⟩, prog_14_method_40_code, 1, none)
theorem yk_224 : yOK m224 0 := ⟨⟨by decide, by decide, by decide +kernel⟩, by decide +kernel, by decide, gw_of (tb_7 (List.mem_of_getElem? (i := 127) rfl)) rfl, gw_of (tb_1 (List.mem_of_getElem? (i := 12) rfl)) rfl⟩
abbrev m225 : Mt := (⟨"NinetyPlayersModel", "newName", "(II)V"⟩, prog_14_method_18_code, 3, none)
theorem yk_225 : yOK m225 2 := ⟨⟨by decide, by decide, by decide +kernel⟩, by decide +kernel, by decide, gw_of (tb_7 (List.mem_of_getElem? (i := 131) rfl)) rfl, gw_of (tb_1 (List.mem_of_getElem? (i := 12) rfl)) rfl⟩
abbrev m226 : Mt := (⟨"NinetyPlayersModel", "isName", "()Z"⟩, prog_14_method_13_code, 1, (some FieldType.boolean))
theorem yk_226 : yOK m226 0 := ⟨⟨by decide, by decide, by decide +kernel⟩, by decide +kernel, by decide, gw_of (tb_7 (List.mem_of_getElem? (i := 135) rfl)) rfl, gw_of (tb_1 (List.mem_of_getElem? (i := 12) rfl)) rfl⟩
abbrev m227 : Mt := (⟨"NinetyPlayersModel", "isOwn", "()Z"⟩, prog_14_method_12_code, 1, (some FieldType.boolean))
theorem yk_227 : yOK m227 0 := ⟨⟨by decide, by decide, by decide +kernel⟩, by decide +kernel, by decide, gw_of (tb_7 (List.mem_of_getElem? (i := 139) rfl)) rfl, gw_of (tb_1 (List.mem_of_getElem? (i := 12) rfl)) rfl⟩
abbrev m228 : Mt := (⟨"NinetyPlayersModel", "find", "(II)I"⟩, prog_14_method_17_code, 5, (some FieldType.int))
theorem yk_228 : yOK m228 2 := ⟨⟨by decide, by decide, by decide +kernel⟩, by decide +kernel, by decide, gw_of (tb_7 (List.mem_of_getElem? (i := 162) rfl)) rfl, gw_of (tb_1 (List.mem_of_getElem? (i := 12) rfl)) rfl⟩
abbrev m229 : Mt := (⟨"NinetyPlayersModel", "truth", "(Z)I"⟩, prog_14_method_33_code, 1, (some FieldType.int))
theorem yk_229 : yOK m229 1 := ⟨⟨by decide, by decide, by decide +kernel⟩, by decide +kernel, by decide, gw_of (tb_7 (List.mem_of_getElem? (i := 165) rfl)) rfl, gw_of (tb_1 (List.mem_of_getElem? (i := 12) rfl)) rfl⟩
abbrev m230 : Mt := (⟨"NinetyPlayersModel", "readNote", "()V"⟩, prog_14_method_41_code, 2, none)
theorem yk_230 : yOK m230 0 := ⟨⟨by decide, by decide, by decide +kernel⟩, by decide +kernel, by decide, gw_of (tb_7 (List.mem_of_getElem? (i := 169) rfl)) rfl, gw_of (tb_1 (List.mem_of_getElem? (i := 12) rfl)) rfl⟩
abbrev m231 : Mt := (⟨"NinetyPlayersModel", "oldPart", "()I"⟩, prog_14_method_19_code, 2, (some FieldType.int))
theorem yk_231 : yOK m231 0 := ⟨⟨by decide, by decide, by decide +kernel⟩, by decide +kernel, by decide, gw_of (tb_7 (List.mem_of_getElem? (i := 173) rfl)) rfl, gw_of (tb_1 (List.mem_of_getElem? (i := 12) rfl)) rfl⟩
abbrev m232 : Mt := (⟨"NinetyPlayersModel", "formula", "()V"⟩, prog_14_method_32_code, 3, none)
theorem yk_232 : yOK m232 0 := ⟨⟨by decide, by decide, by decide +kernel⟩, by decide +kernel, by decide, gw_of (tb_7 (List.mem_of_getElem? (i := 177) rfl)) rfl, gw_of (tb_1 (List.mem_of_getElem? (i := 12) rfl)) rfl⟩
abbrev m233 : Mt := (⟨"NinetyPlayersModel", "unit", "()V"⟩, prog_14_method_29_code, 3, none)
theorem yk_233 : yOK m233 0 := ⟨⟨by decide, by decide, by decide +kernel⟩, by decide +kernel, by decide, gw_of (tb_7 (List.mem_of_getElem? (i := 181) rfl)) rfl, gw_of (tb_1 (List.mem_of_getElem? (i := 12) rfl)) rfl⟩
abbrev m234 : Mt := (⟨"NinetyPlayersModel", "mayNot", "()Z"⟩, prog_14_method_24_code, 1, (some FieldType.boolean))
theorem yk_234 : yOK m234 0 := ⟨⟨by decide, by decide, by decide +kernel⟩, by decide +kernel, by decide, gw_of (tb_7 (List.mem_of_getElem? (i := 185) rfl)) rfl, gw_of (tb_1 (List.mem_of_getElem? (i := 12) rfl)) rfl⟩
abbrev m235 : Mt := (⟨"NinetyPlayersModel", "tight", "(I)I"⟩, prog_14_method_21_code, 1, (some FieldType.int))
theorem yk_235 : yOK m235 1 := ⟨⟨by decide, by decide, by decide +kernel⟩, by decide +kernel, by decide, gw_of (tb_7 (List.mem_of_getElem? (i := 188) rfl)) rfl, gw_of (tb_1 (List.mem_of_getElem? (i := 12) rfl)) rfl⟩
abbrev m236 : Mt := (⟨"NinetyPlayersModel", "openUp", "(I)V"⟩, prog_14_method_28_code, 2, none)
theorem yk_236 : yOK m236 1 := ⟨⟨by decide, by decide, by decide +kernel⟩, by decide +kernel, by decide, gw_of (tb_7 (List.mem_of_getElem? (i := 192) rfl)) rfl, gw_of (tb_1 (List.mem_of_getElem? (i := 12) rfl)) rfl⟩
abbrev m237 : Mt := (⟨"NinetyPlayersModel", "isFull", "()Z"⟩, prog_14_method_26_code, 1, (some FieldType.boolean))
theorem yk_237 : yOK m237 0 := ⟨⟨by decide, by decide, by decide +kernel⟩, by decide +kernel, by decide, gw_of (tb_7 (List.mem_of_getElem? (i := 196) rfl)) rfl, gw_of (tb_1 (List.mem_of_getElem? (i := 12) rfl)) rfl⟩
abbrev m238 : Mt := (⟨"NinetyPlayersModel", "countUnit", "()V"⟩, prog_14_method_27_code, 1, none)
theorem yk_238 : yOK m238 0 := ⟨⟨by decide, by decide, by decide +kernel⟩, by decide +kernel, by decide, gw_of (tb_7 (List.mem_of_getElem? (i := 200) rfl)) rfl, gw_of (tb_1 (List.mem_of_getElem? (i := 12) rfl)) rfl⟩
abbrev m239 : Mt := (⟨"NinetyPlayersModel", "asked", "()I"⟩, prog_14_method_25_code, 1, (some FieldType.int))
theorem yk_239 : yOK m239 0 := ⟨⟨by decide, by decide, by decide +kernel⟩, by decide +kernel, by decide, gw_of (tb_7 (List.mem_of_getElem? (i := 204) rfl)) rfl, gw_of (tb_1 (List.mem_of_getElem? (i := 12) rfl)) rfl⟩
abbrev m240 : Mt := (⟨"NinetyPlayersModel", "add", "(II)V"⟩, prog_14_method_20_code, 3, none)
theorem yk_240 : yOK m240 2 := ⟨⟨by decide, by decide, by decide +kernel⟩, by decide +kernel, by decide, gw_of (tb_7 (List.mem_of_getElem? (i := 208) rfl)) rfl, gw_of (tb_1 (List.mem_of_getElem? (i := 12) rfl)) rfl⟩
abbrev m241 : Mt := (⟨"NinetyPlayersModel", "sign", "()I"⟩, prog_14_method_30_code, 1, (some FieldType.int))
theorem yk_241 : yOK m241 0 := ⟨⟨by decide, by decide, by decide +kernel⟩, by decide +kernel, by decide, gw_of (tb_7 (List.mem_of_getElem? (i := 212) rfl)) rfl, gw_of (tb_1 (List.mem_of_getElem? (i := 12) rfl)) rfl⟩
abbrev m242 : Mt := (⟨"NinetyPlayersModel", "hasBracket", "()Z"⟩, prog_14_method_31_code, 3, (some FieldType.boolean))
theorem yk_242 : yOK m242 0 := ⟨⟨by decide, by decide, by decide +kernel⟩, by decide +kernel, by decide, gw_of (tb_7 (List.mem_of_getElem? (i := 216) rfl)) rfl, gw_of (tb_1 (List.mem_of_getElem? (i := 12) rfl)) rfl⟩
abbrev m243 : Mt := (⟨"NinetyPlayersModel", "close", "(I)V"⟩, prog_14_method_22_code, 2, none)
theorem yk_243 : yOK m243 1 := ⟨⟨by decide, by decide, by decide +kernel⟩, by decide +kernel, by decide, gw_of (tb_7 (List.mem_of_getElem? (i := 220) rfl)) rfl, gw_of (tb_1 (List.mem_of_getElem? (i := 12) rfl)) rfl⟩
abbrev m244 : Mt := (⟨"NinetyPlayersModel", "hasRelation", "()Z"⟩, prog_14_method_23_code, 2, (some FieldType.boolean))
theorem yk_244 : yOK m244 0 := ⟨⟨by decide, by decide, by decide +kernel⟩, by decide +kernel, by decide, gw_of (tb_7 (List.mem_of_getElem? (i := 224) rfl)) rfl, gw_of (tb_1 (List.mem_of_getElem? (i := 12) rfl)) rfl⟩
abbrev m245 : Mt := (⟨"NinetyPlayersModel", "begin", "()V"⟩, prog_14_method_53_code, 2, none)
theorem yk_245 : yOK m245 0 := ⟨⟨by decide, by decide, by decide +kernel⟩, by decide +kernel, by decide, gw_of (tb_7 (List.mem_of_getElem? (i := 228) rfl)) rfl, gw_of (tb_1 (List.mem_of_getElem? (i := 12) rfl)) rfl⟩
abbrev m246 : Mt := (⟨"NinetyPlayersModel", "keepAir", "()V"⟩, prog_14_method_52_code, 2, none)
theorem yk_246 : yOK m246 0 := ⟨⟨by decide, by decide, by decide +kernel⟩, by decide +kernel, by decide, gw_of (tb_7 (List.mem_of_getElem? (i := 232) rfl)) rfl, gw_of (tb_1 (List.mem_of_getElem? (i := 12) rfl)) rfl⟩
abbrev m247 : Mt := (⟨"NinetyPlayersModel", "fault", "(I)I"⟩, prog_14_method_45_code, 2, (some FieldType.int))
theorem yk_247 : yOK m247 1 := ⟨⟨by decide, by decide, by decide +kernel⟩, by decide +kernel, by decide, gw_of (tb_7 (List.mem_of_getElem? (i := 236) rfl)) rfl, gw_of (tb_1 (List.mem_of_getElem? (i := 12) rfl)) rfl⟩
abbrev m248 : Mt := (⟨"NinetyPlayersModel", "note", "(II)I"⟩, prog_14_method_65_code, 3, (some FieldType.int))
theorem yk_248 : yOK m248 2 := ⟨⟨by decide, by decide, by decide +kernel⟩, by decide +kernel, by decide, gw_of (tb_8 (List.mem_of_getElem? (i := 0) rfl)) rfl, gw_of (tb_1 (List.mem_of_getElem? (i := 12) rfl)) rfl⟩
abbrev m249 : Mt := (⟨"NinetyPlayersModel", "isNote", "(I)Z"⟩, prog_14_method_47_code, 2, (some FieldType.boolean))
theorem yk_249 : yOK m249 1 := ⟨⟨by decide, by decide, by decide +kernel⟩, by decide +kernel, by decide, gw_of (tb_8 (List.mem_of_getElem? (i := 4) rfl)) rfl, gw_of (tb_1 (List.mem_of_getElem? (i := 12) rfl)) rfl⟩
abbrev m250 : Mt := (⟨"NinetyPlayersModel", "isIn", "(III)Z"⟩, prog_14_method_46_code, 3, (some FieldType.boolean))
theorem yk_250 : yOK m250 3 := ⟨⟨by decide, by decide, by decide +kernel⟩, by decide +kernel, by decide, gw_of (tb_8 (List.mem_of_getElem? (i := 7) rfl)) rfl, gw_of (tb_1 (List.mem_of_getElem? (i := 12) rfl)) rfl⟩
abbrev m251 : Mt := (⟨"NinetyPlayersModel", "fill", "()V"⟩, prog_14_method_51_code, 2, none)
theorem yk_251 : yOK m251 0 := ⟨⟨by decide, by decide, by decide +kernel⟩, by decide +kernel, by decide, gw_of (tb_8 (List.mem_of_getElem? (i := 11) rfl)) rfl, gw_of (tb_1 (List.mem_of_getElem? (i := 12) rfl)) rfl⟩
abbrev m252 : Mt := (⟨"NinetyPlayersModel", "layHold", "()V"⟩, prog_14_method_54_code, 4, none)
theorem yk_252 : yOK m252 0 := ⟨⟨by decide, by decide, by decide +kernel⟩, by decide +kernel, by decide, gw_of (tb_8 (List.mem_of_getElem? (i := 15) rfl)) rfl, gw_of (tb_1 (List.mem_of_getElem? (i := 12) rfl)) rfl⟩
abbrev m253 : Mt := (⟨"NinetyPlayersModel", "missedOf", "(I)I"⟩, prog_14_method_39_code, 4, (some FieldType.int))
theorem yk_253 : yOK m253 1 := ⟨⟨by decide, by decide, by decide +kernel⟩, by decide +kernel, by decide, gw_of (tb_8 (List.mem_of_getElem? (i := 19) rfl)) rfl, gw_of (tb_1 (List.mem_of_getElem? (i := 12) rfl)) rfl⟩
abbrev m254 : Mt := (⟨"NinetyPlayersModel", "doubles", "(I)I"⟩, prog_14_method_38_code, 4, (some FieldType.int))
theorem yk_254 : yOK m254 1 := ⟨⟨by decide, by decide, by decide +kernel⟩, by decide +kernel, by decide, gw_of (tb_8 (List.mem_of_getElem? (i := 23) rfl)) rfl, gw_of (tb_1 (List.mem_of_getElem? (i := 12) rfl)) rfl⟩
abbrev m255 : Mt := (⟨"NinetyPlayersModel", "plain", "(I)I"⟩, prog_14_method_37_code, 1, (some FieldType.int))
theorem yk_255 : yOK m255 1 := ⟨⟨by decide, by decide, by decide +kernel⟩, by decide +kernel, by decide, gw_of (tb_8 (List.mem_of_getElem? (i := 26) rfl)) rfl, gw_of (tb_1 (List.mem_of_getElem? (i := 12) rfl)) rfl⟩
abbrev m256 : Mt := (⟨"NinetyPlayersModel", "members", "(I)I"⟩, prog_14_method_50_code, 3, (some FieldType.int))
theorem yk_256 : yOK m256 1 := ⟨⟨by decide, by decide, by decide +kernel⟩, by decide +kernel, by decide, gw_of (tb_8 (List.mem_of_getElem? (i := 29) rfl)) rfl, gw_of (tb_1 (List.mem_of_getElem? (i := 12) rfl)) rfl⟩
abbrev m257 : Mt := (⟨"NinetyPlayersModel", "within", "(II)I"⟩, prog_14_method_35_code, 2, (some FieldType.int))
theorem yk_257 : yOK m257 2 := ⟨⟨by decide, by decide, by decide +kernel⟩, by decide +kernel, by decide, gw_of (tb_8 (List.mem_of_getElem? (i := 32) rfl)) rfl, gw_of (tb_1 (List.mem_of_getElem? (i := 12) rfl)) rfl⟩
abbrev m258 : Mt := (⟨"NinetyPlayersModel", "done", "(III)I"⟩, prog_14_method_34_code, 3, (some FieldType.int))
theorem yk_258 : yOK m258 3 := ⟨⟨by decide, by decide, by decide +kernel⟩, by decide +kernel, by decide, gw_of (tb_8 (List.mem_of_getElem? (i := 35) rfl)) rfl, gw_of (tb_1 (List.mem_of_getElem? (i := 12) rfl)) rfl⟩
abbrev m259 : Mt := (⟨"NinetyPlayersModel", "part", "(II)I"⟩, prog_14_method_67_code, 3, (some FieldType.int))
theorem yk_259 : yOK m259 2 := ⟨⟨by decide, by decide, by decide +kernel⟩, by decide +kernel, by decide, gw_of (tb_8 (List.mem_of_getElem? (i := 39) rfl)) rfl, gw_of (tb_1 (List.mem_of_getElem? (i := 12) rfl)) rfl⟩
abbrev m260 : Mt := (⟨"NinetyPlayersModel", "notesOf", "(I)I"⟩, prog_14_method_66_code, 4, (some FieldType.int))
theorem yk_260 : yOK m260 1 := ⟨⟨by decide, by decide, by decide +kernel⟩, by decide +kernel, by decide, gw_of (tb_8 (List.mem_of_getElem? (i := 43) rfl)) rfl, gw_of (tb_1 (List.mem_of_getElem? (i := 12) rfl)) rfl⟩
abbrev m261 : Mt := (⟨"NinetyPlayersModel", "given", "(I)I"⟩, prog_14_method_55_code, 4, (some FieldType.int))
theorem yk_261 : yOK m261 1 := ⟨⟨by decide, by decide, by decide +kernel⟩, by decide +kernel, by decide, gw_of (tb_8 (List.mem_of_getElem? (i := 47) rfl)) rfl, gw_of (tb_1 (List.mem_of_getElem? (i := 12) rfl)) rfl⟩
abbrev m262 : Mt := (⟨"NinetyPlayersModel", "held", "(II)I"⟩, prog_14_method_68_code, 3, (some FieldType.int))
theorem yk_262 : yOK m262 2 := ⟨⟨by decide, by decide, by decide +kernel⟩, by decide +kernel, by decide, gw_of (tb_8 (List.mem_of_getElem? (i := 51) rfl)) rfl, gw_of (tb_1 (List.mem_of_getElem? (i := 12) rfl)) rfl⟩
abbrev m263 : Mt := (⟨"NinetyPlayersModel", "isBeat", "(I)Z"⟩, prog_14_method_48_code, 2, (some FieldType.boolean))
theorem yk_263 : yOK m263 1 := ⟨⟨by decide, by decide, by decide +kernel⟩, by decide +kernel, by decide, gw_of (tb_8 (List.mem_of_getElem? (i := 55) rfl)) rfl, gw_of (tb_1 (List.mem_of_getElem? (i := 12) rfl)) rfl⟩
abbrev m264 : Mt := (⟨"NinetyPlayersModel", "isHand", "(I)Z"⟩, prog_14_method_49_code, 1, (some FieldType.boolean))
theorem yk_264 : yOK m264 1 := ⟨⟨by decide, by decide, by decide +kernel⟩, by decide +kernel, by decide, gw_of (tb_8 (List.mem_of_getElem? (i := 58) rfl)) rfl, gw_of (tb_1 (List.mem_of_getElem? (i := 12) rfl)) rfl⟩
abbrev m265 : Mt := (⟨"NinetyPlayersModel", "sounds", "(I)I"⟩, prog_14_method_69_code, 2, (some FieldType.int))
theorem yk_265 : yOK m265 1 := ⟨⟨by decide, by decide, by decide +kernel⟩, by decide +kernel, by decide, gw_of (tb_8 (List.mem_of_getElem? (i := 62) rfl)) rfl, gw_of (tb_1 (List.mem_of_getElem? (i := 12) rfl)) rfl⟩
abbrev m266 : Mt := (⟨"NinetyPlayersModel", "laySound", "()V"⟩, prog_14_method_64_code, 3, none)
theorem yk_266 : yOK m266 0 := ⟨⟨by decide, by decide, by decide +kernel⟩, by decide +kernel, by decide, gw_of (tb_8 (List.mem_of_getElem? (i := 66) rfl)) rfl, gw_of (tb_1 (List.mem_of_getElem? (i := 12) rfl)) rfl⟩
abbrev m267 : Mt := (⟨"NinetyPlayersModel", "clash", "(I)I"⟩, prog_14_method_70_code, 2, (some FieldType.int))
theorem yk_267 : yOK m267 1 := ⟨⟨by decide, by decide, by decide +kernel⟩, by decide +kernel, by decide, gw_of (tb_8 (List.mem_of_getElem? (i := 70) rfl)) rfl, gw_of (tb_1 (List.mem_of_getElem? (i := 12) rfl)) rfl⟩
abbrev m268 : Mt := (⟨"NinetyPlayersModel", "clashBy", "(IIIII)I"⟩, prog_14_method_60_code, 10, (some FieldType.int))
theorem yk_268 : yOK m268 5 := ⟨⟨by decide, by decide, by decide +kernel⟩, by decide +kernel, by decide, gw_of (tb_8 (List.mem_of_getElem? (i := 74) rfl)) rfl, gw_of (tb_1 (List.mem_of_getElem? (i := 12) rfl)) rfl⟩
abbrev m269 : Mt := (⟨"NinetyPlayersModel", "ownClash", "(IIII)I"⟩, prog_14_method_58_code, 7, (some FieldType.int))
theorem yk_269 : yOK m269 4 := ⟨⟨by decide, by decide, by decide +kernel⟩, by decide +kernel, by decide, gw_of (tb_8 (List.mem_of_getElem? (i := 78) rfl)) rfl, gw_of (tb_1 (List.mem_of_getElem? (i := 12) rfl)) rfl⟩
abbrev m270 : Mt := (⟨"NinetyPlayersModel", "lowest", "(I)I"⟩, prog_14_method_56_code, 4, (some FieldType.int))
theorem yk_270 : yOK m270 1 := ⟨⟨by decide, by decide, by decide +kernel⟩, by decide +kernel, by decide, gw_of (tb_8 (List.mem_of_getElem? (i := 82) rfl)) rfl, gw_of (tb_1 (List.mem_of_getElem? (i := 12) rfl)) rfl⟩
abbrev m271 : Mt := (⟨"NinetyPlayersModel", "highest", "(I)I"⟩, prog_14_method_57_code, 4, (some FieldType.int))
theorem yk_271 : yOK m271 1 := ⟨⟨by decide, by decide, by decide +kernel⟩, by decide +kernel, by decide, gw_of (tb_8 (List.mem_of_getElem? (i := 87) rfl)) rfl, gw_of (tb_1 (List.mem_of_getElem? (i := 12) rfl)) rfl⟩
abbrev m272 : Mt := (⟨"NinetyPlayersModel", "hasTwins", "(I)Z"⟩, prog_14_method_59_code, 5, (some FieldType.boolean))
theorem yk_272 : yOK m272 1 := ⟨⟨by decide, by decide, by decide +kernel⟩, by decide +kernel, by decide, gw_of (tb_8 (List.mem_of_getElem? (i := 91) rfl)) rfl, gw_of (tb_1 (List.mem_of_getElem? (i := 12) rfl)) rfl⟩
abbrev m273 : Mt := (⟨"NinetyPlayersModel", "clashes", "()I"⟩, prog_14_method_71_code, 1, (some FieldType.int))
theorem yk_273 : yOK m273 0 := ⟨⟨by decide, by decide, by decide +kernel⟩, by decide +kernel, by decide, gw_of (tb_8 (List.mem_of_getElem? (i := 95) rfl)) rfl, gw_of (tb_1 (List.mem_of_getElem? (i := 12) rfl)) rfl⟩
abbrev m274 : Mt := (⟨"NinetyPlayersModel", "clashBeats", "(I)I"⟩, prog_14_method_63_code, 4, (some FieldType.int))
theorem yk_274 : yOK m274 1 := ⟨⟨by decide, by decide, by decide +kernel⟩, by decide +kernel, by decide, gw_of (tb_8 (List.mem_of_getElem? (i := 99) rfl)) rfl, gw_of (tb_1 (List.mem_of_getElem? (i := 12) rfl)) rfl⟩
abbrev m275 : Mt := (⟨"NinetyPlayersModel", "give", "(II)I"⟩, prog_14_method_74_code, 3, (some FieldType.int))
theorem yk_275 : yOK m275 2 := ⟨⟨by decide, by decide, by decide +kernel⟩, by decide +kernel, by decide, gw_of (tb_8 (List.mem_of_getElem? (i := 103) rfl)) rfl, gw_of (tb_1 (List.mem_of_getElem? (i := 12) rfl)) rfl⟩
abbrev m276 : Mt := (⟨"NinetyPlayersModel", "act", "()V"⟩, prog_14_method_72_code, 2, none)
theorem yk_276 : yOK m276 0 := ⟨⟨by decide, by decide, by decide +kernel⟩, by decide +kernel, by decide, gw_of (tb_8 (List.mem_of_getElem? (i := 107) rfl)) rfl, gw_of (tb_1 (List.mem_of_getElem? (i := 12) rfl)) rfl⟩
abbrev m277 : Mt := (⟨"NinetyPlayersModel", "shift", "(II)I"⟩, prog_14_method_75_code, 3, (some FieldType.int))
theorem yk_277 : yOK m277 2 := ⟨⟨by decide, by decide, by decide +kernel⟩, by decide +kernel, by decide, gw_of (tb_8 (List.mem_of_getElem? (i := 112) rfl)) rfl, gw_of (tb_1 (List.mem_of_getElem? (i := 12) rfl)) rfl⟩
abbrev m278 : Mt := (⟨"NinetyPlayersModel", "louder", "(II)I"⟩, prog_14_method_77_code, 3, (some FieldType.int))
theorem yk_278 : yOK m278 2 := ⟨⟨by decide, by decide, by decide +kernel⟩, by decide +kernel, by decide, gw_of (tb_8 (List.mem_of_getElem? (i := 116) rfl)) rfl, gw_of (tb_1 (List.mem_of_getElem? (i := 12) rfl)) rfl⟩
abbrev m279 : Mt := (⟨"NinetyPlayersModel", "change", "(II)I"⟩, prog_14_method_76_code, 4, (some FieldType.int))
theorem yk_279 : yOK m279 2 := ⟨⟨by decide, by decide, by decide +kernel⟩, by decide +kernel, by decide, gw_of (tb_8 (List.mem_of_getElem? (i := 120) rfl)) rfl, gw_of (tb_1 (List.mem_of_getElem? (i := 12) rfl)) rfl⟩
abbrev m280 : Mt := (⟨"NinetyPlayersModel", "last", "(II)I"⟩, prog_14_method_78_code, 3, (some FieldType.int))
theorem yk_280 : yOK m280 2 := ⟨⟨by decide, by decide, by decide +kernel⟩, by decide +kernel, by decide, gw_of (tb_8 (List.mem_of_getElem? (i := 124) rfl)) rfl, gw_of (tb_1 (List.mem_of_getElem? (i := 12) rfl)) rfl⟩
abbrev m281 : Mt := (⟨"NinetyPlayersModel", "pedal", "(I)I"⟩, prog_14_method_79_code, 2, (some FieldType.int))
theorem yk_281 : yOK m281 1 := ⟨⟨by decide, by decide, by decide +kernel⟩, by decide +kernel, by decide, gw_of (tb_8 (List.mem_of_getElem? (i := 128) rfl)) rfl, gw_of (tb_1 (List.mem_of_getElem? (i := 12) rfl)) rfl⟩
abbrev m282 : Mt := (⟨"NinetyPlayersModel", "undo", "()Z"⟩, prog_14_method_80_code, 1, (some FieldType.boolean))
theorem yk_282 : yOK m282 0 := ⟨⟨by decide, by decide, by decide +kernel⟩, by decide +kernel, by decide, gw_of (tb_8 (List.mem_of_getElem? (i := 132) rfl)) rfl, gw_of (tb_1 (List.mem_of_getElem? (i := 12) rfl)) rfl⟩
abbrev m283 : Mt := (⟨"NinetyPlayersModel", "exchange", "(I)V"⟩, prog_14_method_73_code, 4, none)
theorem yk_283 : yOK m283 1 := ⟨⟨by decide, by decide, by decide +kernel⟩, by decide +kernel, by decide, gw_of (tb_8 (List.mem_of_getElem? (i := 136) rfl)) rfl, gw_of (tb_1 (List.mem_of_getElem? (i := 12) rfl)) rfl⟩
abbrev m284 : Mt := (⟨"NinetyPlayersModel", "redo", "()Z"⟩, prog_14_method_81_code, 1, (some FieldType.boolean))
theorem yk_284 : yOK m284 0 := ⟨⟨by decide, by decide, by decide +kernel⟩, by decide +kernel, by decide, gw_of (tb_8 (List.mem_of_getElem? (i := 140) rfl)) rfl, gw_of (tb_1 (List.mem_of_getElem? (i := 12) rfl)) rfl⟩
abbrev m285 : Mt := (⟨"NinetyPlayersModel", "loss", "()I"⟩, prog_14_method_84_code, 1, (some FieldType.int))
theorem yk_285 : yOK m285 0 := ⟨⟨by decide, by decide, by decide +kernel⟩, by decide +kernel, by decide, gw_of (tb_8 (List.mem_of_getElem? (i := 144) rfl)) rfl, gw_of (tb_1 (List.mem_of_getElem? (i := 12) rfl)) rfl⟩
abbrev m286 : Mt := (⟨"NinetyPlayersModel", "layMissed", "()V"⟩, prog_14_method_82_code, 2, none)
theorem yk_286 : yOK m286 0 := ⟨⟨by decide, by decide, by decide +kernel⟩, by decide +kernel, by decide, gw_of (tb_8 (List.mem_of_getElem? (i := 148) rfl)) rfl, gw_of (tb_1 (List.mem_of_getElem? (i := 12) rfl)) rfl⟩
abbrev m287 : Mt := (⟨"NinetyPlayersModel", "missedBy", "(I)I"⟩, prog_14_method_83_code, 4, (some FieldType.int))
theorem yk_287 : yOK m287 1 := ⟨⟨by decide, by decide, by decide +kernel⟩, by decide +kernel, by decide, gw_of (tb_8 (List.mem_of_getElem? (i := 152) rfl)) rfl, gw_of (tb_1 (List.mem_of_getElem? (i := 12) rfl)) rfl⟩
abbrev m288 : Mt := (⟨"NinetyPlayersModel", "version", "(I)I"⟩, prog_14_method_89_code, 5, (some FieldType.int))
theorem yk_288 : yOK m288 1 := ⟨⟨by decide, by decide, by decide +kernel⟩, by decide +kernel, by decide, gw_of (tb_8 (List.mem_of_getElem? (i := 156) rfl)) rfl, gw_of (tb_1 (List.mem_of_getElem? (i := 12) rfl)) rfl⟩
abbrev m289 : Mt := (⟨"NinetyPlayersModel", "best", "(II)I"⟩, prog_14_method_88_code, 7, (some FieldType.int))
theorem yk_289 : yOK m289 2 := ⟨⟨by decide, by decide, by decide +kernel⟩, by decide +kernel, by decide, gw_of (tb_8 (List.mem_of_getElem? (i := 160) rfl)) rfl, gw_of (tb_1 (List.mem_of_getElem? (i := 12) rfl)) rfl⟩
abbrev m290 : Mt := (⟨"NinetyPlayersModel", "power", "(II)I"⟩, prog_14_method_85_code, 4, (some FieldType.int))
theorem yk_290 : yOK m290 2 := ⟨⟨by decide, by decide, by decide +kernel⟩, by decide +kernel, by decide, gw_of (tb_8 (List.mem_of_getElem? (i := 163) rfl)) rfl, gw_of (tb_1 (List.mem_of_getElem? (i := 12) rfl)) rfl⟩
abbrev m291 : Mt := (⟨"NinetyPlayersModel", "layVersion", "(I)I"⟩, prog_14_method_86_code, 5, (some FieldType.int))
theorem yk_291 : yOK m291 1 := ⟨⟨by decide, by decide, by decide +kernel⟩, by decide +kernel, by decide, gw_of (tb_8 (List.mem_of_getElem? (i := 167) rfl)) rfl, gw_of (tb_1 (List.mem_of_getElem? (i := 12) rfl)) rfl⟩
abbrev m292 : Mt := (⟨"NinetyPlayersModel", "rowOf", "(I)I"⟩, prog_14_method_87_code, 4, (some FieldType.int))
theorem yk_292 : yOK m292 1 := ⟨⟨by decide, by decide, by decide +kernel⟩, by decide +kernel, by decide, gw_of (tb_8 (List.mem_of_getElem? (i := 171) rfl)) rfl, gw_of (tb_1 (List.mem_of_getElem? (i := 12) rfl)) rfl⟩
abbrev m293 : Mt := (⟨"NinetyPlayersModel", "canBePlayed", "(IIII)Z"⟩, prog_14_method_61_code, 7, (some FieldType.boolean))
theorem yk_293 : yOK m293 4 := ⟨⟨by decide, by decide, by decide +kernel⟩, by decide +kernel, by decide, gw_of (tb_8 (List.mem_of_getElem? (i := 175) rfl)) rfl, gw_of (tb_1 (List.mem_of_getElem? (i := 12) rfl)) rfl⟩
abbrev m294 : Mt := (⟨"NinetyPlayersModel", "child", "(II)I"⟩, prog_14_method_90_code, 3, (some FieldType.int))
theorem yk_294 : yOK m294 2 := ⟨⟨by decide, by decide, by decide +kernel⟩, by decide +kernel, by decide, gw_of (tb_8 (List.mem_of_getElem? (i := 179) rfl)) rfl, gw_of (tb_1 (List.mem_of_getElem? (i := 12) rfl)) rfl⟩
abbrev m295 : Mt := (⟨"NinetyPlayersModel", "forbids", "(II)I"⟩, prog_14_method_93_code, 3, (some FieldType.int))
theorem yk_295 : yOK m295 2 := ⟨⟨by decide, by decide, by decide +kernel⟩, by decide +kernel, by decide, gw_of (tb_8 (List.mem_of_getElem? (i := 183) rfl)) rfl, gw_of (tb_1 (List.mem_of_getElem? (i := 12) rfl)) rfl⟩
abbrev m296 : Mt := (⟨"NinetyPlayersModel", "isOut", "(I)Z"⟩, prog_14_method_92_code, 2, (some FieldType.boolean))
theorem yk_296 : yOK m296 1 := ⟨⟨by decide, by decide, by decide +kernel⟩, by decide +kernel, by decide, gw_of (tb_8 (List.mem_of_getElem? (i := 187) rfl)) rfl, gw_of (tb_1 (List.mem_of_getElem? (i := 12) rfl)) rfl⟩
abbrev m297 : Mt := (⟨"NinetyPlayersModel", "forbidden", "(II)I"⟩, prog_14_method_91_code, 10, (some FieldType.int))
theorem yk_297 : yOK m297 2 := ⟨⟨by decide, by decide, by decide +kernel⟩, by decide +kernel, by decide, gw_of (tb_8 (List.mem_of_getElem? (i := 191) rfl)) rfl, gw_of (tb_1 (List.mem_of_getElem? (i := 12) rfl)) rfl⟩
abbrev m298 : Mt := (⟨"NinetyPlayersModel", "could", "(I)I"⟩, prog_14_method_94_code, 4, (some FieldType.int))
theorem yk_298 : yOK m298 1 := ⟨⟨by decide, by decide, by decide +kernel⟩, by decide +kernel, by decide, gw_of (tb_8 (List.mem_of_getElem? (i := 195) rfl)) rfl, gw_of (tb_1 (List.mem_of_getElem? (i := 12) rfl)) rfl⟩
abbrev m299 : Mt := (⟨"NinetyPlayersModel", "giveway", "(III)I"⟩, prog_14_method_95_code, 9, (some FieldType.int))
theorem yk_299 : yOK m299 3 := ⟨⟨by decide, by decide, by decide +kernel⟩, by decide +kernel, by decide, gw_of (tb_8 (List.mem_of_getElem? (i := 199) rfl)) rfl, gw_of (tb_1 (List.mem_of_getElem? (i := 12) rfl)) rfl⟩
abbrev m300 : Mt := (⟨"NinetyPlayersModel", "letin", "(II)I"⟩, prog_14_method_97_code, 6, (some FieldType.int))
theorem yk_300 : yOK m300 2 := ⟨⟨by decide, by decide, by decide +kernel⟩, by decide +kernel, by decide, gw_of (tb_8 (List.mem_of_getElem? (i := 203) rfl)) rfl, gw_of (tb_1 (List.mem_of_getElem? (i := 12) rfl)) rfl⟩
abbrev m301 : Mt := (⟨"NinetyPlayersModel", "letsIn", "(III)Z"⟩, prog_14_method_96_code, 5, (some FieldType.boolean))
theorem yk_301 : yOK m301 3 := ⟨⟨by decide, by decide, by decide +kernel⟩, by decide +kernel, by decide, gw_of (tb_8 (List.mem_of_getElem? (i := 207) rfl)) rfl, gw_of (tb_1 (List.mem_of_getElem? (i := 12) rfl)) rfl⟩
abbrev m302 : Mt := (⟨"NinetyPlayersModel", "canBePlayedSo", "()Z"⟩, prog_14_method_62_code, 1, (some FieldType.boolean))
theorem yk_302 : yOK m302 0 := ⟨⟨by decide, by decide, by decide +kernel⟩, by decide +kernel, by decide, gw_of (tb_8 (List.mem_of_getElem? (i := 211) rfl)) rfl, gw_of (tb_1 (List.mem_of_getElem? (i := 12) rfl)) rfl⟩
abbrev m303 : Mt := (⟨"NinetyPlayersModel", "pedals", "(I)I"⟩, prog_14_method_98_code, 6, (some FieldType.int))
theorem yk_303 : yOK m303 1 := ⟨⟨by decide, by decide, by decide +kernel⟩, by decide +kernel, by decide, gw_of (tb_8 (List.mem_of_getElem? (i := 215) rfl)) rfl, gw_of (tb_1 (List.mem_of_getElem? (i := 12) rfl)) rfl⟩
abbrev m304 : Mt := (⟨"NinetyPlayersModel", "spread", "(I)I"⟩, prog_14_method_99_code, 5, (some FieldType.int))
theorem yk_304 : yOK m304 1 := ⟨⟨by decide, by decide, by decide +kernel⟩, by decide +kernel, by decide, gw_of (tb_8 (List.mem_of_getElem? (i := 219) rfl)) rfl, gw_of (tb_1 (List.mem_of_getElem? (i := 12) rfl)) rfl⟩
abbrev m305 : Mt := (⟨"NinetyPlayersModel", "greater", "(II)I"⟩, prog_14_method_36_code, 2, (some FieldType.int))
theorem yk_305 : yOK m305 2 := ⟨⟨by decide, by decide, by decide +kernel⟩, by decide +kernel, by decide, gw_of (tb_8 (List.mem_of_getElem? (i := 222) rfl)) rfl, gw_of (tb_1 (List.mem_of_getElem? (i := 12) rfl)) rfl⟩
abbrev m306 : Mt := (⟨"NinetyPlayersModel", "leaps", "(I)I"⟩, prog_14_method_100_code, 6, (some FieldType.int))
theorem yk_306 : yOK m306 1 := ⟨⟨by decide, by decide, by decide +kernel⟩, by decide +kernel, by decide, gw_of (tb_8 (List.mem_of_getElem? (i := 226) rfl)) rfl, gw_of (tb_1 (List.mem_of_getElem? (i := 12) rfl)) rfl⟩
abbrev m307 : Mt := (⟨"NinetyPlayersModel", "busiest", "(I)I"⟩, prog_14_method_101_code, 4, (some FieldType.int))
theorem yk_307 : yOK m307 1 := ⟨⟨by decide, by decide, by decide +kernel⟩, by decide +kernel, by decide, gw_of (tb_8 (List.mem_of_getElem? (i := 230) rfl)) rfl, gw_of (tb_1 (List.mem_of_getElem? (i := 12) rfl)) rfl⟩
abbrev m308 : Mt := (⟨"NinetyPlayersModel", "blur", "()I"⟩, prog_14_method_103_code, 5, (some FieldType.int))
theorem yk_308 : yOK m308 0 := ⟨⟨by decide, by decide, by decide +kernel⟩, by decide +kernel, by decide, gw_of (tb_8 (List.mem_of_getElem? (i := 234) rfl)) rfl, gw_of (tb_1 (List.mem_of_getElem? (i := 12) rfl)) rfl⟩
abbrev m309 : Mt := (⟨"NinetyPlayersModel", "blurs", "(III)Z"⟩, prog_14_method_102_code, 5, (some FieldType.boolean))
theorem yk_309 : yOK m309 3 := ⟨⟨by decide, by decide, by decide +kernel⟩, by decide +kernel, by decide, gw_of (tb_8 (List.mem_of_getElem? (i := 238) rfl)) rfl, gw_of (tb_1 (List.mem_of_getElem? (i := 12) rfl)) rfl⟩
abbrev m310 : Mt := (⟨"NinetyPlayersModel", "open", "(I)I"⟩, prog_14_method_105_code, 2, (some FieldType.int))
theorem yk_310 : yOK m310 1 := ⟨⟨by decide, by decide, by decide +kernel⟩, by decide +kernel, by decide, gw_of (tb_9 (List.mem_of_getElem? (i := 2) rfl)) rfl, gw_of (tb_1 (List.mem_of_getElem? (i := 12) rfl)) rfl⟩
abbrev m311 : Mt := (⟨"NinetyPlayersModel", "openAt", "(I)I"⟩, prog_14_method_104_code, 6, (some FieldType.int))
theorem yk_311 : yOK m311 1 := ⟨⟨by decide, by decide, by decide +kernel⟩, by decide +kernel, by decide, gw_of (tb_9 (List.mem_of_getElem? (i := 6) rfl)) rfl, gw_of (tb_1 (List.mem_of_getElem? (i := 12) rfl)) rfl⟩
abbrev m312 : Mt := (⟨"NinetyPlayersModel", "lost", "()I"⟩, prog_14_method_107_code, 3, (some FieldType.int))
theorem yk_312 : yOK m312 0 := ⟨⟨by decide, by decide, by decide +kernel⟩, by decide +kernel, by decide, gw_of (tb_9 (List.mem_of_getElem? (i := 10) rfl)) rfl, gw_of (tb_1 (List.mem_of_getElem? (i := 12) rfl)) rfl⟩
abbrev m313 : Mt := (⟨"NinetyPlayersModel", "tunes", "()I"⟩, prog_14_method_106_code, 3, (some FieldType.int))
theorem yk_313 : yOK m313 0 := ⟨⟨by decide, by decide, by decide +kernel⟩, by decide +kernel, by decide, gw_of (tb_9 (List.mem_of_getElem? (i := 14) rfl)) rfl, gw_of (tb_1 (List.mem_of_getElem? (i := 12) rfl)) rfl⟩
abbrev m314 : Mt := (⟨"NinetyPlayersModel", "gaps", "()I"⟩, prog_14_method_108_code, 3, (some FieldType.int))
theorem yk_314 : yOK m314 0 := ⟨⟨by decide, by decide, by decide +kernel⟩, by decide +kernel, by decide, gw_of (tb_9 (List.mem_of_getElem? (i := 18) rfl)) rfl, gw_of (tb_1 (List.mem_of_getElem? (i := 12) rfl)) rfl⟩
abbrev m315 : Mt := (⟨"NinetyPlayersModel", "easier", "(I)I"⟩, prog_14_method_109_code, 3, (some FieldType.int))
theorem yk_315 : yOK m315 1 := ⟨⟨by decide, by decide, by decide +kernel⟩, by decide +kernel, by decide, gw_of (tb_9 (List.mem_of_getElem? (i := 22) rfl)) rfl, gw_of (tb_1 (List.mem_of_getElem? (i := 12) rfl)) rfl⟩
abbrev m316 : Mt := (⟨"NinetyPlayersModel", "thickest", "()I"⟩, prog_14_method_110_code, 4, (some FieldType.int))
theorem yk_316 : yOK m316 0 := ⟨⟨by decide, by decide, by decide +kernel⟩, by decide +kernel, by decide, gw_of (tb_9 (List.mem_of_getElem? (i := 26) rfl)) rfl, gw_of (tb_1 (List.mem_of_getElem? (i := 12) rfl)) rfl⟩
abbrev m317 : Mt := (⟨"NinetyPlayersModel", "law", "(I)I"⟩, prog_14_method_111_code, 2, (some FieldType.int))
theorem yk_317 : yOK m317 1 := ⟨⟨by decide, by decide, by decide +kernel⟩, by decide +kernel, by decide, gw_of (tb_9 (List.mem_of_getElem? (i := 30) rfl)) rfl, gw_of (tb_1 (List.mem_of_getElem? (i := 12) rfl)) rfl⟩
abbrev m318 : Mt := (⟨"NinetyPlayersModel", "dearest", "()I"⟩, prog_14_method_112_code, 3, (some FieldType.int))
theorem yk_318 : yOK m318 0 := ⟨⟨by decide, by decide, by decide +kernel⟩, by decide +kernel, by decide, gw_of (tb_9 (List.mem_of_getElem? (i := 34) rfl)) rfl, gw_of (tb_1 (List.mem_of_getElem? (i := 12) rfl)) rfl⟩
abbrev m319 : Mt := (⟨"NinetyPlayersModel", "lies", "(I)I"⟩, prog_14_method_113_code, 2, (some FieldType.int))
theorem yk_319 : yOK m319 1 := ⟨⟨by decide, by decide, by decide +kernel⟩, by decide +kernel, by decide, gw_of (tb_9 (List.mem_of_getElem? (i := 38) rfl)) rfl, gw_of (tb_1 (List.mem_of_getElem? (i := 12) rfl)) rfl⟩
abbrev m320 : Mt := (⟨"NinetyPlayersModel", "heard", "(IIZ)I"⟩, prog_14_method_114_code, 4, (some FieldType.int))
theorem yk_320 : yOK m320 3 := ⟨⟨by decide, by decide, by decide +kernel⟩, by decide +kernel, by decide, gw_of (tb_9 (List.mem_of_getElem? (i := 42) rfl)) rfl, gw_of (tb_1 (List.mem_of_getElem? (i := 12) rfl)) rfl⟩
abbrev m321 : Mt := (⟨"NinetyPlayersModel", "untell", "(I)Z"⟩, prog_14_method_115_code, 2, (some FieldType.boolean))
theorem yk_321 : yOK m321 1 := ⟨⟨by decide, by decide, by decide +kernel⟩, by decide +kernel, by decide, gw_of (tb_9 (List.mem_of_getElem? (i := 46) rfl)) rfl, gw_of (tb_1 (List.mem_of_getElem? (i := 12) rfl)) rfl⟩
abbrev m322 : Mt := (⟨"NinetyPlayersModel", "later", "(I)I"⟩, prog_14_method_116_code, 2, (some FieldType.int))
theorem yk_322 : yOK m322 1 := ⟨⟨by decide, by decide, by decide +kernel⟩, by decide +kernel, by decide, gw_of (tb_9 (List.mem_of_getElem? (i := 50) rfl)) rfl, gw_of (tb_1 (List.mem_of_getElem? (i := 12) rfl)) rfl⟩
abbrev m323 : Mt := (⟨"NinetyPlayersModel", "sets", "(I)I"⟩, prog_14_method_120_code, 2, (some FieldType.int))
theorem yk_323 : yOK m323 1 := ⟨⟨by decide, by decide, by decide +kernel⟩, by decide +kernel, by decide, gw_of (tb_9 (List.mem_of_getElem? (i := 55) rfl)) rfl, gw_of (tb_1 (List.mem_of_getElem? (i := 12) rfl)) rfl⟩
abbrev m324 : Mt := (⟨"NinetyPlayersModel", "laySets", "(I)I"⟩, prog_14_method_119_code, 6, (some FieldType.int))
theorem yk_324 : yOK m324 1 := ⟨⟨by decide, by decide, by decide +kernel⟩, by decide +kernel, by decide, gw_of (tb_9 (List.mem_of_getElem? (i := 59) rfl)) rfl, gw_of (tb_1 (List.mem_of_getElem? (i := 12) rfl)) rfl⟩
abbrev m325 : Mt := (⟨"NinetyPlayersModel", "sayersOf", "(I)I"⟩, prog_14_method_117_code, 4, (some FieldType.int))
theorem yk_325 : yOK m325 1 := ⟨⟨by decide, by decide, by decide +kernel⟩, by decide +kernel, by decide, gw_of (tb_9 (List.mem_of_getElem? (i := 63) rfl)) rfl, gw_of (tb_1 (List.mem_of_getElem? (i := 12) rfl)) rfl⟩
abbrev m326 : Mt := (⟨"NinetyPlayersModel", "counts", "(II)Z"⟩, prog_14_method_118_code, 3, (some FieldType.boolean))
theorem yk_326 : yOK m326 2 := ⟨⟨by decide, by decide, by decide +kernel⟩, by decide +kernel, by decide, gw_of (tb_9 (List.mem_of_getElem? (i := 67) rfl)) rfl, gw_of (tb_1 (List.mem_of_getElem? (i := 12) rfl)) rfl⟩
abbrev m327 : Mt := (⟨"NinetyPlayersModel", "sure", "(II)I"⟩, prog_14_method_121_code, 4, (some FieldType.int))
theorem yk_327 : yOK m327 2 := ⟨⟨by decide, by decide, by decide +kernel⟩, by decide +kernel, by decide, gw_of (tb_9 (List.mem_of_getElem? (i := 71) rfl)) rfl, gw_of (tb_1 (List.mem_of_getElem? (i := 12) rfl)) rfl⟩
abbrev m328 : Mt := (⟨"NinetyPlayersModel", "ask", "(II)I"⟩, prog_14_method_122_code, 6, (some FieldType.int))
theorem yk_328 : yOK m328 2 := ⟨⟨by decide, by decide, by decide +kernel⟩, by decide +kernel, by decide, gw_of (tb_9 (List.mem_of_getElem? (i := 75) rfl)) rfl, gw_of (tb_1 (List.mem_of_getElem? (i := 12) rfl)) rfl⟩
abbrev m329 : Mt := (⟨"NinetyPlayersModel", "image", "(I)I"⟩, prog_14_method_125_code, 3, (some FieldType.int))
theorem yk_329 : yOK m329 1 := ⟨⟨by decide, by decide, by decide +kernel⟩, by decide +kernel, by decide, gw_of (tb_9 (List.mem_of_getElem? (i := 79) rfl)) rfl, gw_of (tb_1 (List.mem_of_getElem? (i := 12) rfl)) rfl⟩
abbrev m330 : Mt := (⟨"NinetyPlayersModel", "isBox", "(I)Z"⟩, prog_14_method_123_code, 1, (some FieldType.boolean))
theorem yk_330 : yOK m330 1 := ⟨⟨by decide, by decide, by decide +kernel⟩, by decide +kernel, by decide, gw_of (tb_9 (List.mem_of_getElem? (i := 82) rfl)) rfl, gw_of (tb_1 (List.mem_of_getElem? (i := 12) rfl)) rfl⟩
abbrev m331 : Mt := (⟨"NinetyPlayersModel", "played", "()I"⟩, prog_14_method_124_code, 3, (some FieldType.int))
theorem yk_331 : yOK m331 0 := ⟨⟨by decide, by decide, by decide +kernel⟩, by decide +kernel, by decide, gw_of (tb_9 (List.mem_of_getElem? (i := 86) rfl)) rfl, gw_of (tb_1 (List.mem_of_getElem? (i := 12) rfl)) rfl⟩
abbrev m332 : Mt := (⟨"NinetyPlayersModel", "back", "(I)I"⟩, prog_14_method_126_code, 3, (some FieldType.int))
theorem yk_332 : yOK m332 1 := ⟨⟨by decide, by decide, by decide +kernel⟩, by decide +kernel, by decide, gw_of (tb_9 (List.mem_of_getElem? (i := 90) rfl)) rfl, gw_of (tb_1 (List.mem_of_getElem? (i := 12) rfl)) rfl⟩
abbrev m333 : Mt := (⟨"NinetyPlayersModel", "differ", "(I)I"⟩, prog_14_method_127_code, 4, (some FieldType.int))
theorem yk_333 : yOK m333 1 := ⟨⟨by decide, by decide, by decide +kernel⟩, by decide +kernel, by decide, gw_of (tb_9 (List.mem_of_getElem? (i := 94) rfl)) rfl, gw_of (tb_1 (List.mem_of_getElem? (i := 12) rfl)) rfl⟩
abbrev m334 : Mt := (⟨"NinetyPlayersModel", "about", "(I)I"⟩, prog_14_method_128_code, 2, (some FieldType.int))
theorem yk_334 : yOK m334 1 := ⟨⟨by decide, by decide, by decide +kernel⟩, by decide +kernel, by decide, gw_of (tb_9 (List.mem_of_getElem? (i := 98) rfl)) rfl, gw_of (tb_1 (List.mem_of_getElem? (i := 12) rfl)) rfl⟩
theorem ml_13_13 : mLV "NinetyPlayersLaw" 13 m16 5 := ⟨yk_16, gw_of (tb_2 (List.mem_of_getElem? (i := 237) rfl)) rfl, gw_of (tb_2 (List.mem_of_getElem? (i := 238) rfl)) rfl, gw_of (tb_2 (List.mem_of_getElem? (i := 239) rfl)) rfl⟩
theorem ml_13_17 : mLV "NinetyPlayersLaw" 17 m208 5 := ⟨yk_208, gw_of (tb_7 (List.mem_of_getElem? (i := 61) rfl)) rfl, gw_of (tb_7 (List.mem_of_getElem? (i := 62) rfl)) rfl, gw_of (tb_7 (List.mem_of_getElem? (i := 63) rfl)) rfl⟩
theorem ml_13_18 : mLV "NinetyPlayersLaw" 18 m18 1 := ⟨yk_18, gw_of (tb_3 (List.mem_of_getElem? (i := 5) rfl)) rfl, gw_of (tb_3 (List.mem_of_getElem? (i := 6) rfl)) rfl, gw_of (tb_3 (List.mem_of_getElem? (i := 7) rfl)) rfl⟩
theorem ml_13_22 : mLV "NinetyPlayersLaw" 22 m210 1 := ⟨yk_210, gw_of (tb_7 (List.mem_of_getElem? (i := 69) rfl)) rfl, gw_of (tb_7 (List.mem_of_getElem? (i := 70) rfl)) rfl, gw_of (tb_7 (List.mem_of_getElem? (i := 71) rfl)) rfl⟩
theorem ml_13_23 : mLV "NinetyPlayersLaw" 23 m19 0 := ⟨yk_19, gw_of (tb_3 (List.mem_of_getElem? (i := 9) rfl)) rfl, gw_of (tb_3 (List.mem_of_getElem? (i := 10) rfl)) rfl, gw_of (tb_3 (List.mem_of_getElem? (i := 11) rfl)) rfl⟩
theorem ml_13_27 : mLV "NinetyPlayersLaw" 27 m211 0 := ⟨yk_211, gw_of (tb_7 (List.mem_of_getElem? (i := 73) rfl)) rfl, gw_of (tb_7 (List.mem_of_getElem? (i := 74) rfl)) rfl, gw_of (tb_7 (List.mem_of_getElem? (i := 75) rfl)) rfl⟩
theorem ml_13_28 : mLV "NinetyPlayersLaw" 28 m85 1 := ⟨yk_85, gw_of (tb_4 (List.mem_of_getElem? (i := 29) rfl)) rfl, gw_of (tb_4 (List.mem_of_getElem? (i := 30) rfl)) rfl, gw_of (tb_4 (List.mem_of_getElem? (i := 31) rfl)) rfl⟩
theorem ml_13_31 : mLV "NinetyPlayersLaw" 31 m247 1 := ⟨yk_247, gw_of (tb_7 (List.mem_of_getElem? (i := 233) rfl)) rfl, gw_of (tb_7 (List.mem_of_getElem? (i := 234) rfl)) rfl, gw_of (tb_7 (List.mem_of_getElem? (i := 235) rfl)) rfl⟩
theorem ml_13_32 : mLV "NinetyPlayersLaw" 32 m86 2 := ⟨yk_86, gw_of (tb_4 (List.mem_of_getElem? (i := 33) rfl)) rfl, gw_of (tb_4 (List.mem_of_getElem? (i := 34) rfl)) rfl, gw_of (tb_4 (List.mem_of_getElem? (i := 35) rfl)) rfl⟩
theorem ml_13_36 : mLV "NinetyPlayersLaw" 36 m248 2 := ⟨yk_248, gw_of (tb_7 (List.mem_of_getElem? (i := 237) rfl)) rfl, gw_of (tb_7 (List.mem_of_getElem? (i := 238) rfl)) rfl, gw_of (tb_7 (List.mem_of_getElem? (i := 239) rfl)) rfl⟩
theorem ml_13_37 : mLV "NinetyPlayersLaw" 37 m97 2 := ⟨yk_97, gw_of (tb_4 (List.mem_of_getElem? (i := 80) rfl)) rfl, gw_of (tb_4 (List.mem_of_getElem? (i := 81) rfl)) rfl, gw_of (tb_4 (List.mem_of_getElem? (i := 82) rfl)) rfl⟩
theorem ml_13_40 : mLV "NinetyPlayersLaw" 40 m259 2 := ⟨yk_259, gw_of (tb_8 (List.mem_of_getElem? (i := 36) rfl)) rfl, gw_of (tb_8 (List.mem_of_getElem? (i := 37) rfl)) rfl, gw_of (tb_8 (List.mem_of_getElem? (i := 38) rfl)) rfl⟩
theorem ml_13_41 : mLV "NinetyPlayersLaw" 41 m101 2 := ⟨yk_101, gw_of (tb_4 (List.mem_of_getElem? (i := 96) rfl)) rfl, gw_of (tb_4 (List.mem_of_getElem? (i := 97) rfl)) rfl, gw_of (tb_4 (List.mem_of_getElem? (i := 98) rfl)) rfl⟩
theorem ml_13_44 : mLV "NinetyPlayersLaw" 44 m262 2 := ⟨yk_262, gw_of (tb_8 (List.mem_of_getElem? (i := 48) rfl)) rfl, gw_of (tb_8 (List.mem_of_getElem? (i := 49) rfl)) rfl, gw_of (tb_8 (List.mem_of_getElem? (i := 50) rfl)) rfl⟩
theorem ml_13_45 : mLV "NinetyPlayersLaw" 45 m111 1 := ⟨yk_111, gw_of (tb_4 (List.mem_of_getElem? (i := 136) rfl)) rfl, gw_of (tb_4 (List.mem_of_getElem? (i := 137) rfl)) rfl, gw_of (tb_4 (List.mem_of_getElem? (i := 138) rfl)) rfl⟩
theorem ml_13_48 : mLV "NinetyPlayersLaw" 48 m265 1 := ⟨yk_265, gw_of (tb_8 (List.mem_of_getElem? (i := 59) rfl)) rfl, gw_of (tb_8 (List.mem_of_getElem? (i := 60) rfl)) rfl, gw_of (tb_8 (List.mem_of_getElem? (i := 61) rfl)) rfl⟩
theorem ml_13_49 : mLV "NinetyPlayersLaw" 49 m113 1 := ⟨yk_113, gw_of (tb_4 (List.mem_of_getElem? (i := 144) rfl)) rfl, gw_of (tb_4 (List.mem_of_getElem? (i := 145) rfl)) rfl, gw_of (tb_4 (List.mem_of_getElem? (i := 146) rfl)) rfl⟩
theorem ml_13_52 : mLV "NinetyPlayersLaw" 52 m267 1 := ⟨yk_267, gw_of (tb_8 (List.mem_of_getElem? (i := 67) rfl)) rfl, gw_of (tb_8 (List.mem_of_getElem? (i := 68) rfl)) rfl, gw_of (tb_8 (List.mem_of_getElem? (i := 69) rfl)) rfl⟩
theorem ml_13_53 : mLV "NinetyPlayersLaw" 53 m121 2 := ⟨yk_121, gw_of (tb_4 (List.mem_of_getElem? (i := 176) rfl)) rfl, gw_of (tb_4 (List.mem_of_getElem? (i := 177) rfl)) rfl, gw_of (tb_4 (List.mem_of_getElem? (i := 178) rfl)) rfl⟩
theorem ml_13_56 : mLV "NinetyPlayersLaw" 56 m275 2 := ⟨yk_275, gw_of (tb_8 (List.mem_of_getElem? (i := 100) rfl)) rfl, gw_of (tb_8 (List.mem_of_getElem? (i := 101) rfl)) rfl, gw_of (tb_8 (List.mem_of_getElem? (i := 102) rfl)) rfl⟩
theorem ml_13_57 : mLV "NinetyPlayersLaw" 57 m129 2 := ⟨yk_129, gw_of (tb_4 (List.mem_of_getElem? (i := 212) rfl)) rfl, gw_of (tb_4 (List.mem_of_getElem? (i := 213) rfl)) rfl, gw_of (tb_4 (List.mem_of_getElem? (i := 214) rfl)) rfl⟩
theorem ml_13_60 : mLV "NinetyPlayersLaw" 60 m277 2 := ⟨yk_277, gw_of (tb_8 (List.mem_of_getElem? (i := 109) rfl)) rfl, gw_of (tb_8 (List.mem_of_getElem? (i := 110) rfl)) rfl, gw_of (tb_8 (List.mem_of_getElem? (i := 111) rfl)) rfl⟩
theorem ml_13_61 : mLV "NinetyPlayersLaw" 61 m131 2 := ⟨yk_131, gw_of (tb_4 (List.mem_of_getElem? (i := 219) rfl)) rfl, gw_of (tb_4 (List.mem_of_getElem? (i := 220) rfl)) rfl, gw_of (tb_4 (List.mem_of_getElem? (i := 221) rfl)) rfl⟩
theorem ml_13_64 : mLV "NinetyPlayersLaw" 64 m278 2 := ⟨yk_278, gw_of (tb_8 (List.mem_of_getElem? (i := 113) rfl)) rfl, gw_of (tb_8 (List.mem_of_getElem? (i := 114) rfl)) rfl, gw_of (tb_8 (List.mem_of_getElem? (i := 115) rfl)) rfl⟩
theorem ml_13_65 : mLV "NinetyPlayersLaw" 65 m132 2 := ⟨yk_132, gw_of (tb_4 (List.mem_of_getElem? (i := 223) rfl)) rfl, gw_of (tb_4 (List.mem_of_getElem? (i := 224) rfl)) rfl, gw_of (tb_4 (List.mem_of_getElem? (i := 225) rfl)) rfl⟩
theorem ml_13_68 : mLV "NinetyPlayersLaw" 68 m280 2 := ⟨yk_280, gw_of (tb_8 (List.mem_of_getElem? (i := 121) rfl)) rfl, gw_of (tb_8 (List.mem_of_getElem? (i := 122) rfl)) rfl, gw_of (tb_8 (List.mem_of_getElem? (i := 123) rfl)) rfl⟩
theorem ml_13_69 : mLV "NinetyPlayersLaw" 69 m133 1 := ⟨yk_133, gw_of (tb_4 (List.mem_of_getElem? (i := 227) rfl)) rfl, gw_of (tb_4 (List.mem_of_getElem? (i := 228) rfl)) rfl, gw_of (tb_4 (List.mem_of_getElem? (i := 229) rfl)) rfl⟩
theorem ml_13_72 : mLV "NinetyPlayersLaw" 72 m281 1 := ⟨yk_281, gw_of (tb_8 (List.mem_of_getElem? (i := 125) rfl)) rfl, gw_of (tb_8 (List.mem_of_getElem? (i := 126) rfl)) rfl, gw_of (tb_8 (List.mem_of_getElem? (i := 127) rfl)) rfl⟩
theorem ml_13_73 : mLV "NinetyPlayersLaw" 73 m134 0 := ⟨yk_134, gw_of (tb_4 (List.mem_of_getElem? (i := 231) rfl)) rfl, gw_of (tb_4 (List.mem_of_getElem? (i := 232) rfl)) rfl, gw_of (tb_4 (List.mem_of_getElem? (i := 233) rfl)) rfl⟩
theorem ml_13_77 : mLV "NinetyPlayersLaw" 77 m282 0 := ⟨yk_282, gw_of (tb_8 (List.mem_of_getElem? (i := 129) rfl)) rfl, gw_of (tb_8 (List.mem_of_getElem? (i := 130) rfl)) rfl, gw_of (tb_8 (List.mem_of_getElem? (i := 131) rfl)) rfl⟩
theorem ml_13_78 : mLV "NinetyPlayersLaw" 78 m136 0 := ⟨yk_136, gw_of (tb_4 (List.mem_of_getElem? (i := 239) rfl)) rfl, gw_of (tb_5 (List.mem_of_getElem? (i := 0) rfl)) rfl, gw_of (tb_5 (List.mem_of_getElem? (i := 1) rfl)) rfl⟩
theorem ml_13_81 : mLV "NinetyPlayersLaw" 81 m284 0 := ⟨yk_284, gw_of (tb_8 (List.mem_of_getElem? (i := 137) rfl)) rfl, gw_of (tb_8 (List.mem_of_getElem? (i := 138) rfl)) rfl, gw_of (tb_8 (List.mem_of_getElem? (i := 139) rfl)) rfl⟩
theorem ml_13_82 : mLV "NinetyPlayersLaw" 82 m127 0 := ⟨yk_127, gw_of (tb_5 (List.mem_of_getElem? (i := 7) rfl)) rfl, gw_of (tb_4 (List.mem_of_getElem? (i := 204) rfl)) rfl, gw_of (tb_4 (List.mem_of_getElem? (i := 205) rfl)) rfl⟩
theorem ml_13_85 : mLV "NinetyPlayersLaw" 85 m273 0 := ⟨yk_273, gw_of (tb_8 (List.mem_of_getElem? (i := 92) rfl)) rfl, gw_of (tb_8 (List.mem_of_getElem? (i := 93) rfl)) rfl, gw_of (tb_8 (List.mem_of_getElem? (i := 94) rfl)) rfl⟩
theorem ml_13_86 : mLV "NinetyPlayersLaw" 86 m138 0 := ⟨yk_138, gw_of (tb_5 (List.mem_of_getElem? (i := 8) rfl)) rfl, gw_of (tb_5 (List.mem_of_getElem? (i := 9) rfl)) rfl, gw_of (tb_5 (List.mem_of_getElem? (i := 10) rfl)) rfl⟩
theorem ml_13_89 : mLV "NinetyPlayersLaw" 89 m285 0 := ⟨yk_285, gw_of (tb_8 (List.mem_of_getElem? (i := 141) rfl)) rfl, gw_of (tb_8 (List.mem_of_getElem? (i := 142) rfl)) rfl, gw_of (tb_8 (List.mem_of_getElem? (i := 143) rfl)) rfl⟩
theorem ml_13_90 : mLV "NinetyPlayersLaw" 90 m139 1 := ⟨yk_139, gw_of (tb_5 (List.mem_of_getElem? (i := 12) rfl)) rfl, gw_of (tb_5 (List.mem_of_getElem? (i := 13) rfl)) rfl, gw_of (tb_5 (List.mem_of_getElem? (i := 14) rfl)) rfl⟩
theorem ml_13_93 : mLV "NinetyPlayersLaw" 93 m288 1 := ⟨yk_288, gw_of (tb_8 (List.mem_of_getElem? (i := 153) rfl)) rfl, gw_of (tb_8 (List.mem_of_getElem? (i := 154) rfl)) rfl, gw_of (tb_8 (List.mem_of_getElem? (i := 155) rfl)) rfl⟩
theorem ml_13_94 : mLV "NinetyPlayersLaw" 94 m152 2 := ⟨yk_152, gw_of (tb_5 (List.mem_of_getElem? (i := 67) rfl)) rfl, gw_of (tb_5 (List.mem_of_getElem? (i := 68) rfl)) rfl, gw_of (tb_5 (List.mem_of_getElem? (i := 69) rfl)) rfl⟩
theorem ml_13_97 : mLV "NinetyPlayersLaw" 97 m294 2 := ⟨yk_294, gw_of (tb_8 (List.mem_of_getElem? (i := 176) rfl)) rfl, gw_of (tb_8 (List.mem_of_getElem? (i := 177) rfl)) rfl, gw_of (tb_8 (List.mem_of_getElem? (i := 178) rfl)) rfl⟩
theorem ml_13_98 : mLV "NinetyPlayersLaw" 98 m153 2 := ⟨yk_153, gw_of (tb_5 (List.mem_of_getElem? (i := 71) rfl)) rfl, gw_of (tb_5 (List.mem_of_getElem? (i := 72) rfl)) rfl, gw_of (tb_5 (List.mem_of_getElem? (i := 73) rfl)) rfl⟩
theorem ml_13_101 : mLV "NinetyPlayersLaw" 101 m295 2 := ⟨yk_295, gw_of (tb_8 (List.mem_of_getElem? (i := 180) rfl)) rfl, gw_of (tb_8 (List.mem_of_getElem? (i := 181) rfl)) rfl, gw_of (tb_8 (List.mem_of_getElem? (i := 182) rfl)) rfl⟩
theorem ml_13_102 : mLV "NinetyPlayersLaw" 102 m156 3 := ⟨yk_156, gw_of (tb_5 (List.mem_of_getElem? (i := 83) rfl)) rfl, gw_of (tb_5 (List.mem_of_getElem? (i := 84) rfl)) rfl, gw_of (tb_5 (List.mem_of_getElem? (i := 85) rfl)) rfl⟩
theorem ml_13_106 : mLV "NinetyPlayersLaw" 106 m299 3 := ⟨yk_299, gw_of (tb_8 (List.mem_of_getElem? (i := 196) rfl)) rfl, gw_of (tb_8 (List.mem_of_getElem? (i := 197) rfl)) rfl, gw_of (tb_8 (List.mem_of_getElem? (i := 198) rfl)) rfl⟩
theorem ml_13_107 : mLV "NinetyPlayersLaw" 107 m161 2 := ⟨yk_161, gw_of (tb_5 (List.mem_of_getElem? (i := 103) rfl)) rfl, gw_of (tb_5 (List.mem_of_getElem? (i := 104) rfl)) rfl, gw_of (tb_5 (List.mem_of_getElem? (i := 105) rfl)) rfl⟩
theorem ml_13_110 : mLV "NinetyPlayersLaw" 110 m300 2 := ⟨yk_300, gw_of (tb_8 (List.mem_of_getElem? (i := 200) rfl)) rfl, gw_of (tb_8 (List.mem_of_getElem? (i := 201) rfl)) rfl, gw_of (tb_8 (List.mem_of_getElem? (i := 202) rfl)) rfl⟩
theorem ml_13_111 : mLV "NinetyPlayersLaw" 111 m163 1 := ⟨yk_163, gw_of (tb_5 (List.mem_of_getElem? (i := 113) rfl)) rfl, gw_of (tb_5 (List.mem_of_getElem? (i := 114) rfl)) rfl, gw_of (tb_5 (List.mem_of_getElem? (i := 115) rfl)) rfl⟩
theorem ml_13_114 : mLV "NinetyPlayersLaw" 114 m303 1 := ⟨yk_303, gw_of (tb_8 (List.mem_of_getElem? (i := 212) rfl)) rfl, gw_of (tb_8 (List.mem_of_getElem? (i := 213) rfl)) rfl, gw_of (tb_8 (List.mem_of_getElem? (i := 214) rfl)) rfl⟩
theorem ml_13_115 : mLV "NinetyPlayersLaw" 115 m168 1 := ⟨yk_168, gw_of (tb_5 (List.mem_of_getElem? (i := 135) rfl)) rfl, gw_of (tb_5 (List.mem_of_getElem? (i := 136) rfl)) rfl, gw_of (tb_5 (List.mem_of_getElem? (i := 137) rfl)) rfl⟩
theorem ml_13_118 : mLV "NinetyPlayersLaw" 118 m304 1 := ⟨yk_304, gw_of (tb_8 (List.mem_of_getElem? (i := 216) rfl)) rfl, gw_of (tb_8 (List.mem_of_getElem? (i := 217) rfl)) rfl, gw_of (tb_8 (List.mem_of_getElem? (i := 218) rfl)) rfl⟩
theorem ml_13_119 : mLV "NinetyPlayersLaw" 119 m170 1 := ⟨yk_170, gw_of (tb_5 (List.mem_of_getElem? (i := 143) rfl)) rfl, gw_of (tb_5 (List.mem_of_getElem? (i := 144) rfl)) rfl, gw_of (tb_5 (List.mem_of_getElem? (i := 145) rfl)) rfl⟩
theorem ml_13_122 : mLV "NinetyPlayersLaw" 122 m306 1 := ⟨yk_306, gw_of (tb_8 (List.mem_of_getElem? (i := 223) rfl)) rfl, gw_of (tb_8 (List.mem_of_getElem? (i := 224) rfl)) rfl, gw_of (tb_8 (List.mem_of_getElem? (i := 225) rfl)) rfl⟩
theorem ml_13_123 : mLV "NinetyPlayersLaw" 123 m171 0 := ⟨yk_171, gw_of (tb_5 (List.mem_of_getElem? (i := 148) rfl)) rfl, gw_of (tb_5 (List.mem_of_getElem? (i := 149) rfl)) rfl, gw_of (tb_5 (List.mem_of_getElem? (i := 150) rfl)) rfl⟩
theorem ml_13_126 : mLV "NinetyPlayersLaw" 126 m308 0 := ⟨yk_308, gw_of (tb_8 (List.mem_of_getElem? (i := 231) rfl)) rfl, gw_of (tb_8 (List.mem_of_getElem? (i := 232) rfl)) rfl, gw_of (tb_8 (List.mem_of_getElem? (i := 233) rfl)) rfl⟩
theorem ml_13_127 : mLV "NinetyPlayersLaw" 127 m173 1 := ⟨yk_173, gw_of (tb_5 (List.mem_of_getElem? (i := 157) rfl)) rfl, gw_of (tb_5 (List.mem_of_getElem? (i := 158) rfl)) rfl, gw_of (tb_5 (List.mem_of_getElem? (i := 159) rfl)) rfl⟩
theorem ml_13_130 : mLV "NinetyPlayersLaw" 130 m310 1 := ⟨yk_310, gw_of (tb_8 (List.mem_of_getElem? (i := 239) rfl)) rfl, gw_of (tb_9 (List.mem_of_getElem? (i := 0) rfl)) rfl, gw_of (tb_9 (List.mem_of_getElem? (i := 1) rfl)) rfl⟩
theorem ml_13_131 : mLV "NinetyPlayersLaw" 131 m175 0 := ⟨yk_175, gw_of (tb_5 (List.mem_of_getElem? (i := 165) rfl)) rfl, gw_of (tb_5 (List.mem_of_getElem? (i := 166) rfl)) rfl, gw_of (tb_5 (List.mem_of_getElem? (i := 167) rfl)) rfl⟩
theorem ml_13_134 : mLV "NinetyPlayersLaw" 134 m312 0 := ⟨yk_312, gw_of (tb_9 (List.mem_of_getElem? (i := 7) rfl)) rfl, gw_of (tb_9 (List.mem_of_getElem? (i := 8) rfl)) rfl, gw_of (tb_9 (List.mem_of_getElem? (i := 9) rfl)) rfl⟩
theorem ml_13_135 : mLV "NinetyPlayersLaw" 135 m176 0 := ⟨yk_176, gw_of (tb_5 (List.mem_of_getElem? (i := 169) rfl)) rfl, gw_of (tb_5 (List.mem_of_getElem? (i := 170) rfl)) rfl, gw_of (tb_5 (List.mem_of_getElem? (i := 171) rfl)) rfl⟩
theorem ml_13_138 : mLV "NinetyPlayersLaw" 138 m314 0 := ⟨yk_314, gw_of (tb_9 (List.mem_of_getElem? (i := 15) rfl)) rfl, gw_of (tb_9 (List.mem_of_getElem? (i := 16) rfl)) rfl, gw_of (tb_9 (List.mem_of_getElem? (i := 17) rfl)) rfl⟩
theorem ml_13_139 : mLV "NinetyPlayersLaw" 139 m177 1 := ⟨yk_177, gw_of (tb_5 (List.mem_of_getElem? (i := 173) rfl)) rfl, gw_of (tb_5 (List.mem_of_getElem? (i := 174) rfl)) rfl, gw_of (tb_5 (List.mem_of_getElem? (i := 175) rfl)) rfl⟩
theorem ml_13_142 : mLV "NinetyPlayersLaw" 142 m315 1 := ⟨yk_315, gw_of (tb_9 (List.mem_of_getElem? (i := 19) rfl)) rfl, gw_of (tb_9 (List.mem_of_getElem? (i := 20) rfl)) rfl, gw_of (tb_9 (List.mem_of_getElem? (i := 21) rfl)) rfl⟩
theorem ml_13_143 : mLV "NinetyPlayersLaw" 143 m178 0 := ⟨yk_178, gw_of (tb_5 (List.mem_of_getElem? (i := 177) rfl)) rfl, gw_of (tb_5 (List.mem_of_getElem? (i := 178) rfl)) rfl, gw_of (tb_5 (List.mem_of_getElem? (i := 179) rfl)) rfl⟩
theorem ml_13_146 : mLV "NinetyPlayersLaw" 146 m316 0 := ⟨yk_316, gw_of (tb_9 (List.mem_of_getElem? (i := 23) rfl)) rfl, gw_of (tb_9 (List.mem_of_getElem? (i := 24) rfl)) rfl, gw_of (tb_9 (List.mem_of_getElem? (i := 25) rfl)) rfl⟩
theorem ml_13_147 : mLV "NinetyPlayersLaw" 147 m180 1 := ⟨yk_180, gw_of (tb_5 (List.mem_of_getElem? (i := 185) rfl)) rfl, gw_of (tb_5 (List.mem_of_getElem? (i := 186) rfl)) rfl, gw_of (tb_5 (List.mem_of_getElem? (i := 187) rfl)) rfl⟩
theorem ml_13_150 : mLV "NinetyPlayersLaw" 150 m307 1 := ⟨yk_307, gw_of (tb_8 (List.mem_of_getElem? (i := 227) rfl)) rfl, gw_of (tb_8 (List.mem_of_getElem? (i := 228) rfl)) rfl, gw_of (tb_8 (List.mem_of_getElem? (i := 229) rfl)) rfl⟩
theorem ml_13_151 : mLV "NinetyPlayersLaw" 151 m181 1 := ⟨yk_181, gw_of (tb_5 (List.mem_of_getElem? (i := 190) rfl)) rfl, gw_of (tb_5 (List.mem_of_getElem? (i := 191) rfl)) rfl, gw_of (tb_5 (List.mem_of_getElem? (i := 192) rfl)) rfl⟩
theorem ml_13_154 : mLV "NinetyPlayersLaw" 154 m317 1 := ⟨yk_317, gw_of (tb_9 (List.mem_of_getElem? (i := 27) rfl)) rfl, gw_of (tb_9 (List.mem_of_getElem? (i := 28) rfl)) rfl, gw_of (tb_9 (List.mem_of_getElem? (i := 29) rfl)) rfl⟩
theorem ml_13_155 : mLV "NinetyPlayersLaw" 155 m182 0 := ⟨yk_182, gw_of (tb_5 (List.mem_of_getElem? (i := 194) rfl)) rfl, gw_of (tb_5 (List.mem_of_getElem? (i := 195) rfl)) rfl, gw_of (tb_5 (List.mem_of_getElem? (i := 196) rfl)) rfl⟩
theorem ml_13_158 : mLV "NinetyPlayersLaw" 158 m318 0 := ⟨yk_318, gw_of (tb_9 (List.mem_of_getElem? (i := 31) rfl)) rfl, gw_of (tb_9 (List.mem_of_getElem? (i := 32) rfl)) rfl, gw_of (tb_9 (List.mem_of_getElem? (i := 33) rfl)) rfl⟩
theorem ml_13_159 : mLV "NinetyPlayersLaw" 159 m183 1 := ⟨yk_183, gw_of (tb_5 (List.mem_of_getElem? (i := 198) rfl)) rfl, gw_of (tb_5 (List.mem_of_getElem? (i := 199) rfl)) rfl, gw_of (tb_5 (List.mem_of_getElem? (i := 200) rfl)) rfl⟩
theorem ml_13_162 : mLV "NinetyPlayersLaw" 162 m298 1 := ⟨yk_298, gw_of (tb_8 (List.mem_of_getElem? (i := 192) rfl)) rfl, gw_of (tb_8 (List.mem_of_getElem? (i := 193) rfl)) rfl, gw_of (tb_8 (List.mem_of_getElem? (i := 194) rfl)) rfl⟩
theorem ml_13_163 : mLV "NinetyPlayersLaw" 163 m184 1 := ⟨yk_184, gw_of (tb_5 (List.mem_of_getElem? (i := 202) rfl)) rfl, gw_of (tb_5 (List.mem_of_getElem? (i := 203) rfl)) rfl, gw_of (tb_5 (List.mem_of_getElem? (i := 204) rfl)) rfl⟩
theorem ml_13_166 : mLV "NinetyPlayersLaw" 166 m319 1 := ⟨yk_319, gw_of (tb_9 (List.mem_of_getElem? (i := 35) rfl)) rfl, gw_of (tb_9 (List.mem_of_getElem? (i := 36) rfl)) rfl, gw_of (tb_9 (List.mem_of_getElem? (i := 37) rfl)) rfl⟩
theorem ml_13_167 : mLV "NinetyPlayersLaw" 167 m185 3 := ⟨yk_185, gw_of (tb_5 (List.mem_of_getElem? (i := 206) rfl)) rfl, gw_of (tb_5 (List.mem_of_getElem? (i := 207) rfl)) rfl, gw_of (tb_5 (List.mem_of_getElem? (i := 208) rfl)) rfl⟩
theorem ml_13_171 : mLV "NinetyPlayersLaw" 171 m320 3 := ⟨yk_320, gw_of (tb_9 (List.mem_of_getElem? (i := 39) rfl)) rfl, gw_of (tb_9 (List.mem_of_getElem? (i := 40) rfl)) rfl, gw_of (tb_9 (List.mem_of_getElem? (i := 41) rfl)) rfl⟩
theorem ml_13_172 : mLV "NinetyPlayersLaw" 172 m187 1 := ⟨yk_187, gw_of (tb_5 (List.mem_of_getElem? (i := 214) rfl)) rfl, gw_of (tb_5 (List.mem_of_getElem? (i := 215) rfl)) rfl, gw_of (tb_5 (List.mem_of_getElem? (i := 216) rfl)) rfl⟩
theorem ml_13_176 : mLV "NinetyPlayersLaw" 176 m321 1 := ⟨yk_321, gw_of (tb_9 (List.mem_of_getElem? (i := 43) rfl)) rfl, gw_of (tb_9 (List.mem_of_getElem? (i := 44) rfl)) rfl, gw_of (tb_9 (List.mem_of_getElem? (i := 45) rfl)) rfl⟩
theorem ml_13_177 : mLV "NinetyPlayersLaw" 177 m189 1 := ⟨yk_189, gw_of (tb_5 (List.mem_of_getElem? (i := 222) rfl)) rfl, gw_of (tb_5 (List.mem_of_getElem? (i := 223) rfl)) rfl, gw_of (tb_5 (List.mem_of_getElem? (i := 224) rfl)) rfl⟩
theorem ml_13_180 : mLV "NinetyPlayersLaw" 180 m322 1 := ⟨yk_322, gw_of (tb_9 (List.mem_of_getElem? (i := 47) rfl)) rfl, gw_of (tb_9 (List.mem_of_getElem? (i := 48) rfl)) rfl, gw_of (tb_9 (List.mem_of_getElem? (i := 49) rfl)) rfl⟩
theorem ml_13_181 : mLV "NinetyPlayersLaw" 181 m191 1 := ⟨yk_191, gw_of (tb_5 (List.mem_of_getElem? (i := 231) rfl)) rfl, gw_of (tb_5 (List.mem_of_getElem? (i := 232) rfl)) rfl, gw_of (tb_5 (List.mem_of_getElem? (i := 233) rfl)) rfl⟩
theorem ml_13_184 : mLV "NinetyPlayersLaw" 184 m323 1 := ⟨yk_323, gw_of (tb_9 (List.mem_of_getElem? (i := 52) rfl)) rfl, gw_of (tb_9 (List.mem_of_getElem? (i := 53) rfl)) rfl, gw_of (tb_9 (List.mem_of_getElem? (i := 54) rfl)) rfl⟩
theorem ml_13_185 : mLV "NinetyPlayersLaw" 185 m197 2 := ⟨yk_197, gw_of (tb_6 (List.mem_of_getElem? (i := 14) rfl)) rfl, gw_of (tb_6 (List.mem_of_getElem? (i := 15) rfl)) rfl, gw_of (tb_6 (List.mem_of_getElem? (i := 16) rfl)) rfl⟩
theorem ml_13_188 : mLV "NinetyPlayersLaw" 188 m327 2 := ⟨yk_327, gw_of (tb_9 (List.mem_of_getElem? (i := 68) rfl)) rfl, gw_of (tb_9 (List.mem_of_getElem? (i := 69) rfl)) rfl, gw_of (tb_9 (List.mem_of_getElem? (i := 70) rfl)) rfl⟩
theorem ml_13_189 : mLV "NinetyPlayersLaw" 189 m198 2 := ⟨yk_198, gw_of (tb_6 (List.mem_of_getElem? (i := 18) rfl)) rfl, gw_of (tb_6 (List.mem_of_getElem? (i := 19) rfl)) rfl, gw_of (tb_6 (List.mem_of_getElem? (i := 20) rfl)) rfl⟩
theorem ml_13_192 : mLV "NinetyPlayersLaw" 192 m328 2 := ⟨yk_328, gw_of (tb_9 (List.mem_of_getElem? (i := 72) rfl)) rfl, gw_of (tb_9 (List.mem_of_getElem? (i := 73) rfl)) rfl, gw_of (tb_9 (List.mem_of_getElem? (i := 74) rfl)) rfl⟩
theorem ml_13_193 : mLV "NinetyPlayersLaw" 193 m199 1 := ⟨yk_199, gw_of (tb_6 (List.mem_of_getElem? (i := 22) rfl)) rfl, gw_of (tb_6 (List.mem_of_getElem? (i := 23) rfl)) rfl, gw_of (tb_6 (List.mem_of_getElem? (i := 24) rfl)) rfl⟩
theorem ml_13_196 : mLV "NinetyPlayersLaw" 196 m329 1 := ⟨yk_329, gw_of (tb_9 (List.mem_of_getElem? (i := 76) rfl)) rfl, gw_of (tb_9 (List.mem_of_getElem? (i := 77) rfl)) rfl, gw_of (tb_9 (List.mem_of_getElem? (i := 78) rfl)) rfl⟩
theorem ml_13_197 : mLV "NinetyPlayersLaw" 197 m201 1 := ⟨yk_201, gw_of (tb_6 (List.mem_of_getElem? (i := 30) rfl)) rfl, gw_of (tb_6 (List.mem_of_getElem? (i := 31) rfl)) rfl, gw_of (tb_6 (List.mem_of_getElem? (i := 32) rfl)) rfl⟩
theorem ml_13_200 : mLV "NinetyPlayersLaw" 200 m332 1 := ⟨yk_332, gw_of (tb_9 (List.mem_of_getElem? (i := 87) rfl)) rfl, gw_of (tb_9 (List.mem_of_getElem? (i := 88) rfl)) rfl, gw_of (tb_9 (List.mem_of_getElem? (i := 89) rfl)) rfl⟩
theorem ml_13_201 : mLV "NinetyPlayersLaw" 201 m203 1 := ⟨yk_203, gw_of (tb_6 (List.mem_of_getElem? (i := 38) rfl)) rfl, gw_of (tb_6 (List.mem_of_getElem? (i := 39) rfl)) rfl, gw_of (tb_6 (List.mem_of_getElem? (i := 40) rfl)) rfl⟩
theorem ml_13_204 : mLV "NinetyPlayersLaw" 204 m333 1 := ⟨yk_333, gw_of (tb_9 (List.mem_of_getElem? (i := 91) rfl)) rfl, gw_of (tb_9 (List.mem_of_getElem? (i := 92) rfl)) rfl, gw_of (tb_9 (List.mem_of_getElem? (i := 93) rfl)) rfl⟩
theorem ml_13_205 : mLV "NinetyPlayersLaw" 205 m205 1 := ⟨yk_205, gw_of (tb_6 (List.mem_of_getElem? (i := 46) rfl)) rfl, gw_of (tb_6 (List.mem_of_getElem? (i := 47) rfl)) rfl, gw_of (tb_6 (List.mem_of_getElem? (i := 48) rfl)) rfl⟩
theorem ml_13_208 : mLV "NinetyPlayersLaw" 208 m334 1 := ⟨yk_334, gw_of (tb_9 (List.mem_of_getElem? (i := 95) rfl)) rfl, gw_of (tb_9 (List.mem_of_getElem? (i := 96) rfl)) rfl, gw_of (tb_9 (List.mem_of_getElem? (i := 97) rfl)) rfl⟩
theorem fl_0_9 : fL "NinetyPlayers" 9 0 0 := ⟨_, _, _, ck_0, by decide, gw_of (tb_2 (List.mem_of_getElem? (i := 194) rfl)) rfl⟩
theorem fl_0_18 : fL "NinetyPlayers" 18 0 2 := ⟨_, _, _, ck_0, by decide, gw_of (tb_2 (List.mem_of_getElem? (i := 196) rfl)) rfl⟩
theorem fl_0_25 : fL "NinetyPlayers" 25 0 3 := ⟨_, _, _, ck_0, by decide, gw_of (tb_2 (List.mem_of_getElem? (i := 197) rfl)) rfl⟩
theorem fl_0_32 : fL "NinetyPlayers" 32 0 4 := ⟨_, _, _, ck_0, by decide, gw_of (tb_2 (List.mem_of_getElem? (i := 198) rfl)) rfl⟩
theorem fl_0_36 : fL "NinetyPlayers" 36 0 5 := ⟨_, _, _, ck_0, by decide, gw_of (tb_2 (List.mem_of_getElem? (i := 199) rfl)) rfl⟩
theorem fl_0_43 : fL "NinetyPlayers" 43 0 6 := ⟨_, _, _, ck_0, by decide, gw_of (tb_2 (List.mem_of_getElem? (i := 200) rfl)) rfl⟩
theorem fl_0_50 : fL "NinetyPlayers" 50 0 7 := ⟨_, _, _, ck_0, by decide, gw_of (tb_2 (List.mem_of_getElem? (i := 201) rfl)) rfl⟩
theorem fl_0_54 : fL "NinetyPlayers" 54 0 8 := ⟨_, _, _, ck_0, by decide, gw_of (tb_2 (List.mem_of_getElem? (i := 202) rfl)) rfl⟩
theorem fl_0_63 : fL "NinetyPlayers" 63 0 9 := ⟨_, _, _, ck_0, by decide, gw_of (tb_2 (List.mem_of_getElem? (i := 203) rfl)) rfl⟩
theorem fl_0_72 : fL "NinetyPlayers" 72 0 10 := ⟨_, _, _, ck_0, by decide, gw_of (tb_2 (List.mem_of_getElem? (i := 204) rfl)) rfl⟩
theorem fl_0_79 : fL "NinetyPlayers" 79 0 11 := ⟨_, _, _, ck_0, by decide, gw_of (tb_2 (List.mem_of_getElem? (i := 205) rfl)) rfl⟩
theorem fl_0_83 : fL "NinetyPlayers" 83 0 12 := ⟨_, _, _, ck_0, by decide, gw_of (tb_2 (List.mem_of_getElem? (i := 206) rfl)) rfl⟩
theorem ml_0_86 : mLV "NinetyPlayers" 86 m15 1 := ⟨yk_15, gw_of (tb_2 (List.mem_of_getElem? (i := 190) rfl)) rfl, gw_of (tb_2 (List.mem_of_getElem? (i := 191) rfl)) rfl, gw_of (tb_2 (List.mem_of_getElem? (i := 192) rfl)) rfl⟩
theorem fl_1_9 : fL "NinetyPlayers$Reader" 9 1 1 := ⟨_, _, _, ck_1, by decide, gw_of (tb_1 (List.mem_of_getElem? (i := 195) rfl)) rfl⟩
theorem fl_1_18 : fL "NinetyPlayers$Reader" 18 1 3 := ⟨_, _, _, ck_1, by decide, gw_of (tb_1 (List.mem_of_getElem? (i := 198) rfl)) rfl⟩
theorem fl_1_27 : fL "NinetyPlayers$Reader" 27 1 2 := ⟨_, _, _, ck_1, by decide, gw_of (tb_1 (List.mem_of_getElem? (i := 197) rfl)) rfl⟩
theorem fl_2_9 : fL "NinetyPlayers$Score" 9 2 7 := ⟨_, _, _, ck_2, by decide, gw_of (tb_1 (List.mem_of_getElem? (i := 107) rfl)) rfl⟩
theorem fl_2_15 : fL "NinetyPlayers$Score" 15 2 8 := ⟨_, _, _, ck_2, by decide, gw_of (tb_1 (List.mem_of_getElem? (i := 108) rfl)) rfl⟩
theorem fl_2_19 : fL "NinetyPlayers$Score" 19 2 9 := ⟨_, _, _, ck_2, by decide, gw_of (tb_1 (List.mem_of_getElem? (i := 110) rfl)) rfl⟩
theorem fl_2_22 : fL "NinetyPlayers$Score" 22 2 10 := ⟨_, _, _, ck_2, by decide, gw_of (tb_1 (List.mem_of_getElem? (i := 111) rfl)) rfl⟩
theorem fl_2_25 : fL "NinetyPlayers$Score" 25 2 11 := ⟨_, _, _, ck_2, by decide, gw_of (tb_1 (List.mem_of_getElem? (i := 113) rfl)) rfl⟩
theorem fl_2_28 : fL "NinetyPlayers$Score" 28 2 12 := ⟨_, _, _, ck_2, by decide, gw_of (tb_1 (List.mem_of_getElem? (i := 117) rfl)) rfl⟩
theorem fl_2_31 : fL "NinetyPlayers$Score" 31 2 13 := ⟨_, _, _, ck_2, by decide, gw_of (tb_1 (List.mem_of_getElem? (i := 120) rfl)) rfl⟩
theorem fl_2_34 : fL "NinetyPlayers$Score" 34 2 14 := ⟨_, _, _, ck_2, by decide, gw_of (tb_1 (List.mem_of_getElem? (i := 123) rfl)) rfl⟩
theorem fl_2_40 : fL "NinetyPlayers$Score" 40 2 15 := ⟨_, _, _, ck_2, by decide, gw_of (tb_1 (List.mem_of_getElem? (i := 125) rfl)) rfl⟩
theorem ml_2_44 : mLV "NinetyPlayers$Score" 44 m6 0 := ⟨yk_6, gw_of (tb_1 (List.mem_of_getElem? (i := 72) rfl)) rfl, gw_of (tb_1 (List.mem_of_getElem? (i := 73) rfl)) rfl, gw_of (tb_1 (List.mem_of_getElem? (i := 74) rfl)) rfl⟩
theorem fl_3_9 : fL "NinetyPlayers$Formula" 9 3 2 := ⟨_, _, _, ck_3, by decide, gw_of (tb_1 (List.mem_of_getElem? (i := 52) rfl)) rfl⟩
theorem fl_3_13 : fL "NinetyPlayers$Formula" 13 3 3 := ⟨_, _, _, ck_3, by decide, gw_of (tb_1 (List.mem_of_getElem? (i := 53) rfl)) rfl⟩
theorem fl_3_18 : fL "NinetyPlayers$Formula" 18 3 4 := ⟨_, _, _, ck_3, by decide, gw_of (tb_1 (List.mem_of_getElem? (i := 54) rfl)) rfl⟩
theorem fl_2_47 : fL "NinetyPlayers$Score" 47 2 0 := ⟨_, _, _, ck_2, by decide, gw_of (tb_1 (List.mem_of_getElem? (i := 81) rfl)) rfl⟩
theorem fl_2_51 : fL "NinetyPlayers$Score" 51 2 1 := ⟨_, _, _, ck_2, by decide, gw_of (tb_1 (List.mem_of_getElem? (i := 84) rfl)) rfl⟩
theorem fl_2_54 : fL "NinetyPlayers$Score" 54 2 2 := ⟨_, _, _, ck_2, by decide, gw_of (tb_1 (List.mem_of_getElem? (i := 88) rfl)) rfl⟩
theorem fl_2_57 : fL "NinetyPlayers$Score" 57 2 3 := ⟨_, _, _, ck_2, by decide, gw_of (tb_1 (List.mem_of_getElem? (i := 92) rfl)) rfl⟩
theorem fl_2_60 : fL "NinetyPlayers$Score" 60 2 4 := ⟨_, _, _, ck_2, by decide, gw_of (tb_1 (List.mem_of_getElem? (i := 96) rfl)) rfl⟩
theorem fl_2_63 : fL "NinetyPlayers$Score" 63 2 5 := ⟨_, _, _, ck_2, by decide, gw_of (tb_1 (List.mem_of_getElem? (i := 99) rfl)) rfl⟩
theorem fl_2_66 : fL "NinetyPlayers$Score" 66 2 6 := ⟨_, _, _, ck_2, by decide, gw_of (tb_1 (List.mem_of_getElem? (i := 103) rfl)) rfl⟩
theorem ml_2_69 : mLV "NinetyPlayers$Score" 69 m7 0 := ⟨yk_7, gw_of (tb_1 (List.mem_of_getElem? (i := 76) rfl)) rfl, gw_of (tb_1 (List.mem_of_getElem? (i := 77) rfl)) rfl, gw_of (tb_1 (List.mem_of_getElem? (i := 78) rfl)) rfl⟩
theorem fl_3_21 : fL "NinetyPlayers$Formula" 21 3 0 := ⟨_, _, _, ck_3, by decide, gw_of (tb_1 (List.mem_of_getElem? (i := 48) rfl)) rfl⟩
theorem fl_3_25 : fL "NinetyPlayers$Formula" 25 3 1 := ⟨_, _, _, ck_3, by decide, gw_of (tb_1 (List.mem_of_getElem? (i := 51) rfl)) rfl⟩
theorem fl_4_9 : fL "NinetyPlayers$Tokens" 9 4 0 := ⟨_, _, _, ck_4, by decide, gw_of (tb_1 (List.mem_of_getElem? (i := 167) rfl)) rfl⟩
theorem fl_5_9 : fL "NinetyPlayers$Laying" 9 5 2 := ⟨_, _, _, ck_5, by decide, gw_of (tb_1 (List.mem_of_getElem? (i := 223) rfl)) rfl⟩
theorem fl_5_15 : fL "NinetyPlayers$Laying" 15 5 3 := ⟨_, _, _, ck_5, by decide, gw_of (tb_1 (List.mem_of_getElem? (i := 225) rfl)) rfl⟩
theorem fl_5_18 : fL "NinetyPlayers$Laying" 18 5 4 := ⟨_, _, _, ck_5, by decide, gw_of (tb_1 (List.mem_of_getElem? (i := 228) rfl)) rfl⟩
theorem fl_5_21 : fL "NinetyPlayers$Laying" 21 5 5 := ⟨_, _, _, ck_5, by decide, gw_of (tb_1 (List.mem_of_getElem? (i := 231) rfl)) rfl⟩
theorem fl_6_9 : fL "NinetyPlayers$Acts" 9 6 2 := ⟨_, _, _, ck_6, by decide, gw_of (tb_2 (List.mem_of_getElem? (i := 17) rfl)) rfl⟩
theorem fl_6_15 : fL "NinetyPlayers$Acts" 15 6 3 := ⟨_, _, _, ck_6, by decide, gw_of (tb_2 (List.mem_of_getElem? (i := 18) rfl)) rfl⟩
theorem fl_6_18 : fL "NinetyPlayers$Acts" 18 6 4 := ⟨_, _, _, ck_6, by decide, gw_of (tb_2 (List.mem_of_getElem? (i := 19) rfl)) rfl⟩
theorem fl_6_21 : fL "NinetyPlayers$Acts" 21 6 5 := ⟨_, _, _, ck_6, by decide, gw_of (tb_2 (List.mem_of_getElem? (i := 20) rfl)) rfl⟩
theorem fl_7_9 : fL "NinetyPlayers$Keyboard" 9 7 8 := ⟨_, _, _, ck_7, by decide, gw_of (tb_2 (List.mem_of_getElem? (i := 62) rfl)) rfl⟩
theorem fl_7_15 : fL "NinetyPlayers$Keyboard" 15 7 9 := ⟨_, _, _, ck_7, by decide, gw_of (tb_2 (List.mem_of_getElem? (i := 64) rfl)) rfl⟩
theorem fl_7_18 : fL "NinetyPlayers$Keyboard" 18 7 10 := ⟨_, _, _, ck_7, by decide, gw_of (tb_2 (List.mem_of_getElem? (i := 65) rfl)) rfl⟩
theorem fl_7_21 : fL "NinetyPlayers$Keyboard" 21 7 11 := ⟨_, _, _, ck_7, by decide, gw_of (tb_2 (List.mem_of_getElem? (i := 66) rfl)) rfl⟩
theorem fl_8_9 : fL "NinetyPlayers$Arranger" 9 8 5 := ⟨_, _, _, ck_8, by decide, gw_of (tb_2 (List.mem_of_getElem? (i := 106) rfl)) rfl⟩
theorem fl_8_15 : fL "NinetyPlayers$Arranger" 15 8 6 := ⟨_, _, _, ck_8, by decide, gw_of (tb_2 (List.mem_of_getElem? (i := 107) rfl)) rfl⟩
theorem fl_8_18 : fL "NinetyPlayers$Arranger" 18 8 7 := ⟨_, _, _, ck_8, by decide, gw_of (tb_2 (List.mem_of_getElem? (i := 108) rfl)) rfl⟩
theorem fl_8_21 : fL "NinetyPlayers$Arranger" 21 8 8 := ⟨_, _, _, ck_8, by decide, gw_of (tb_2 (List.mem_of_getElem? (i := 109) rfl)) rfl⟩
theorem fl_8_24 : fL "NinetyPlayers$Arranger" 24 8 0 := ⟨_, _, _, ck_8, by decide, gw_of (tb_2 (List.mem_of_getElem? (i := 98) rfl)) rfl⟩
theorem fl_8_28 : fL "NinetyPlayers$Arranger" 28 8 1 := ⟨_, _, _, ck_8, by decide, gw_of (tb_2 (List.mem_of_getElem? (i := 99) rfl)) rfl⟩
theorem fl_9_9 : fL "NinetyPlayers$Pedaller" 9 9 1 := ⟨_, _, _, ck_9, by decide, gw_of (tb_2 (List.mem_of_getElem? (i := 136) rfl)) rfl⟩
theorem fl_9_15 : fL "NinetyPlayers$Pedaller" 15 9 0 := ⟨_, _, _, ck_9, by decide, gw_of (tb_2 (List.mem_of_getElem? (i := 135) rfl)) rfl⟩
theorem fl_10_9 : fL "NinetyPlayers$Witness" 9 10 3 := ⟨_, _, _, ck_10, by decide, gw_of (tb_2 (List.mem_of_getElem? (i := 154) rfl)) rfl⟩
theorem fl_10_15 : fL "NinetyPlayers$Witness" 15 10 4 := ⟨_, _, _, ck_10, by decide, gw_of (tb_2 (List.mem_of_getElem? (i := 156) rfl)) rfl⟩
theorem fl_10_18 : fL "NinetyPlayers$Witness" 18 10 5 := ⟨_, _, _, ck_10, by decide, gw_of (tb_2 (List.mem_of_getElem? (i := 157) rfl)) rfl⟩
theorem fl_10_21 : fL "NinetyPlayers$Witness" 21 10 6 := ⟨_, _, _, ck_10, by decide, gw_of (tb_2 (List.mem_of_getElem? (i := 158) rfl)) rfl⟩
theorem fl_10_25 : fL "NinetyPlayers$Witness" 25 10 7 := ⟨_, _, _, ck_10, by decide, gw_of (tb_2 (List.mem_of_getElem? (i := 159) rfl)) rfl⟩
theorem fl_10_28 : fL "NinetyPlayers$Witness" 28 10 8 := ⟨_, _, _, ck_10, by decide, gw_of (tb_2 (List.mem_of_getElem? (i := 160) rfl)) rfl⟩
theorem fl_10_31 : fL "NinetyPlayers$Witness" 31 10 9 := ⟨_, _, _, ck_10, by decide, gw_of (tb_2 (List.mem_of_getElem? (i := 161) rfl)) rfl⟩
theorem fl_5_24 : fL "NinetyPlayers$Laying" 24 5 1 := ⟨_, _, _, ck_5, by decide, gw_of (tb_1 (List.mem_of_getElem? (i := 220) rfl)) rfl⟩
theorem fl_5_28 : fL "NinetyPlayers$Laying" 28 2 12 := ⟨_, _, _, ck_2, by decide, gw_of (tb_1 (List.mem_of_getElem? (i := 118) rfl)) rfl⟩
theorem fl_5_31 : fL "NinetyPlayers$Laying" 31 2 13 := ⟨_, _, _, ck_2, by decide, gw_of (tb_1 (List.mem_of_getElem? (i := 121) rfl)) rfl⟩
theorem fl_5_32 : fL "NinetyPlayers$Laying" 32 2 14 := ⟨_, _, _, ck_2, by decide, gw_of (tb_1 (List.mem_of_getElem? (i := 124) rfl)) rfl⟩
theorem fl_0_90 : fL "NinetyPlayers" 90 0 1 := ⟨_, _, _, ck_0, by decide, gw_of (tb_2 (List.mem_of_getElem? (i := 195) rfl)) rfl⟩
theorem ml_0_94 : mLV "NinetyPlayers" 94 m17 1 := ⟨yk_17, gw_of (tb_3 (List.mem_of_getElem? (i := 1) rfl)) rfl, gw_of (tb_3 (List.mem_of_getElem? (i := 3) rfl)) rfl, gw_sel (List.mem_of_getElem? (i := 0) rfl) rfl⟩
theorem ml_0_98 : mLV "NinetyPlayers" 98 m20 1 := ⟨yk_20, gw_of (tb_3 (List.mem_of_getElem? (i := 13) rfl)) rfl, gw_of (tb_3 (List.mem_of_getElem? (i := 14) rfl)) rfl, gw_of (tb_3 (List.mem_of_getElem? (i := 15) rfl)) rfl⟩
theorem ml_0_102 : mLV "NinetyPlayers" 102 m82 1 := ⟨yk_82, gw_of (tb_4 (List.mem_of_getElem? (i := 17) rfl)) rfl, gw_of (tb_4 (List.mem_of_getElem? (i := 18) rfl)) rfl, gw_of (tb_4 (List.mem_of_getElem? (i := 19) rfl)) rfl⟩
theorem ml_0_106 : mLV "NinetyPlayers" 106 m83 0 := ⟨yk_83, gw_of (tb_4 (List.mem_of_getElem? (i := 21) rfl)) rfl, gw_of (tb_4 (List.mem_of_getElem? (i := 22) rfl)) rfl, gw_of (tb_4 (List.mem_of_getElem? (i := 23) rfl)) rfl⟩
theorem ml_0_109 : mLV "NinetyPlayers" 109 m84 0 := ⟨yk_84, gw_of (tb_4 (List.mem_of_getElem? (i := 25) rfl)) rfl, gw_of (tb_4 (List.mem_of_getElem? (i := 26) rfl)) rfl, gw_of (tb_4 (List.mem_of_getElem? (i := 27) rfl)) rfl⟩
theorem fl_0_110 : fL "NinetyPlayers" 110 0 13 := ⟨_, _, _, ck_0, by decide, gw_of (tb_2 (List.mem_of_getElem? (i := 207) rfl)) rfl⟩
theorem fl_0_113 : fL "NinetyPlayers" 113 5 0 := ⟨_, _, _, ck_5, by decide, gw_of (tb_1 (List.mem_of_getElem? (i := 219) rfl)) rfl⟩
theorem fl_0_117 : fL "NinetyPlayers" 117 2 6 := ⟨_, _, _, ck_2, by decide, gw_of (tb_1 (List.mem_of_getElem? (i := 105) rfl)) rfl⟩
theorem fl_1_31 : fL "NinetyPlayers$Reader" 31 1 0 := ⟨_, _, _, ck_1, by decide, gw_of (tb_1 (List.mem_of_getElem? (i := 193) rfl)) rfl⟩
theorem fl_1_34 : fL "NinetyPlayers$Reader" 34 1 4 := ⟨_, _, _, ck_1, by decide, gw_of (tb_1 (List.mem_of_getElem? (i := 199) rfl)) rfl⟩
theorem ml_1_37 : mLV "NinetyPlayers$Reader" 37 m6 0 := ⟨yk_6, gw_of (tb_3 (List.mem_of_getElem? (i := 17) rfl)) rfl, gw_of (tb_1 (List.mem_of_getElem? (i := 73) rfl)) rfl, gw_of (tb_1 (List.mem_of_getElem? (i := 74) rfl)) rfl⟩
theorem ml_1_40 : mLV "NinetyPlayers$Reader" 40 m21 1 := ⟨yk_21, gw_of (tb_3 (List.mem_of_getElem? (i := 18) rfl)) rfl, gw_of (tb_3 (List.mem_of_getElem? (i := 19) rfl)) rfl, gw_of (tb_3 (List.mem_of_getElem? (i := 20) rfl)) rfl⟩
theorem fl_1_44 : fL "NinetyPlayers$Reader" 44 4 4 := ⟨_, _, _, ck_4, by decide, gw_of (tb_1 (List.mem_of_getElem? (i := 172) rfl)) rfl⟩
theorem ml_1_47 : mLV "NinetyPlayers$Reader" 47 m59 0 := ⟨yk_59, gw_of (tb_3 (List.mem_of_getElem? (i := 164) rfl)) rfl, gw_of (tb_3 (List.mem_of_getElem? (i := 166) rfl)) rfl, gw_sel (List.mem_of_getElem? (i := 4) rfl) rfl⟩
theorem ml_4_15 : mMmin "NinetyPlayers$Tokens" 15 := ⟨gw_of (tb_3 (List.mem_of_getElem? (i := 22) rfl)) rfl, gw_of (tb_3 (List.mem_of_getElem? (i := 23) rfl)) rfl, gw_of (tb_1 (List.mem_of_getElem? (i := 13) rfl)) rfl, gw_of (tb_3 (List.mem_of_getElem? (i := 24) rfl)) rfl⟩
theorem ml_4_21 : mMmax "NinetyPlayers$Tokens" 21 := ⟨gw_of (tb_3 (List.mem_of_getElem? (i := 25) rfl)) rfl, gw_of (tb_3 (List.mem_of_getElem? (i := 26) rfl)) rfl, gw_of (tb_1 (List.mem_of_getElem? (i := 13) rfl)) rfl, gw_of (tb_3 (List.mem_of_getElem? (i := 27) rfl)) rfl⟩
theorem fl_4_24 : fL "NinetyPlayers$Tokens" 24 4 1 := ⟨_, _, _, ck_4, by decide, gw_of (tb_1 (List.mem_of_getElem? (i := 168) rfl)) rfl⟩
theorem fl_4_28 : fL "NinetyPlayers$Tokens" 28 4 2 := ⟨_, _, _, ck_4, by decide, gw_of (tb_1 (List.mem_of_getElem? (i := 169) rfl)) rfl⟩
theorem ml_4_31 : mLV "NinetyPlayers$Tokens" 31 m24 0 := ⟨yk_24, gw_of (tb_3 (List.mem_of_getElem? (i := 28) rfl)) rfl, gw_of (tb_3 (List.mem_of_getElem? (i := 29) rfl)) rfl, gw_of (tb_3 (List.mem_of_getElem? (i := 30) rfl)) rfl⟩
theorem ml_4_34 : mLV "NinetyPlayers$Tokens" 34 m25 1 := ⟨yk_25, gw_of (tb_3 (List.mem_of_getElem? (i := 32) rfl)) rfl, gw_of (tb_3 (List.mem_of_getElem? (i := 34) rfl)) rfl, gw_sel (List.mem_of_getElem? (i := 1) rfl) rfl⟩
theorem ml_4_38 : mLS "NinetyPlayers$Tokens" 38 m26 1 := ⟨yk_26, gw_of (tb_3 (List.mem_of_getElem? (i := 36) rfl)) rfl, gw_of (tb_3 (List.mem_of_getElem? (i := 37) rfl)) rfl⟩
theorem fl_4_42 : fL "NinetyPlayers$Tokens" 42 4 3 := ⟨_, _, _, ck_4, by decide, gw_of (tb_1 (List.mem_of_getElem? (i := 170) rfl)) rfl⟩
theorem fl_4_45 : fL "NinetyPlayers$Tokens" 45 4 4 := ⟨_, _, _, ck_4, by decide, gw_of (tb_1 (List.mem_of_getElem? (i := 173) rfl)) rfl⟩
theorem ml_4_48 : mLS "NinetyPlayers$Tokens" 48 m27 1 := ⟨yk_27, gw_of (tb_3 (List.mem_of_getElem? (i := 39) rfl)) rfl, gw_of (tb_3 (List.mem_of_getElem? (i := 40) rfl)) rfl⟩
theorem ml_4_51 : mLV "NinetyPlayers$Tokens" 51 m28 0 := ⟨yk_28, gw_of (tb_3 (List.mem_of_getElem? (i := 42) rfl)) rfl, gw_of (tb_3 (List.mem_of_getElem? (i := 44) rfl)) rfl, gw_sel (List.mem_of_getElem? (i := 2) rfl) rfl⟩
theorem ml_4_54 : mLS "NinetyPlayers$Tokens" 54 m42 1 := ⟨yk_42, gw_of (tb_3 (List.mem_of_getElem? (i := 101) rfl)) rfl, gw_of (tb_3 (List.mem_of_getElem? (i := 102) rfl)) rfl⟩
theorem ml_4_57 : mLV "NinetyPlayers$Tokens" 57 m43 0 := ⟨yk_43, gw_of (tb_3 (List.mem_of_getElem? (i := 104) rfl)) rfl, gw_of (tb_3 (List.mem_of_getElem? (i := 106) rfl)) rfl, gw_sel (List.mem_of_getElem? (i := 3) rfl) rfl⟩
theorem ml_4_62 : mLV "NinetyPlayers$Tokens" 62 m44 1 := ⟨yk_44, gw_of (tb_3 (List.mem_of_getElem? (i := 109) rfl)) rfl, gw_of (tb_3 (List.mem_of_getElem? (i := 110) rfl)) rfl, gw_of (tb_3 (List.mem_of_getElem? (i := 111) rfl)) rfl⟩
theorem fl_4_67 : fL "NinetyPlayers$Tokens" 67 4 5 := ⟨_, _, _, ck_4, by decide, gw_of (tb_1 (List.mem_of_getElem? (i := 174) rfl)) rfl⟩
theorem fl_4_70 : fL "NinetyPlayers$Tokens" 70 4 6 := ⟨_, _, _, ck_4, by decide, gw_of (tb_1 (List.mem_of_getElem? (i := 176) rfl)) rfl⟩
theorem ml_4_74 : mLS "NinetyPlayers$Tokens" 74 m29 3 := ⟨yk_29, gw_of (tb_3 (List.mem_of_getElem? (i := 46) rfl)) rfl, gw_of (tb_3 (List.mem_of_getElem? (i := 47) rfl)) rfl⟩
theorem ml_12_11 : mLS "NinetyPlayers$Word" 11 m30 4 := ⟨yk_30, gw_of (tb_3 (List.mem_of_getElem? (i := 49) rfl)) rfl, gw_of (tb_3 (List.mem_of_getElem? (i := 50) rfl)) rfl⟩
theorem ml_12_17 : mLV "NinetyPlayers$Word" 17 m31 0 := ⟨yk_31, gw_of (tb_3 (List.mem_of_getElem? (i := 53) rfl)) rfl, gw_of (tb_3 (List.mem_of_getElem? (i := 54) rfl)) rfl, gw_of (tb_3 (List.mem_of_getElem? (i := 55) rfl)) rfl⟩
theorem ml_12_23 : mLV "NinetyPlayers$Word" 23 m33 1 := ⟨yk_33, gw_of (tb_3 (List.mem_of_getElem? (i := 63) rfl)) rfl, gw_of (tb_3 (List.mem_of_getElem? (i := 64) rfl)) rfl, gw_of (tb_3 (List.mem_of_getElem? (i := 65) rfl)) rfl⟩
theorem ml_16_335 : mLV "java/lang/String" 335 m32 0 := ⟨yk_32, gw_of (tb_3 (List.mem_of_getElem? (i := 57) rfl)) rfl, gw_of (tb_3 (List.mem_of_getElem? (i := 58) rfl)) rfl, gw_of (tb_3 (List.mem_of_getElem? (i := 59) rfl)) rfl⟩
theorem ml_16_492 : mLV "java/lang/String" 492 m34 0 := ⟨yk_34, gw_of (tb_3 (List.mem_of_getElem? (i := 67) rfl)) rfl, gw_of (tb_3 (List.mem_of_getElem? (i := 68) rfl)) rfl, gw_of (tb_3 (List.mem_of_getElem? (i := 69) rfl)) rfl⟩
theorem ml_16_495 : mLS "java/lang/String" 495 m35 2 := ⟨yk_35, gw_of (tb_3 (List.mem_of_getElem? (i := 71) rfl)) rfl, gw_of (tb_3 (List.mem_of_getElem? (i := 72) rfl)) rfl⟩
theorem ml_17_9 : mLS "java/lang/StringLatin1" 9 m36 2 := ⟨yk_36, gw_of (tb_3 (List.mem_of_getElem? (i := 74) rfl)) rfl, gw_of (tb_3 (List.mem_of_getElem? (i := 75) rfl)) rfl⟩
theorem ml_16_1059 : mLS "java/lang/String" 1059 m37 3 := ⟨yk_37, gw_of (tb_3 (List.mem_of_getElem? (i := 79) rfl)) rfl, gw_of (tb_3 (List.mem_of_getElem? (i := 80) rfl)) rfl⟩
theorem ml_16_633 : mLV "java/lang/String" 633 m45 2 := ⟨yk_45, gw_of (tb_3 (List.mem_of_getElem? (i := 113) rfl)) rfl, gw_of (tb_3 (List.mem_of_getElem? (i := 114) rfl)) rfl, gw_of (tb_3 (List.mem_of_getElem? (i := 115) rfl)) rfl⟩
theorem ml_16_505 : mLV "java/lang/String" 505 m31 0 := ⟨yk_31, gw_of (tb_3 (List.mem_of_getElem? (i := 117) rfl)) rfl, gw_of (tb_3 (List.mem_of_getElem? (i := 54) rfl)) rfl, gw_of (tb_3 (List.mem_of_getElem? (i := 55) rfl)) rfl⟩
theorem ml_16_637 : mLS "java/lang/String" 637 m46 4 := ⟨yk_46, gw_of (tb_3 (List.mem_of_getElem? (i := 118) rfl)) rfl, gw_of (tb_3 (List.mem_of_getElem? (i := 119) rfl)) rfl⟩
theorem ml_17_88 : mLS "java/lang/StringLatin1" 88 m47 1 := ⟨yk_47, gw_of (tb_3 (List.mem_of_getElem? (i := 121) rfl)) rfl, gw_of (tb_3 (List.mem_of_getElem? (i := 122) rfl)) rfl⟩
theorem ml_17_92 : mMmax "java/lang/StringLatin1" 92 := ⟨gw_of (tb_3 (List.mem_of_getElem? (i := 124) rfl)) rfl, gw_of (tb_3 (List.mem_of_getElem? (i := 26) rfl)) rfl, gw_of (tb_1 (List.mem_of_getElem? (i := 13) rfl)) rfl, gw_of (tb_3 (List.mem_of_getElem? (i := 27) rfl)) rfl⟩
theorem ml_17_38 : mMmin "java/lang/StringLatin1" 38 := ⟨gw_of (tb_3 (List.mem_of_getElem? (i := 125) rfl)) rfl, gw_of (tb_3 (List.mem_of_getElem? (i := 23) rfl)) rfl, gw_of (tb_1 (List.mem_of_getElem? (i := 13) rfl)) rfl, gw_of (tb_3 (List.mem_of_getElem? (i := 24) rfl)) rfl⟩
theorem ml_17_95 : mLS "java/lang/StringLatin1" 95 m48 4 := ⟨yk_48, gw_of (tb_3 (List.mem_of_getElem? (i := 126) rfl)) rfl, gw_of (tb_3 (List.mem_of_getElem? (i := 127) rfl)) rfl⟩
theorem fl_1_50 : fL "NinetyPlayers$Reader" 50 4 5 := ⟨_, _, _, ck_4, by decide, gw_of (tb_1 (List.mem_of_getElem? (i := 175) rfl)) rfl⟩
theorem ml_1_53 : mLV "NinetyPlayers$Reader" 53 m60 1 := ⟨yk_60, gw_of (tb_3 (List.mem_of_getElem? (i := 168) rfl)) rfl, gw_of (tb_3 (List.mem_of_getElem? (i := 170) rfl)) rfl, gw_sel (List.mem_of_getElem? (i := 5) rfl) rfl⟩
theorem ml_1_57 : mLV "NinetyPlayers$Reader" 57 m61 1 := ⟨yk_61, gw_of (tb_3 (List.mem_of_getElem? (i := 172) rfl)) rfl, gw_of (tb_3 (List.mem_of_getElem? (i := 174) rfl)) rfl, gw_sel (List.mem_of_getElem? (i := 6) rfl) rfl⟩
theorem ml_1_60 : mLV "NinetyPlayers$Reader" 60 m24 0 := ⟨yk_24, gw_of (tb_3 (List.mem_of_getElem? (i := 176) rfl)) rfl, gw_of (tb_3 (List.mem_of_getElem? (i := 29) rfl)) rfl, gw_of (tb_3 (List.mem_of_getElem? (i := 30) rfl)) rfl⟩
theorem ml_1_63 : mLV "NinetyPlayers$Reader" 63 m62 2 := ⟨yk_62, gw_of (tb_3 (List.mem_of_getElem? (i := 177) rfl)) rfl, gw_of (tb_3 (List.mem_of_getElem? (i := 179) rfl)) rfl, gw_sel (List.mem_of_getElem? (i := 7) rfl) rfl⟩
theorem fl_1_67 : fL "NinetyPlayers$Reader" 67 2 0 := ⟨_, _, _, ck_2, by decide, gw_of (tb_1 (List.mem_of_getElem? (i := 82) rfl)) rfl⟩
theorem ml_1_70 : mLV "NinetyPlayers$Reader" 70 m63 0 := ⟨yk_63, gw_of (tb_3 (List.mem_of_getElem? (i := 181) rfl)) rfl, gw_of (tb_3 (List.mem_of_getElem? (i := 183) rfl)) rfl, gw_sel (List.mem_of_getElem? (i := 8) rfl) rfl⟩
theorem ml_1_73 : mLV "NinetyPlayers$Reader" 73 m68 0 := ⟨yk_68, gw_of (tb_3 (List.mem_of_getElem? (i := 201) rfl)) rfl, gw_of (tb_3 (List.mem_of_getElem? (i := 203) rfl)) rfl, gw_sel (List.mem_of_getElem? (i := 11) rfl) rfl⟩
theorem ml_1_76 : mLV "NinetyPlayers$Reader" 76 m73 1 := ⟨yk_73, gw_of (tb_3 (List.mem_of_getElem? (i := 221) rfl)) rfl, gw_of (tb_3 (List.mem_of_getElem? (i := 223) rfl)) rfl, gw_sel (List.mem_of_getElem? (i := 14) rfl) rfl⟩
theorem fl_1_79 : fL "NinetyPlayers$Reader" 79 2 1 := ⟨_, _, _, ck_2, by decide, gw_of (tb_1 (List.mem_of_getElem? (i := 86) rfl)) rfl⟩
theorem fl_1_82 : fL "NinetyPlayers$Reader" 82 2 2 := ⟨_, _, _, ck_2, by decide, gw_of (tb_1 (List.mem_of_getElem? (i := 90) rfl)) rfl⟩
theorem fl_1_85 : fL "NinetyPlayers$Reader" 85 2 3 := ⟨_, _, _, ck_2, by decide, gw_of (tb_1 (List.mem_of_getElem? (i := 94) rfl)) rfl⟩
theorem fl_1_88 : fL "NinetyPlayers$Reader" 88 2 4 := ⟨_, _, _, ck_2, by decide, gw_of (tb_1 (List.mem_of_getElem? (i := 97) rfl)) rfl⟩
theorem ml_1_91 : mLV "NinetyPlayers$Reader" 91 m81 1 := ⟨yk_81, gw_of (tb_4 (List.mem_of_getElem? (i := 13) rfl)) rfl, gw_of (tb_4 (List.mem_of_getElem? (i := 15) rfl)) rfl, gw_sel (List.mem_of_getElem? (i := 21) rfl) rfl⟩
theorem fl_1_95 : fL "NinetyPlayers$Reader" 95 2 5 := ⟨_, _, _, ck_2, by decide, gw_of (tb_1 (List.mem_of_getElem? (i := 100) rfl)) rfl⟩
theorem fl_1_98 : fL "NinetyPlayers$Reader" 98 2 6 := ⟨_, _, _, ck_2, by decide, gw_of (tb_1 (List.mem_of_getElem? (i := 104) rfl)) rfl⟩
theorem fl_1_141 : fL "NinetyPlayers$Reader" 141 4 3 := ⟨_, _, _, ck_4, by decide, gw_of (tb_1 (List.mem_of_getElem? (i := 171) rfl)) rfl⟩
theorem fl_1_103 : fL "NinetyPlayers$Reader" 103 4 6 := ⟨_, _, _, ck_4, by decide, gw_of (tb_1 (List.mem_of_getElem? (i := 177) rfl)) rfl⟩
theorem ml_1_107 : mLV "NinetyPlayers$Reader" 107 m64 1 := ⟨yk_64, gw_of (tb_3 (List.mem_of_getElem? (i := 185) rfl)) rfl, gw_of (tb_3 (List.mem_of_getElem? (i := 186) rfl)) rfl, gw_of (tb_3 (List.mem_of_getElem? (i := 187) rfl)) rfl⟩
theorem ml_1_111 : mLV "NinetyPlayers$Reader" 111 m65 1 := ⟨yk_65, gw_of (tb_3 (List.mem_of_getElem? (i := 189) rfl)) rfl, gw_of (tb_3 (List.mem_of_getElem? (i := 191) rfl)) rfl, gw_sel (List.mem_of_getElem? (i := 9) rfl) rfl⟩
theorem ml_1_115 : mLV "NinetyPlayers$Reader" 115 m66 1 := ⟨yk_66, gw_of (tb_3 (List.mem_of_getElem? (i := 193) rfl)) rfl, gw_of (tb_3 (List.mem_of_getElem? (i := 195) rfl)) rfl, gw_sel (List.mem_of_getElem? (i := 10) rfl) rfl⟩
theorem ml_1_118 : mLV "NinetyPlayers$Reader" 118 m67 2 := ⟨yk_67, gw_of (tb_3 (List.mem_of_getElem? (i := 197) rfl)) rfl, gw_of (tb_3 (List.mem_of_getElem? (i := 198) rfl)) rfl, gw_of (tb_3 (List.mem_of_getElem? (i := 199) rfl)) rfl⟩
theorem ml_1_122 : mLV "NinetyPlayers$Reader" 122 m69 1 := ⟨yk_69, gw_of (tb_3 (List.mem_of_getElem? (i := 205) rfl)) rfl, gw_of (tb_3 (List.mem_of_getElem? (i := 206) rfl)) rfl, gw_of (tb_3 (List.mem_of_getElem? (i := 207) rfl)) rfl⟩
theorem ml_1_126 : mLV "NinetyPlayers$Reader" 126 m70 1 := ⟨yk_70, gw_of (tb_3 (List.mem_of_getElem? (i := 209) rfl)) rfl, gw_of (tb_3 (List.mem_of_getElem? (i := 211) rfl)) rfl, gw_sel (List.mem_of_getElem? (i := 12) rfl) rfl⟩
theorem ml_1_129 : mLV "NinetyPlayers$Reader" 129 m71 0 := ⟨yk_71, gw_of (tb_3 (List.mem_of_getElem? (i := 213) rfl)) rfl, gw_of (tb_3 (List.mem_of_getElem? (i := 215) rfl)) rfl, gw_sel (List.mem_of_getElem? (i := 13) rfl) rfl⟩
theorem ml_1_133 : mLV "NinetyPlayers$Reader" 133 m72 6 := ⟨yk_72, gw_of (tb_3 (List.mem_of_getElem? (i := 217) rfl)) rfl, gw_of (tb_3 (List.mem_of_getElem? (i := 218) rfl)) rfl, gw_of (tb_3 (List.mem_of_getElem? (i := 219) rfl)) rfl⟩
theorem ml_1_142 : mLV "NinetyPlayers$Reader" 142 m74 1 := ⟨yk_74, gw_of (tb_3 (List.mem_of_getElem? (i := 225) rfl)) rfl, gw_of (tb_3 (List.mem_of_getElem? (i := 227) rfl)) rfl, gw_sel (List.mem_of_getElem? (i := 15) rfl) rfl⟩
theorem fl_1_145 : fL "NinetyPlayers$Reader" 145 2 15 := ⟨_, _, _, ck_2, by decide, gw_of (tb_1 (List.mem_of_getElem? (i := 126) rfl)) rfl⟩
theorem ml_1_149 : mLV "NinetyPlayers$Reader" 149 m76 1 := ⟨yk_76, gw_of (tb_3 (List.mem_of_getElem? (i := 233) rfl)) rfl, gw_of (tb_3 (List.mem_of_getElem? (i := 234) rfl)) rfl, gw_of (tb_3 (List.mem_of_getElem? (i := 235) rfl)) rfl⟩
theorem ml_1_154 : mLV "NinetyPlayers$Reader" 154 m75 1 := ⟨yk_75, gw_of (tb_3 (List.mem_of_getElem? (i := 229) rfl)) rfl, gw_of (tb_3 (List.mem_of_getElem? (i := 231) rfl)) rfl, gw_sel (List.mem_of_getElem? (i := 16) rfl) rfl⟩
theorem ml_1_157 : mLV "NinetyPlayers$Reader" 157 m77 1 := ⟨yk_77, gw_of (tb_3 (List.mem_of_getElem? (i := 237) rfl)) rfl, gw_of (tb_3 (List.mem_of_getElem? (i := 239) rfl)) rfl, gw_sel (List.mem_of_getElem? (i := 17) rfl) rfl⟩
theorem ml_1_137 : mLV "NinetyPlayers$Reader" 137 m80 1 := ⟨yk_80, gw_of (tb_4 (List.mem_of_getElem? (i := 9) rfl)) rfl, gw_of (tb_4 (List.mem_of_getElem? (i := 11) rfl)) rfl, gw_sel (List.mem_of_getElem? (i := 20) rfl) rfl⟩
theorem ml_1_160 : mLV "NinetyPlayers$Reader" 160 m78 1 := ⟨yk_78, gw_of (tb_4 (List.mem_of_getElem? (i := 1) rfl)) rfl, gw_of (tb_4 (List.mem_of_getElem? (i := 3) rfl)) rfl, gw_sel (List.mem_of_getElem? (i := 18) rfl) rfl⟩
theorem ml_1_163 : mLV "NinetyPlayers$Reader" 163 m79 1 := ⟨yk_79, gw_of (tb_4 (List.mem_of_getElem? (i := 5) rfl)) rfl, gw_of (tb_4 (List.mem_of_getElem? (i := 7) rfl)) rfl, gw_sel (List.mem_of_getElem? (i := 19) rfl) rfl⟩
theorem fl_1_166 : fL "NinetyPlayers$Reader" 166 3 0 := ⟨_, _, _, ck_3, by decide, gw_of (tb_1 (List.mem_of_getElem? (i := 49) rfl)) rfl⟩
theorem fl_6_24 : fL "NinetyPlayers$Acts" 24 6 0 := ⟨_, _, _, ck_6, by decide, gw_of (tb_2 (List.mem_of_getElem? (i := 13) rfl)) rfl⟩
theorem fl_6_28 : fL "NinetyPlayers$Acts" 28 6 1 := ⟨_, _, _, ck_6, by decide, gw_of (tb_2 (List.mem_of_getElem? (i := 15) rfl)) rfl⟩
theorem fl_10_34 : fL "NinetyPlayers$Witness" 34 10 0 := ⟨_, _, _, ck_10, by decide, gw_of (tb_2 (List.mem_of_getElem? (i := 148) rfl)) rfl⟩
theorem fl_0_120 : fL "NinetyPlayers" 120 1 0 := ⟨_, _, _, ck_1, by decide, gw_of (tb_1 (List.mem_of_getElem? (i := 194) rfl)) rfl⟩
theorem fl_0_123 : fL "NinetyPlayers" 123 1 1 := ⟨_, _, _, ck_1, by decide, gw_of (tb_1 (List.mem_of_getElem? (i := 196) rfl)) rfl⟩
theorem ml_0_126 : mLV "NinetyPlayers" 126 m87 1 := ⟨yk_87, gw_of (tb_4 (List.mem_of_getElem? (i := 37) rfl)) rfl, gw_of (tb_4 (List.mem_of_getElem? (i := 39) rfl)) rfl, gw_sel (List.mem_of_getElem? (i := 22) rfl) rfl⟩
theorem fl_0_129 : fL "NinetyPlayers" 129 2 10 := ⟨_, _, _, ck_2, by decide, gw_of (tb_1 (List.mem_of_getElem? (i := 112) rfl)) rfl⟩
theorem fl_0_132 : fL "NinetyPlayers" 132 2 11 := ⟨_, _, _, ck_2, by decide, gw_of (tb_1 (List.mem_of_getElem? (i := 115) rfl)) rfl⟩
theorem fl_0_135 : fL "NinetyPlayers" 135 5 3 := ⟨_, _, _, ck_5, by decide, gw_of (tb_1 (List.mem_of_getElem? (i := 227) rfl)) rfl⟩
theorem fl_0_138 : fL "NinetyPlayers" 138 5 4 := ⟨_, _, _, ck_5, by decide, gw_of (tb_1 (List.mem_of_getElem? (i := 230) rfl)) rfl⟩
theorem fl_0_141 : fL "NinetyPlayers" 141 5 5 := ⟨_, _, _, ck_5, by decide, gw_of (tb_1 (List.mem_of_getElem? (i := 232) rfl)) rfl⟩
theorem fl_0_144 : fL "NinetyPlayers" 144 5 2 := ⟨_, _, _, ck_5, by decide, gw_of (tb_1 (List.mem_of_getElem? (i := 224) rfl)) rfl⟩
theorem ml_0_147 : mLV "NinetyPlayers" 147 m88 1 := ⟨yk_88, gw_of (tb_4 (List.mem_of_getElem? (i := 41) rfl)) rfl, gw_of (tb_4 (List.mem_of_getElem? (i := 43) rfl)) rfl, gw_sel (List.mem_of_getElem? (i := 23) rfl) rfl⟩
theorem ml_0_151 : mLV "NinetyPlayers" 151 m90 1 := ⟨yk_90, gw_of (tb_4 (List.mem_of_getElem? (i := 49) rfl)) rfl, gw_of (tb_4 (List.mem_of_getElem? (i := 51) rfl)) rfl, gw_sel (List.mem_of_getElem? (i := 24) rfl) rfl⟩
theorem ml_0_203 : mLV "NinetyPlayers" 203 m89 1 := ⟨yk_89, gw_of (tb_4 (List.mem_of_getElem? (i := 45) rfl)) rfl, gw_of (tb_4 (List.mem_of_getElem? (i := 46) rfl)) rfl, gw_of (tb_4 (List.mem_of_getElem? (i := 47) rfl)) rfl⟩
theorem ml_0_206 : mLS "NinetyPlayers" 206 m91 1 := ⟨yk_91, gw_of (tb_4 (List.mem_of_getElem? (i := 53) rfl)) rfl, gw_of (tb_4 (List.mem_of_getElem? (i := 54) rfl)) rfl⟩
theorem fl_0_211 : fL "NinetyPlayers" 211 2 15 := ⟨_, _, _, ck_2, by decide, gw_of (tb_1 (List.mem_of_getElem? (i := 127) rfl)) rfl⟩
theorem ml_0_215 : mLV "NinetyPlayers" 215 m92 0 := ⟨yk_92, gw_of (tb_4 (List.mem_of_getElem? (i := 59) rfl)) rfl, gw_of (tb_4 (List.mem_of_getElem? (i := 60) rfl)) rfl, gw_of (tb_4 (List.mem_of_getElem? (i := 61) rfl)) rfl⟩
theorem ml_0_221 : mLV "NinetyPlayers" 221 m93 6 := ⟨yk_93, gw_of (tb_4 (List.mem_of_getElem? (i := 63) rfl)) rfl, gw_of (tb_4 (List.mem_of_getElem? (i := 64) rfl)) rfl, gw_of (tb_4 (List.mem_of_getElem? (i := 65) rfl)) rfl⟩
theorem ml_0_225 : mMmin "NinetyPlayers" 225 := ⟨gw_of (tb_4 (List.mem_of_getElem? (i := 78) rfl)) rfl, gw_of (tb_3 (List.mem_of_getElem? (i := 23) rfl)) rfl, gw_of (tb_1 (List.mem_of_getElem? (i := 13) rfl)) rfl, gw_of (tb_3 (List.mem_of_getElem? (i := 24) rfl)) rfl⟩
theorem ml_0_230 : mMmax "NinetyPlayers" 230 := ⟨gw_of (tb_4 (List.mem_of_getElem? (i := 79) rfl)) rfl, gw_of (tb_3 (List.mem_of_getElem? (i := 26) rfl)) rfl, gw_of (tb_1 (List.mem_of_getElem? (i := 13) rfl)) rfl, gw_of (tb_3 (List.mem_of_getElem? (i := 27) rfl)) rfl⟩
theorem kc_15_265 : Cond.constant "java/lang/Integer" 265 1431655765 ∈ GW := gw_of (tb_4 (List.mem_of_getElem? (i := 56) rfl)) rfl
theorem kc_15_266 : Cond.constant "java/lang/Integer" 266 858993459 ∈ GW := gw_of (tb_4 (List.mem_of_getElem? (i := 57) rfl)) rfl
theorem kc_15_267 : Cond.constant "java/lang/Integer" 267 252645135 ∈ GW := gw_of (tb_4 (List.mem_of_getElem? (i := 58) rfl)) rfl
theorem fl_3_28 : fL "NinetyPlayers$Formula" 28 3 5 := ⟨_, _, _, ck_3, by decide, gw_of (tb_1 (List.mem_of_getElem? (i := 55) rfl)) rfl⟩
theorem ml_3_31 : mLV "NinetyPlayers$Formula" 31 m94 1 := ⟨yk_94, gw_of (tb_4 (List.mem_of_getElem? (i := 67) rfl)) rfl, gw_of (tb_4 (List.mem_of_getElem? (i := 69) rfl)) rfl, gw_sel (List.mem_of_getElem? (i := 25) rfl) rfl⟩
theorem ml_3_35 : mLV "NinetyPlayers$Formula" 35 m95 1 := ⟨yk_95, gw_of (tb_4 (List.mem_of_getElem? (i := 71) rfl)) rfl, gw_of (tb_4 (List.mem_of_getElem? (i := 73) rfl)) rfl, gw_sel (List.mem_of_getElem? (i := 26) rfl) rfl⟩
theorem ml_3_38 : mLS "NinetyPlayers$Formula" 38 m96 3 := ⟨yk_96, gw_of (tb_4 (List.mem_of_getElem? (i := 75) rfl)) rfl, gw_of (tb_4 (List.mem_of_getElem? (i := 76) rfl)) rfl⟩
theorem fl_0_154 : fL "NinetyPlayers" 154 2 5 := ⟨_, _, _, ck_2, by decide, gw_of (tb_1 (List.mem_of_getElem? (i := 101) rfl)) rfl⟩
theorem fl_0_157 : fL "NinetyPlayers" 157 2 8 := ⟨_, _, _, ck_2, by decide, gw_of (tb_1 (List.mem_of_getElem? (i := 109) rfl)) rfl⟩
theorem ml_0_160 : mLV "NinetyPlayers" 160 m98 1 := ⟨yk_98, gw_of (tb_4 (List.mem_of_getElem? (i := 84) rfl)) rfl, gw_of (tb_4 (List.mem_of_getElem? (i := 85) rfl)) rfl, gw_of (tb_4 (List.mem_of_getElem? (i := 86) rfl)) rfl⟩
theorem ml_0_163 : mLV "NinetyPlayers" 163 m99 0 := ⟨yk_99, gw_of (tb_4 (List.mem_of_getElem? (i := 88) rfl)) rfl, gw_of (tb_4 (List.mem_of_getElem? (i := 90) rfl)) rfl, gw_sel (List.mem_of_getElem? (i := 27) rfl) rfl⟩
theorem ml_0_200 : mLV "NinetyPlayers" 200 m100 1 := ⟨yk_100, gw_of (tb_4 (List.mem_of_getElem? (i := 92) rfl)) rfl, gw_of (tb_4 (List.mem_of_getElem? (i := 93) rfl)) rfl, gw_of (tb_4 (List.mem_of_getElem? (i := 94) rfl)) rfl⟩
theorem ml_0_167 : mLV "NinetyPlayers" 167 m102 1 := ⟨yk_102, gw_of (tb_4 (List.mem_of_getElem? (i := 100) rfl)) rfl, gw_of (tb_4 (List.mem_of_getElem? (i := 102) rfl)) rfl, gw_sel (List.mem_of_getElem? (i := 28) rfl) rfl⟩
theorem ml_0_170 : mLS "NinetyPlayers" 170 m103 1 := ⟨yk_103, gw_of (tb_4 (List.mem_of_getElem? (i := 104) rfl)) rfl, gw_of (tb_4 (List.mem_of_getElem? (i := 105) rfl)) rfl⟩
theorem ml_0_173 : mLV "NinetyPlayers" 173 m104 0 := ⟨yk_104, gw_of (tb_4 (List.mem_of_getElem? (i := 107) rfl)) rfl, gw_of (tb_4 (List.mem_of_getElem? (i := 109) rfl)) rfl, gw_sel (List.mem_of_getElem? (i := 29) rfl) rfl⟩
theorem ml_0_176 : mLV "NinetyPlayers" 176 m108 2 := ⟨yk_108, gw_of (tb_4 (List.mem_of_getElem? (i := 124) rfl)) rfl, gw_of (tb_4 (List.mem_of_getElem? (i := 125) rfl)) rfl, gw_of (tb_4 (List.mem_of_getElem? (i := 126) rfl)) rfl⟩
theorem fl_0_193 : fL "NinetyPlayers" 193 2 0 := ⟨_, _, _, ck_2, by decide, gw_of (tb_1 (List.mem_of_getElem? (i := 83) rfl)) rfl⟩
theorem ml_0_196 : mLV "NinetyPlayers" 196 m105 2 := ⟨yk_105, gw_of (tb_4 (List.mem_of_getElem? (i := 111) rfl)) rfl, gw_of (tb_4 (List.mem_of_getElem? (i := 112) rfl)) rfl, gw_of (tb_4 (List.mem_of_getElem? (i := 113) rfl)) rfl⟩
theorem fl_7_24 : fL "NinetyPlayers$Keyboard" 24 2 0 := ⟨_, _, _, ck_2, by decide, gw_of (tb_1 (List.mem_of_getElem? (i := 80) rfl)) rfl⟩
theorem fl_7_30 : fL "NinetyPlayers$Keyboard" 30 7 0 := ⟨_, _, _, ck_7, by decide, gw_of (tb_2 (List.mem_of_getElem? (i := 40) rfl)) rfl⟩
theorem fl_7_31 : fL "NinetyPlayers$Keyboard" 31 2 6 := ⟨_, _, _, ck_2, by decide, gw_of (tb_1 (List.mem_of_getElem? (i := 102) rfl)) rfl⟩
theorem fl_7_34 : fL "NinetyPlayers$Keyboard" 34 7 1 := ⟨_, _, _, ck_7, by decide, gw_of (tb_2 (List.mem_of_getElem? (i := 43) rfl)) rfl⟩
theorem fl_7_35 : fL "NinetyPlayers$Keyboard" 35 2 1 := ⟨_, _, _, ck_2, by decide, gw_of (tb_1 (List.mem_of_getElem? (i := 85) rfl)) rfl⟩
theorem fl_7_38 : fL "NinetyPlayers$Keyboard" 38 7 2 := ⟨_, _, _, ck_7, by decide, gw_of (tb_2 (List.mem_of_getElem? (i := 45) rfl)) rfl⟩
theorem fl_7_39 : fL "NinetyPlayers$Keyboard" 39 2 2 := ⟨_, _, _, ck_2, by decide, gw_of (tb_1 (List.mem_of_getElem? (i := 89) rfl)) rfl⟩
theorem fl_7_42 : fL "NinetyPlayers$Keyboard" 42 7 3 := ⟨_, _, _, ck_7, by decide, gw_of (tb_2 (List.mem_of_getElem? (i := 48) rfl)) rfl⟩
theorem fl_7_43 : fL "NinetyPlayers$Keyboard" 43 2 3 := ⟨_, _, _, ck_2, by decide, gw_of (tb_1 (List.mem_of_getElem? (i := 93) rfl)) rfl⟩
theorem fl_7_46 : fL "NinetyPlayers$Keyboard" 46 7 4 := ⟨_, _, _, ck_7, by decide, gw_of (tb_2 (List.mem_of_getElem? (i := 51) rfl)) rfl⟩
theorem ml_7_47 : mLV "NinetyPlayers$Keyboard" 47 m100 1 := ⟨yk_100, gw_of (tb_4 (List.mem_of_getElem? (i := 115) rfl)) rfl, gw_of (tb_4 (List.mem_of_getElem? (i := 93) rfl)) rfl, gw_of (tb_4 (List.mem_of_getElem? (i := 94) rfl)) rfl⟩
theorem fl_7_53 : fL "NinetyPlayers$Keyboard" 53 7 5 := ⟨_, _, _, ck_7, by decide, gw_of (tb_2 (List.mem_of_getElem? (i := 53) rfl)) rfl⟩
theorem fl_7_56 : fL "NinetyPlayers$Keyboard" 56 7 6 := ⟨_, _, _, ck_7, by decide, gw_of (tb_2 (List.mem_of_getElem? (i := 57) rfl)) rfl⟩
theorem fl_7_59 : fL "NinetyPlayers$Keyboard" 59 5 1 := ⟨_, _, _, ck_5, by decide, gw_of (tb_1 (List.mem_of_getElem? (i := 221) rfl)) rfl⟩
theorem fl_7_62 : fL "NinetyPlayers$Keyboard" 62 7 7 := ⟨_, _, _, ck_7, by decide, gw_of (tb_2 (List.mem_of_getElem? (i := 61) rfl)) rfl⟩
theorem fl_7_63 : fL "NinetyPlayers$Keyboard" 63 5 3 := ⟨_, _, _, ck_5, by decide, gw_of (tb_1 (List.mem_of_getElem? (i := 226) rfl)) rfl⟩
theorem fl_7_64 : fL "NinetyPlayers$Keyboard" 64 2 11 := ⟨_, _, _, ck_2, by decide, gw_of (tb_1 (List.mem_of_getElem? (i := 114) rfl)) rfl⟩
theorem fl_7_65 : fL "NinetyPlayers$Keyboard" 65 5 4 := ⟨_, _, _, ck_5, by decide, gw_of (tb_1 (List.mem_of_getElem? (i := 229) rfl)) rfl⟩
theorem ml_7_66 : mLV "NinetyPlayers$Keyboard" 66 m106 1 := ⟨yk_106, gw_of (tb_4 (List.mem_of_getElem? (i := 116) rfl)) rfl, gw_of (tb_4 (List.mem_of_getElem? (i := 118) rfl)) rfl, gw_sel (List.mem_of_getElem? (i := 30) rfl) rfl⟩
theorem ml_7_70 : mLV "NinetyPlayers$Keyboard" 70 m107 2 := ⟨yk_107, gw_of (tb_4 (List.mem_of_getElem? (i := 120) rfl)) rfl, gw_of (tb_4 (List.mem_of_getElem? (i := 121) rfl)) rfl, gw_of (tb_4 (List.mem_of_getElem? (i := 122) rfl)) rfl⟩
theorem ml_7_74 : mLV "NinetyPlayers$Keyboard" 74 m109 1 := ⟨yk_109, gw_of (tb_4 (List.mem_of_getElem? (i := 128) rfl)) rfl, gw_of (tb_4 (List.mem_of_getElem? (i := 129) rfl)) rfl, gw_of (tb_4 (List.mem_of_getElem? (i := 130) rfl)) rfl⟩
theorem ml_7_75 : mLV "NinetyPlayers$Keyboard" 75 m110 1 := ⟨yk_110, gw_of (tb_4 (List.mem_of_getElem? (i := 132) rfl)) rfl, gw_of (tb_4 (List.mem_of_getElem? (i := 133) rfl)) rfl, gw_of (tb_4 (List.mem_of_getElem? (i := 134) rfl)) rfl⟩
theorem ml_0_180 : mLV "NinetyPlayers" 180 m112 1 := ⟨yk_112, gw_of (tb_4 (List.mem_of_getElem? (i := 140) rfl)) rfl, gw_of (tb_4 (List.mem_of_getElem? (i := 141) rfl)) rfl, gw_of (tb_4 (List.mem_of_getElem? (i := 142) rfl)) rfl⟩
theorem fl_0_183 : fL "NinetyPlayers" 183 7 5 := ⟨_, _, _, ck_7, by decide, gw_of (tb_2 (List.mem_of_getElem? (i := 56) rfl)) rfl⟩
theorem fl_0_186 : fL "NinetyPlayers" 186 7 6 := ⟨_, _, _, ck_7, by decide, gw_of (tb_2 (List.mem_of_getElem? (i := 60) rfl)) rfl⟩
theorem ml_0_189 : mLV "NinetyPlayers" 189 m114 3 := ⟨yk_114, gw_of (tb_4 (List.mem_of_getElem? (i := 148) rfl)) rfl, gw_of (tb_4 (List.mem_of_getElem? (i := 149) rfl)) rfl, gw_of (tb_4 (List.mem_of_getElem? (i := 150) rfl)) rfl⟩
theorem ml_7_100 : mLV "NinetyPlayers$Keyboard" 100 m115 4 := ⟨yk_115, gw_of (tb_4 (List.mem_of_getElem? (i := 152) rfl)) rfl, gw_of (tb_4 (List.mem_of_getElem? (i := 153) rfl)) rfl, gw_of (tb_4 (List.mem_of_getElem? (i := 154) rfl)) rfl⟩
theorem ml_7_94 : mLV "NinetyPlayers$Keyboard" 94 m116 2 := ⟨yk_116, gw_of (tb_4 (List.mem_of_getElem? (i := 156) rfl)) rfl, gw_of (tb_4 (List.mem_of_getElem? (i := 158) rfl)) rfl, gw_sel (List.mem_of_getElem? (i := 31) rfl) rfl⟩
theorem ml_7_78 : mLV "NinetyPlayers$Keyboard" 78 m118 1 := ⟨yk_118, gw_of (tb_4 (List.mem_of_getElem? (i := 165) rfl)) rfl, gw_of (tb_4 (List.mem_of_getElem? (i := 167) rfl)) rfl, gw_sel (List.mem_of_getElem? (i := 33) rfl) rfl⟩
theorem ml_7_81 : mLV "NinetyPlayers$Keyboard" 81 m117 1 := ⟨yk_117, gw_of (tb_4 (List.mem_of_getElem? (i := 160) rfl)) rfl, gw_of (tb_4 (List.mem_of_getElem? (i := 162) rfl)) rfl, gw_sel (List.mem_of_getElem? (i := 32) rfl) rfl⟩
theorem ml_7_97 : mLV "NinetyPlayers$Keyboard" 97 m120 1 := ⟨yk_120, gw_of (tb_4 (List.mem_of_getElem? (i := 172) rfl)) rfl, gw_of (tb_4 (List.mem_of_getElem? (i := 174) rfl)) rfl, gw_sel (List.mem_of_getElem? (i := 34) rfl) rfl⟩
theorem ml_7_89 : mLS "NinetyPlayers$Keyboard" 89 m91 1 := ⟨yk_91, gw_of (tb_4 (List.mem_of_getElem? (i := 164) rfl)) rfl, gw_of (tb_4 (List.mem_of_getElem? (i := 54) rfl)) rfl⟩
theorem ml_7_84 : mMabs "NinetyPlayers$Keyboard" 84 := ⟨gw_of (tb_4 (List.mem_of_getElem? (i := 169) rfl)) rfl, gw_of (tb_4 (List.mem_of_getElem? (i := 170) rfl)) rfl, gw_of (tb_1 (List.mem_of_getElem? (i := 13) rfl)) rfl, gw_of (tb_4 (List.mem_of_getElem? (i := 171) rfl)) rfl⟩
theorem ml_0_233 : mLV "NinetyPlayers" 233 m122 4 := ⟨yk_122, gw_of (tb_4 (List.mem_of_getElem? (i := 180) rfl)) rfl, gw_of (tb_4 (List.mem_of_getElem? (i := 181) rfl)) rfl, gw_of (tb_4 (List.mem_of_getElem? (i := 182) rfl)) rfl⟩
theorem ml_0_237 : mLV "NinetyPlayers" 237 m127 0 := ⟨yk_127, gw_of (tb_4 (List.mem_of_getElem? (i := 203) rfl)) rfl, gw_of (tb_4 (List.mem_of_getElem? (i := 204) rfl)) rfl, gw_of (tb_4 (List.mem_of_getElem? (i := 205) rfl)) rfl⟩
theorem ml_6_31 : mLV "NinetyPlayers$Acts" 31 m123 0 := ⟨yk_123, gw_of (tb_4 (List.mem_of_getElem? (i := 184) rfl)) rfl, gw_of (tb_4 (List.mem_of_getElem? (i := 186) rfl)) rfl, gw_sel (List.mem_of_getElem? (i := 35) rfl) rfl⟩
theorem ml_6_34 : mLV "NinetyPlayers$Acts" 34 m124 2 := ⟨yk_124, gw_of (tb_4 (List.mem_of_getElem? (i := 191) rfl)) rfl, gw_of (tb_4 (List.mem_of_getElem? (i := 192) rfl)) rfl, gw_of (tb_4 (List.mem_of_getElem? (i := 193) rfl)) rfl⟩
theorem ml_6_40 : mLV "NinetyPlayers$Acts" 40 m126 3 := ⟨yk_126, gw_of (tb_4 (List.mem_of_getElem? (i := 199) rfl)) rfl, gw_of (tb_4 (List.mem_of_getElem? (i := 200) rfl)) rfl, gw_of (tb_4 (List.mem_of_getElem? (i := 201) rfl)) rfl⟩
theorem ml_6_44 : Cond.methodLink "NinetyPlayers$Acts" 44 arraycopyName ∈ GW ∧ Cond.native arraycopyName ∈ GW ∧ Cond.static arraycopyName ∈ GW ∧ Cond.initialized "java/lang/System" ∈ GW := ⟨gw_of (tb_4 (List.mem_of_getElem? (i := 188) rfl)) rfl, gw_of (tb_4 (List.mem_of_getElem? (i := 190) rfl)) rfl, gw_of (tb_4 (List.mem_of_getElem? (i := 189) rfl)) rfl, gw_of (tb_1 (List.mem_of_getElem? (i := 21) rfl)) rfl⟩
theorem ml_5_33 : mLV "NinetyPlayers$Laying" 33 m125 1 := ⟨yk_125, gw_of (tb_4 (List.mem_of_getElem? (i := 195) rfl)) rfl, gw_of (tb_4 (List.mem_of_getElem? (i := 197) rfl)) rfl, gw_sel (List.mem_of_getElem? (i := 36) rfl) rfl⟩
theorem ml_0_253 : mLV "NinetyPlayers" 253 m128 2 := ⟨yk_128, gw_of (tb_4 (List.mem_of_getElem? (i := 207) rfl)) rfl, gw_of (tb_4 (List.mem_of_getElem? (i := 208) rfl)) rfl, gw_of (tb_4 (List.mem_of_getElem? (i := 209) rfl)) rfl⟩
theorem ml_7_104 : mLV "NinetyPlayers$Keyboard" 104 m114 3 := ⟨yk_114, gw_of (tb_4 (List.mem_of_getElem? (i := 211) rfl)) rfl, gw_of (tb_4 (List.mem_of_getElem? (i := 149) rfl)) rfl, gw_of (tb_4 (List.mem_of_getElem? (i := 150) rfl)) rfl⟩
theorem ml_0_240 : mLS "NinetyPlayers" 240 m130 1 := ⟨yk_130, gw_of (tb_4 (List.mem_of_getElem? (i := 216) rfl)) rfl, gw_of (tb_4 (List.mem_of_getElem? (i := 217) rfl)) rfl⟩
theorem fl_0_243 : fL "NinetyPlayers" 243 5 1 := ⟨_, _, _, ck_5, by decide, gw_of (tb_1 (List.mem_of_getElem? (i := 222) rfl)) rfl⟩
theorem ml_0_246 : mLV "NinetyPlayers" 246 m135 1 := ⟨yk_135, gw_of (tb_4 (List.mem_of_getElem? (i := 235) rfl)) rfl, gw_of (tb_4 (List.mem_of_getElem? (i := 236) rfl)) rfl, gw_of (tb_4 (List.mem_of_getElem? (i := 237) rfl)) rfl⟩
theorem ml_0_250 : mLV "NinetyPlayers" 250 m137 1 := ⟨yk_137, gw_of (tb_5 (List.mem_of_getElem? (i := 3) rfl)) rfl, gw_of (tb_5 (List.mem_of_getElem? (i := 4) rfl)) rfl, gw_of (tb_5 (List.mem_of_getElem? (i := 5) rfl)) rfl⟩
theorem fl_0_256 : fL "NinetyPlayers" 256 2 2 := ⟨_, _, _, ck_2, by decide, gw_of (tb_1 (List.mem_of_getElem? (i := 91) rfl)) rfl⟩
theorem fl_0_259 : fL "NinetyPlayers" 259 2 1 := ⟨_, _, _, ck_2, by decide, gw_of (tb_1 (List.mem_of_getElem? (i := 87) rfl)) rfl⟩
theorem ml_0_262 : mLV "NinetyPlayers" 262 m140 2 := ⟨yk_140, gw_of (tb_5 (List.mem_of_getElem? (i := 16) rfl)) rfl, gw_of (tb_5 (List.mem_of_getElem? (i := 18) rfl)) rfl, gw_sel (List.mem_of_getElem? (i := 37) rfl) rfl⟩
theorem fl_0_266 : fL "NinetyPlayers" 266 8 2 := ⟨_, _, _, ck_8, by decide, gw_of (tb_2 (List.mem_of_getElem? (i := 101) rfl)) rfl⟩
theorem fl_0_269 : fL "NinetyPlayers" 269 8 3 := ⟨_, _, _, ck_8, by decide, gw_of (tb_2 (List.mem_of_getElem? (i := 103) rfl)) rfl⟩
theorem fl_0_270 : fL "NinetyPlayers" 270 8 4 := ⟨_, _, _, ck_8, by decide, gw_of (tb_2 (List.mem_of_getElem? (i := 105) rfl)) rfl⟩
theorem ml_0_271 : mLV "NinetyPlayers" 271 m141 0 := ⟨yk_141, gw_of (tb_5 (List.mem_of_getElem? (i := 20) rfl)) rfl, gw_of (tb_5 (List.mem_of_getElem? (i := 22) rfl)) rfl, gw_sel (List.mem_of_getElem? (i := 38) rfl) rfl⟩
theorem fl_0_274 : fL "NinetyPlayers" 274 7 3 := ⟨_, _, _, ck_7, by decide, gw_of (tb_2 (List.mem_of_getElem? (i := 50) rfl)) rfl⟩
theorem fl_0_275 : fL "NinetyPlayers" 275 7 2 := ⟨_, _, _, ck_7, by decide, gw_of (tb_2 (List.mem_of_getElem? (i := 47) rfl)) rfl⟩
theorem ml_0_276 : mLV "NinetyPlayers" 276 m142 0 := ⟨yk_142, gw_of (tb_5 (List.mem_of_getElem? (i := 24) rfl)) rfl, gw_of (tb_5 (List.mem_of_getElem? (i := 25) rfl)) rfl, gw_of (tb_5 (List.mem_of_getElem? (i := 26) rfl)) rfl⟩
theorem ml_0_279 : mLV "NinetyPlayers" 279 m151 1 := ⟨yk_151, gw_of (tb_5 (List.mem_of_getElem? (i := 63) rfl)) rfl, gw_of (tb_5 (List.mem_of_getElem? (i := 64) rfl)) rfl, gw_of (tb_5 (List.mem_of_getElem? (i := 65) rfl)) rfl⟩
theorem fl_8_38 : fL "NinetyPlayers$Arranger" 38 7 1 := ⟨_, _, _, ck_7, by decide, gw_of (tb_2 (List.mem_of_getElem? (i := 44) rfl)) rfl⟩
theorem ml_8_43 : mLV "NinetyPlayers$Arranger" 43 m143 1 := ⟨yk_143, gw_of (tb_5 (List.mem_of_getElem? (i := 28) rfl)) rfl, gw_of (tb_5 (List.mem_of_getElem? (i := 30) rfl)) rfl, gw_sel (List.mem_of_getElem? (i := 39) rfl) rfl⟩
theorem ml_8_47 : mLV "NinetyPlayers$Arranger" 47 m144 1 := ⟨yk_144, gw_of (tb_5 (List.mem_of_getElem? (i := 34) rfl)) rfl, gw_of (tb_5 (List.mem_of_getElem? (i := 36) rfl)) rfl, gw_sel (List.mem_of_getElem? (i := 40) rfl) rfl⟩
theorem fl_8_50 : fL "NinetyPlayers$Arranger" 50 8 2 := ⟨_, _, _, ck_8, by decide, gw_of (tb_2 (List.mem_of_getElem? (i := 100) rfl)) rfl⟩
theorem fl_8_31 : fL "NinetyPlayers$Arranger" 31 8 3 := ⟨_, _, _, ck_8, by decide, gw_of (tb_2 (List.mem_of_getElem? (i := 102) rfl)) rfl⟩
theorem fl_8_35 : fL "NinetyPlayers$Arranger" 35 8 4 := ⟨_, _, _, ck_8, by decide, gw_of (tb_2 (List.mem_of_getElem? (i := 104) rfl)) rfl⟩
theorem ml_8_53 : mLV "NinetyPlayers$Arranger" 53 m145 4 := ⟨yk_145, gw_of (tb_5 (List.mem_of_getElem? (i := 38) rfl)) rfl, gw_of (tb_5 (List.mem_of_getElem? (i := 40) rfl)) rfl, gw_sel (List.mem_of_getElem? (i := 41) rfl) rfl⟩
theorem fl_8_57 : fL "NinetyPlayers$Arranger" 57 7 0 := ⟨_, _, _, ck_7, by decide, gw_of (tb_2 (List.mem_of_getElem? (i := 42) rfl)) rfl⟩
theorem ml_8_60 : mLV "NinetyPlayers$Arranger" 60 m110 1 := ⟨yk_110, gw_of (tb_5 (List.mem_of_getElem? (i := 32) rfl)) rfl, gw_of (tb_4 (List.mem_of_getElem? (i := 133) rfl)) rfl, gw_of (tb_4 (List.mem_of_getElem? (i := 134) rfl)) rfl⟩
theorem fl_8_64 : fL "NinetyPlayers$Arranger" 64 7 8 := ⟨_, _, _, ck_7, by decide, gw_of (tb_2 (List.mem_of_getElem? (i := 63) rfl)) rfl⟩
theorem ml_8_67 : mMabs "NinetyPlayers$Arranger" 67 := ⟨gw_of (tb_5 (List.mem_of_getElem? (i := 33) rfl)) rfl, gw_of (tb_4 (List.mem_of_getElem? (i := 170) rfl)) rfl, gw_of (tb_1 (List.mem_of_getElem? (i := 13) rfl)) rfl, gw_of (tb_4 (List.mem_of_getElem? (i := 171) rfl)) rfl⟩
theorem fl_8_72 : fL "NinetyPlayers$Arranger" 72 7 2 := ⟨_, _, _, ck_7, by decide, gw_of (tb_2 (List.mem_of_getElem? (i := 46) rfl)) rfl⟩
theorem ml_8_75 : mLV "NinetyPlayers$Arranger" 75 m146 3 := ⟨yk_146, gw_of (tb_5 (List.mem_of_getElem? (i := 42) rfl)) rfl, gw_of (tb_5 (List.mem_of_getElem? (i := 44) rfl)) rfl, gw_sel (List.mem_of_getElem? (i := 42) rfl) rfl⟩
theorem ml_8_79 : mLV "NinetyPlayers$Arranger" 79 m147 2 := ⟨yk_147, gw_of (tb_5 (List.mem_of_getElem? (i := 46) rfl)) rfl, gw_of (tb_5 (List.mem_of_getElem? (i := 48) rfl)) rfl, gw_sel (List.mem_of_getElem? (i := 43) rfl) rfl⟩
theorem ml_8_83 : mLV "NinetyPlayers$Arranger" 83 m148 3 := ⟨yk_148, gw_of (tb_5 (List.mem_of_getElem? (i := 51) rfl)) rfl, gw_of (tb_5 (List.mem_of_getElem? (i := 53) rfl)) rfl, gw_sel (List.mem_of_getElem? (i := 44) rfl) rfl⟩
theorem ml_8_86 : mLV "NinetyPlayers$Arranger" 86 m150 3 := ⟨yk_150, gw_of (tb_5 (List.mem_of_getElem? (i := 59) rfl)) rfl, gw_of (tb_5 (List.mem_of_getElem? (i := 61) rfl)) rfl, gw_sel (List.mem_of_getElem? (i := 45) rfl) rfl⟩
theorem ml_8_89 : mLS "NinetyPlayers$Arranger" 89 m91 1 := ⟨yk_91, gw_of (tb_5 (List.mem_of_getElem? (i := 50) rfl)) rfl, gw_of (tb_4 (List.mem_of_getElem? (i := 54) rfl)) rfl⟩
theorem fl_8_94 : fL "NinetyPlayers$Arranger" 94 7 3 := ⟨_, _, _, ck_7, by decide, gw_of (tb_2 (List.mem_of_getElem? (i := 49) rfl)) rfl⟩
theorem ml_8_97 : mLV "NinetyPlayers$Arranger" 97 m149 2 := ⟨yk_149, gw_of (tb_5 (List.mem_of_getElem? (i := 55) rfl)) rfl, gw_of (tb_5 (List.mem_of_getElem? (i := 56) rfl)) rfl, gw_of (tb_5 (List.mem_of_getElem? (i := 57) rfl)) rfl⟩
theorem fl_8_101 : fL "NinetyPlayers$Arranger" 101 7 4 := ⟨_, _, _, ck_7, by decide, gw_of (tb_2 (List.mem_of_getElem? (i := 52) rfl)) rfl⟩
theorem ml_0_282 : mLV "NinetyPlayers" 282 m154 1 := ⟨yk_154, gw_of (tb_5 (List.mem_of_getElem? (i := 75) rfl)) rfl, gw_of (tb_5 (List.mem_of_getElem? (i := 77) rfl)) rfl, gw_sel (List.mem_of_getElem? (i := 46) rfl) rfl⟩
theorem ml_0_285 : mLV "NinetyPlayers" 285 m155 2 := ⟨yk_155, gw_of (tb_5 (List.mem_of_getElem? (i := 79) rfl)) rfl, gw_of (tb_5 (List.mem_of_getElem? (i := 80) rfl)) rfl, gw_of (tb_5 (List.mem_of_getElem? (i := 81) rfl)) rfl⟩
theorem ml_0_288 : mLV "NinetyPlayers" 288 m157 2 := ⟨yk_157, gw_of (tb_5 (List.mem_of_getElem? (i := 87) rfl)) rfl, gw_of (tb_5 (List.mem_of_getElem? (i := 88) rfl)) rfl, gw_of (tb_5 (List.mem_of_getElem? (i := 89) rfl)) rfl⟩
theorem fl_8_104 : fL "NinetyPlayers$Arranger" 104 7 5 := ⟨_, _, _, ck_7, by decide, gw_of (tb_2 (List.mem_of_getElem? (i := 55) rfl)) rfl⟩
theorem fl_8_105 : fL "NinetyPlayers$Arranger" 105 7 6 := ⟨_, _, _, ck_7, by decide, gw_of (tb_2 (List.mem_of_getElem? (i := 59) rfl)) rfl⟩
theorem ml_8_106 : mLV "NinetyPlayers$Arranger" 106 m158 2 := ⟨yk_158, gw_of (tb_5 (List.mem_of_getElem? (i := 91) rfl)) rfl, gw_of (tb_5 (List.mem_of_getElem? (i := 93) rfl)) rfl, gw_sel (List.mem_of_getElem? (i := 47) rfl) rfl⟩
theorem ml_8_109 : mLV "NinetyPlayers$Arranger" 109 m160 2 := ⟨yk_160, gw_of (tb_5 (List.mem_of_getElem? (i := 99) rfl)) rfl, gw_of (tb_5 (List.mem_of_getElem? (i := 100) rfl)) rfl, gw_of (tb_5 (List.mem_of_getElem? (i := 101) rfl)) rfl⟩
theorem ml_8_112 : mLV "NinetyPlayers$Arranger" 112 m159 1 := ⟨yk_159, gw_of (tb_5 (List.mem_of_getElem? (i := 95) rfl)) rfl, gw_of (tb_5 (List.mem_of_getElem? (i := 97) rfl)) rfl, gw_sel (List.mem_of_getElem? (i := 48) rfl) rfl⟩
theorem ml_0_291 : mLV "NinetyPlayers" 291 m162 2 := ⟨yk_162, gw_of (tb_5 (List.mem_of_getElem? (i := 107) rfl)) rfl, gw_of (tb_5 (List.mem_of_getElem? (i := 108) rfl)) rfl, gw_of (tb_5 (List.mem_of_getElem? (i := 109) rfl)) rfl⟩
theorem ml_7_108 : yOK m130 1 ∧ Cond.static m130.1 ∈ GW := ⟨yk_130, gw_of (tb_4 (List.mem_of_getElem? (i := 217) rfl)) rfl⟩
theorem ml_7_111 : mLV "NinetyPlayers$Keyboard" 111 m160 2 := ⟨yk_160, gw_of (tb_5 (List.mem_of_getElem? (i := 112) rfl)) rfl, gw_of (tb_5 (List.mem_of_getElem? (i := 100) rfl)) rfl, gw_of (tb_5 (List.mem_of_getElem? (i := 101) rfl)) rfl⟩
theorem ml_0_294 : mLV "NinetyPlayers" 294 m164 0 := ⟨yk_164, gw_of (tb_5 (List.mem_of_getElem? (i := 117) rfl)) rfl, gw_of (tb_5 (List.mem_of_getElem? (i := 118) rfl)) rfl, gw_of (tb_5 (List.mem_of_getElem? (i := 119) rfl)) rfl⟩
theorem ml_9_19 : mLV "NinetyPlayers$Pedaller" 19 m165 3 := ⟨yk_165, gw_of (tb_5 (List.mem_of_getElem? (i := 121) rfl)) rfl, gw_of (tb_5 (List.mem_of_getElem? (i := 123) rfl)) rfl, gw_sel (List.mem_of_getElem? (i := 49) rfl) rfl⟩
theorem fl_9_23 : fL "NinetyPlayers$Pedaller" 23 7 0 := ⟨_, _, _, ck_7, by decide, gw_of (tb_2 (List.mem_of_getElem? (i := 41) rfl)) rfl⟩
theorem ml_9_29 : mLV "NinetyPlayers$Pedaller" 29 m166 1 := ⟨yk_166, gw_of (tb_5 (List.mem_of_getElem? (i := 127) rfl)) rfl, gw_of (tb_5 (List.mem_of_getElem? (i := 129) rfl)) rfl, gw_sel (List.mem_of_getElem? (i := 50) rfl) rfl⟩
theorem ml_9_33 : mLS "NinetyPlayers$Pedaller" 33 m167 2 := ⟨yk_167, gw_of (tb_5 (List.mem_of_getElem? (i := 131) rfl)) rfl, gw_of (tb_5 (List.mem_of_getElem? (i := 132) rfl)) rfl⟩
theorem ml_9_37 : mLV "NinetyPlayers$Pedaller" 37 m107 2 := ⟨yk_107, gw_of (tb_5 (List.mem_of_getElem? (i := 125) rfl)) rfl, gw_of (tb_4 (List.mem_of_getElem? (i := 121) rfl)) rfl, gw_of (tb_4 (List.mem_of_getElem? (i := 122) rfl)) rfl⟩
theorem fl_9_40 : fL "NinetyPlayers$Pedaller" 40 7 5 := ⟨_, _, _, ck_7, by decide, gw_of (tb_2 (List.mem_of_getElem? (i := 54) rfl)) rfl⟩
theorem fl_9_43 : fL "NinetyPlayers$Pedaller" 43 7 6 := ⟨_, _, _, ck_7, by decide, gw_of (tb_2 (List.mem_of_getElem? (i := 58) rfl)) rfl⟩
theorem ml_9_46 : mLV "NinetyPlayers$Pedaller" 46 m115 4 := ⟨yk_115, gw_of (tb_5 (List.mem_of_getElem? (i := 126) rfl)) rfl, gw_of (tb_4 (List.mem_of_getElem? (i := 153) rfl)) rfl, gw_of (tb_4 (List.mem_of_getElem? (i := 154) rfl)) rfl⟩
theorem ml_9_50 : mLS "NinetyPlayers$Pedaller" 50 m91 1 := ⟨yk_91, gw_of (tb_5 (List.mem_of_getElem? (i := 134) rfl)) rfl, gw_of (tb_4 (List.mem_of_getElem? (i := 54) rfl)) rfl⟩
theorem ml_0_297 : mLV "NinetyPlayers" 297 m169 1 := ⟨yk_169, gw_of (tb_5 (List.mem_of_getElem? (i := 139) rfl)) rfl, gw_of (tb_5 (List.mem_of_getElem? (i := 140) rfl)) rfl, gw_of (tb_5 (List.mem_of_getElem? (i := 141) rfl)) rfl⟩
theorem ml_0_300 : mLV "NinetyPlayers" 300 m149 2 := ⟨yk_149, gw_of (tb_5 (List.mem_of_getElem? (i := 147) rfl)) rfl, gw_of (tb_5 (List.mem_of_getElem? (i := 56) rfl)) rfl, gw_of (tb_5 (List.mem_of_getElem? (i := 57) rfl)) rfl⟩
theorem ml_0_303 : mLV "NinetyPlayers" 303 m172 1 := ⟨yk_172, gw_of (tb_5 (List.mem_of_getElem? (i := 152) rfl)) rfl, gw_of (tb_5 (List.mem_of_getElem? (i := 153) rfl)) rfl, gw_of (tb_5 (List.mem_of_getElem? (i := 154) rfl)) rfl⟩
theorem ml_7_115 : mLV "NinetyPlayers$Keyboard" 115 m112 1 := ⟨yk_112, gw_of (tb_5 (List.mem_of_getElem? (i := 156) rfl)) rfl, gw_of (tb_4 (List.mem_of_getElem? (i := 141) rfl)) rfl, gw_of (tb_4 (List.mem_of_getElem? (i := 142) rfl)) rfl⟩
theorem ml_0_306 : mLV "NinetyPlayers" 306 m174 1 := ⟨yk_174, gw_of (tb_5 (List.mem_of_getElem? (i := 161) rfl)) rfl, gw_of (tb_5 (List.mem_of_getElem? (i := 163) rfl)) rfl, gw_sel (List.mem_of_getElem? (i := 51) rfl) rfl⟩
theorem fl_0_309 : fL "NinetyPlayers" 309 2 4 := ⟨_, _, _, ck_2, by decide, gw_of (tb_1 (List.mem_of_getElem? (i := 98) rfl)) rfl⟩
theorem ml_0_312 : mLV "NinetyPlayers" 312 m179 1 := ⟨yk_179, gw_of (tb_5 (List.mem_of_getElem? (i := 181) rfl)) rfl, gw_of (tb_5 (List.mem_of_getElem? (i := 182) rfl)) rfl, gw_of (tb_5 (List.mem_of_getElem? (i := 183) rfl)) rfl⟩
theorem ml_0_315 : mLV "NinetyPlayers" 315 m109 1 := ⟨yk_109, gw_of (tb_5 (List.mem_of_getElem? (i := 189) rfl)) rfl, gw_of (tb_4 (List.mem_of_getElem? (i := 129) rfl)) rfl, gw_of (tb_4 (List.mem_of_getElem? (i := 130) rfl)) rfl⟩
theorem ml_0_316 : mLV "NinetyPlayers" 316 m186 3 := ⟨yk_186, gw_of (tb_5 (List.mem_of_getElem? (i := 210) rfl)) rfl, gw_of (tb_5 (List.mem_of_getElem? (i := 211) rfl)) rfl, gw_of (tb_5 (List.mem_of_getElem? (i := 212) rfl)) rfl⟩
theorem fl_10_38 : fL "NinetyPlayers$Witness" 38 10 1 := ⟨_, _, _, ck_10, by decide, gw_of (tb_2 (List.mem_of_getElem? (i := 150) rfl)) rfl⟩
theorem ml_0_320 : mLV "NinetyPlayers" 320 m188 1 := ⟨yk_188, gw_of (tb_5 (List.mem_of_getElem? (i := 218) rfl)) rfl, gw_of (tb_5 (List.mem_of_getElem? (i := 219) rfl)) rfl, gw_of (tb_5 (List.mem_of_getElem? (i := 220) rfl)) rfl⟩
theorem ml_0_323 : mLV "NinetyPlayers" 323 m190 1 := ⟨yk_190, gw_of (tb_5 (List.mem_of_getElem? (i := 226) rfl)) rfl, gw_of (tb_5 (List.mem_of_getElem? (i := 227) rfl)) rfl, gw_of (tb_5 (List.mem_of_getElem? (i := 228) rfl)) rfl⟩
theorem kc_10_41 : Cond.constant "NinetyPlayers$Witness" 41 100000 ∈ GW := gw_of (tb_5 (List.mem_of_getElem? (i := 230) rfl)) rfl
theorem ml_0_326 : mLV "NinetyPlayers" 326 m192 2 := ⟨yk_192, gw_of (tb_5 (List.mem_of_getElem? (i := 235) rfl)) rfl, gw_of (tb_5 (List.mem_of_getElem? (i := 236) rfl)) rfl, gw_of (tb_5 (List.mem_of_getElem? (i := 237) rfl)) rfl⟩
theorem fl_0_330 : fL "NinetyPlayers" 330 10 2 := ⟨_, _, _, ck_10, by decide, gw_of (tb_2 (List.mem_of_getElem? (i := 153) rfl)) rfl⟩
theorem ml_10_42 : mLV "NinetyPlayers$Witness" 42 m193 2 := ⟨yk_193, gw_of (tb_5 (List.mem_of_getElem? (i := 239) rfl)) rfl, gw_of (tb_6 (List.mem_of_getElem? (i := 1) rfl)) rfl, gw_sel (List.mem_of_getElem? (i := 52) rfl) rfl⟩
theorem fl_10_46 : fL "NinetyPlayers$Witness" 46 10 2 := ⟨_, _, _, ck_10, by decide, gw_of (tb_2 (List.mem_of_getElem? (i := 152) rfl)) rfl⟩
theorem fl_10_49 : fL "NinetyPlayers$Witness" 49 2 6 := ⟨_, _, _, ck_2, by decide, gw_of (tb_1 (List.mem_of_getElem? (i := 106) rfl)) rfl⟩
theorem ml_10_54 : mLV "NinetyPlayers$Witness" 54 m195 1 := ⟨yk_195, gw_of (tb_6 (List.mem_of_getElem? (i := 6) rfl)) rfl, gw_of (tb_6 (List.mem_of_getElem? (i := 8) rfl)) rfl, gw_sel (List.mem_of_getElem? (i := 53) rfl) rfl⟩
theorem ml_10_58 : mLV "NinetyPlayers$Witness" 58 m196 1 := ⟨yk_196, gw_of (tb_6 (List.mem_of_getElem? (i := 10) rfl)) rfl, gw_of (tb_6 (List.mem_of_getElem? (i := 12) rfl)) rfl, gw_sel (List.mem_of_getElem? (i := 54) rfl) rfl⟩
theorem fl_10_62 : fL "NinetyPlayers$Witness" 62 10 10 := ⟨_, _, _, ck_10, by decide, gw_of (tb_2 (List.mem_of_getElem? (i := 162) rfl)) rfl⟩
theorem fl_10_65 : fL "NinetyPlayers$Witness" 65 10 11 := ⟨_, _, _, ck_10, by decide, gw_of (tb_2 (List.mem_of_getElem? (i := 163) rfl)) rfl⟩
theorem ml_10_68 : mLS "NinetyPlayers$Witness" 68 m194 3 := ⟨yk_194, gw_of (tb_6 (List.mem_of_getElem? (i := 3) rfl)) rfl, gw_of (tb_6 (List.mem_of_getElem? (i := 4) rfl)) rfl⟩
theorem fl_10_72 : fL "NinetyPlayers$Witness" 72 2 11 := ⟨_, _, _, ck_2, by decide, gw_of (tb_1 (List.mem_of_getElem? (i := 116) rfl)) rfl⟩
theorem fl_10_75 : fL "NinetyPlayers$Witness" 75 2 12 := ⟨_, _, _, ck_2, by decide, gw_of (tb_1 (List.mem_of_getElem? (i := 119) rfl)) rfl⟩
theorem fl_10_76 : fL "NinetyPlayers$Witness" 76 2 13 := ⟨_, _, _, ck_2, by decide, gw_of (tb_1 (List.mem_of_getElem? (i := 122) rfl)) rfl⟩
theorem fl_0_333 : fL "NinetyPlayers" 333 10 3 := ⟨_, _, _, ck_10, by decide, gw_of (tb_2 (List.mem_of_getElem? (i := 155) rfl)) rfl⟩
theorem ml_0_336 : mLV "NinetyPlayers" 336 m200 1 := ⟨yk_200, gw_of (tb_6 (List.mem_of_getElem? (i := 26) rfl)) rfl, gw_of (tb_6 (List.mem_of_getElem? (i := 27) rfl)) rfl, gw_of (tb_6 (List.mem_of_getElem? (i := 28) rfl)) rfl⟩
theorem ml_0_340 : mLV "NinetyPlayers" 340 m202 1 := ⟨yk_202, gw_of (tb_6 (List.mem_of_getElem? (i := 34) rfl)) rfl, gw_of (tb_6 (List.mem_of_getElem? (i := 36) rfl)) rfl, gw_sel (List.mem_of_getElem? (i := 55) rfl) rfl⟩
theorem ml_0_343 : mLV "NinetyPlayers" 343 m204 2 := ⟨yk_204, gw_of (tb_6 (List.mem_of_getElem? (i := 42) rfl)) rfl, gw_of (tb_6 (List.mem_of_getElem? (i := 43) rfl)) rfl, gw_of (tb_6 (List.mem_of_getElem? (i := 44) rfl)) rfl⟩
theorem fl_0_347 : fL "NinetyPlayers" 347 2 3 := ⟨_, _, _, ck_2, by decide, gw_of (tb_1 (List.mem_of_getElem? (i := 95) rfl)) rfl⟩
theorem ml_0_350 : mLV "NinetyPlayers" 350 m206 1 := ⟨yk_206, gw_of (tb_6 (List.mem_of_getElem? (i := 50) rfl)) rfl, gw_of (tb_6 (List.mem_of_getElem? (i := 52) rfl)) rfl, gw_sel (List.mem_of_getElem? (i := 56) rfl) rfl⟩
theorem fl_0_353 : fL "NinetyPlayers" 353 6 0 := ⟨_, _, _, ck_6, by decide, gw_of (tb_2 (List.mem_of_getElem? (i := 14) rfl)) rfl⟩
theorem fl_0_356 : fL "NinetyPlayers" 356 6 1 := ⟨_, _, _, ck_6, by decide, gw_of (tb_2 (List.mem_of_getElem? (i := 16) rfl)) rfl⟩
theorem fl_0_358 : fL "NinetyPlayers" 358 10 0 := ⟨_, _, _, ck_10, by decide, gw_of (tb_2 (List.mem_of_getElem? (i := 149) rfl)) rfl⟩
theorem fl_0_361 : fL "NinetyPlayers" 361 10 1 := ⟨_, _, _, ck_10, by decide, gw_of (tb_2 (List.mem_of_getElem? (i := 151) rfl)) rfl⟩
theorem fl_0_364 : fL "NinetyPlayers" 364 3 0 := ⟨_, _, _, ck_3, by decide, gw_of (tb_1 (List.mem_of_getElem? (i := 50) rfl)) rfl⟩
theorem fl_11_7 : fL "NinetyPlayersModel" 7 11 0 := ⟨_, _, _, ck_11, by decide, gw_of (tb_6 (List.mem_of_getElem? (i := 60) rfl)) rfl⟩
theorem fl_11_13 : fL "NinetyPlayersModel" 13 11 3 := ⟨_, _, _, ck_11, by decide, gw_of (tb_6 (List.mem_of_getElem? (i := 63) rfl)) rfl⟩
theorem fl_11_17 : fL "NinetyPlayersModel" 17 11 10 := ⟨_, _, _, ck_11, by decide, gw_of (tb_6 (List.mem_of_getElem? (i := 70) rfl)) rfl⟩
theorem fl_11_21 : fL "NinetyPlayersModel" 21 11 11 := ⟨_, _, _, ck_11, by decide, gw_of (tb_6 (List.mem_of_getElem? (i := 71) rfl)) rfl⟩
theorem fl_11_24 : fL "NinetyPlayersModel" 24 11 12 := ⟨_, _, _, ck_11, by decide, gw_of (tb_6 (List.mem_of_getElem? (i := 72) rfl)) rfl⟩
theorem fl_11_27 : fL "NinetyPlayersModel" 27 11 13 := ⟨_, _, _, ck_11, by decide, gw_of (tb_6 (List.mem_of_getElem? (i := 73) rfl)) rfl⟩
theorem fl_11_30 : fL "NinetyPlayersModel" 30 11 14 := ⟨_, _, _, ck_11, by decide, gw_of (tb_6 (List.mem_of_getElem? (i := 74) rfl)) rfl⟩
theorem fl_11_33 : fL "NinetyPlayersModel" 33 11 15 := ⟨_, _, _, ck_11, by decide, gw_of (tb_6 (List.mem_of_getElem? (i := 75) rfl)) rfl⟩
theorem fl_11_36 : fL "NinetyPlayersModel" 36 11 16 := ⟨_, _, _, ck_11, by decide, gw_of (tb_6 (List.mem_of_getElem? (i := 76) rfl)) rfl⟩
theorem fl_11_39 : fL "NinetyPlayersModel" 39 11 26 := ⟨_, _, _, ck_11, by decide, gw_of (tb_6 (List.mem_of_getElem? (i := 86) rfl)) rfl⟩
theorem fl_11_42 : fL "NinetyPlayersModel" 42 11 27 := ⟨_, _, _, ck_11, by decide, gw_of (tb_6 (List.mem_of_getElem? (i := 87) rfl)) rfl⟩
theorem fl_11_45 : fL "NinetyPlayersModel" 45 11 28 := ⟨_, _, _, ck_11, by decide, gw_of (tb_6 (List.mem_of_getElem? (i := 88) rfl)) rfl⟩
theorem fl_11_48 : fL "NinetyPlayersModel" 48 11 29 := ⟨_, _, _, ck_11, by decide, gw_of (tb_6 (List.mem_of_getElem? (i := 89) rfl)) rfl⟩
theorem fl_11_51 : fL "NinetyPlayersModel" 51 11 30 := ⟨_, _, _, ck_11, by decide, gw_of (tb_6 (List.mem_of_getElem? (i := 90) rfl)) rfl⟩
theorem fl_11_54 : fL "NinetyPlayersModel" 54 11 31 := ⟨_, _, _, ck_11, by decide, gw_of (tb_6 (List.mem_of_getElem? (i := 91) rfl)) rfl⟩
theorem fl_11_57 : fL "NinetyPlayersModel" 57 11 32 := ⟨_, _, _, ck_11, by decide, gw_of (tb_6 (List.mem_of_getElem? (i := 92) rfl)) rfl⟩
theorem fl_11_60 : fL "NinetyPlayersModel" 60 11 33 := ⟨_, _, _, ck_11, by decide, gw_of (tb_6 (List.mem_of_getElem? (i := 93) rfl)) rfl⟩
theorem fl_11_63 : fL "NinetyPlayersModel" 63 11 34 := ⟨_, _, _, ck_11, by decide, gw_of (tb_6 (List.mem_of_getElem? (i := 94) rfl)) rfl⟩
theorem fl_11_66 : fL "NinetyPlayersModel" 66 11 35 := ⟨_, _, _, ck_11, by decide, gw_of (tb_6 (List.mem_of_getElem? (i := 95) rfl)) rfl⟩
theorem fl_11_69 : fL "NinetyPlayersModel" 69 11 36 := ⟨_, _, _, ck_11, by decide, gw_of (tb_6 (List.mem_of_getElem? (i := 96) rfl)) rfl⟩
theorem fl_11_72 : fL "NinetyPlayersModel" 72 11 37 := ⟨_, _, _, ck_11, by decide, gw_of (tb_6 (List.mem_of_getElem? (i := 97) rfl)) rfl⟩
theorem fl_11_75 : fL "NinetyPlayersModel" 75 11 38 := ⟨_, _, _, ck_11, by decide, gw_of (tb_6 (List.mem_of_getElem? (i := 98) rfl)) rfl⟩
theorem fl_11_78 : fL "NinetyPlayersModel" 78 11 46 := ⟨_, _, _, ck_11, by decide, gw_of (tb_6 (List.mem_of_getElem? (i := 106) rfl)) rfl⟩
theorem fl_11_81 : fL "NinetyPlayersModel" 81 11 49 := ⟨_, _, _, ck_11, by decide, gw_of (tb_6 (List.mem_of_getElem? (i := 109) rfl)) rfl⟩
theorem fl_11_84 : fL "NinetyPlayersModel" 84 11 50 := ⟨_, _, _, ck_11, by decide, gw_of (tb_6 (List.mem_of_getElem? (i := 110) rfl)) rfl⟩
theorem fl_11_87 : fL "NinetyPlayersModel" 87 11 51 := ⟨_, _, _, ck_11, by decide, gw_of (tb_6 (List.mem_of_getElem? (i := 111) rfl)) rfl⟩
theorem fl_11_90 : fL "NinetyPlayersModel" 90 11 52 := ⟨_, _, _, ck_11, by decide, gw_of (tb_6 (List.mem_of_getElem? (i := 112) rfl)) rfl⟩
theorem fl_11_93 : fL "NinetyPlayersModel" 93 11 58 := ⟨_, _, _, ck_11, by decide, gw_of (tb_6 (List.mem_of_getElem? (i := 118) rfl)) rfl⟩
theorem fl_11_96 : fL "NinetyPlayersModel" 96 11 59 := ⟨_, _, _, ck_11, by decide, gw_of (tb_6 (List.mem_of_getElem? (i := 119) rfl)) rfl⟩
theorem fl_11_99 : fL "NinetyPlayersModel" 99 11 60 := ⟨_, _, _, ck_11, by decide, gw_of (tb_6 (List.mem_of_getElem? (i := 120) rfl)) rfl⟩
theorem fl_11_102 : fL "NinetyPlayersModel" 102 11 61 := ⟨_, _, _, ck_11, by decide, gw_of (tb_6 (List.mem_of_getElem? (i := 121) rfl)) rfl⟩
theorem fl_11_105 : fL "NinetyPlayersModel" 105 11 62 := ⟨_, _, _, ck_11, by decide, gw_of (tb_6 (List.mem_of_getElem? (i := 122) rfl)) rfl⟩
theorem fl_11_108 : fL "NinetyPlayersModel" 108 11 65 := ⟨_, _, _, ck_11, by decide, gw_of (tb_6 (List.mem_of_getElem? (i := 125) rfl)) rfl⟩
theorem fl_11_111 : fL "NinetyPlayersModel" 111 11 66 := ⟨_, _, _, ck_11, by decide, gw_of (tb_6 (List.mem_of_getElem? (i := 126) rfl)) rfl⟩
theorem fl_11_114 : fL "NinetyPlayersModel" 114 11 67 := ⟨_, _, _, ck_11, by decide, gw_of (tb_6 (List.mem_of_getElem? (i := 127) rfl)) rfl⟩
theorem fl_11_117 : fL "NinetyPlayersModel" 117 11 69 := ⟨_, _, _, ck_11, by decide, gw_of (tb_6 (List.mem_of_getElem? (i := 129) rfl)) rfl⟩
theorem fl_11_120 : fL "NinetyPlayersModel" 120 11 70 := ⟨_, _, _, ck_11, by decide, gw_of (tb_6 (List.mem_of_getElem? (i := 130) rfl)) rfl⟩
theorem fl_11_123 : fL "NinetyPlayersModel" 123 11 71 := ⟨_, _, _, ck_11, by decide, gw_of (tb_6 (List.mem_of_getElem? (i := 131) rfl)) rfl⟩
theorem fl_11_126 : fL "NinetyPlayersModel" 126 11 72 := ⟨_, _, _, ck_11, by decide, gw_of (tb_6 (List.mem_of_getElem? (i := 132) rfl)) rfl⟩
theorem fl_11_129 : fL "NinetyPlayersModel" 129 11 73 := ⟨_, _, _, ck_11, by decide, gw_of (tb_6 (List.mem_of_getElem? (i := 133) rfl)) rfl⟩
theorem fl_11_133 : fL "NinetyPlayersModel" 133 11 76 := ⟨_, _, _, ck_11, by decide, gw_of (tb_6 (List.mem_of_getElem? (i := 136) rfl)) rfl⟩
theorem fl_11_136 : fL "NinetyPlayersModel" 136 11 77 := ⟨_, _, _, ck_11, by decide, gw_of (tb_6 (List.mem_of_getElem? (i := 137) rfl)) rfl⟩
theorem fl_11_139 : fL "NinetyPlayersModel" 139 11 78 := ⟨_, _, _, ck_11, by decide, gw_of (tb_6 (List.mem_of_getElem? (i := 138) rfl)) rfl⟩
theorem fl_11_142 : fL "NinetyPlayersModel" 142 11 79 := ⟨_, _, _, ck_11, by decide, gw_of (tb_6 (List.mem_of_getElem? (i := 139) rfl)) rfl⟩
theorem fl_11_145 : fL "NinetyPlayersModel" 145 11 1 := ⟨_, _, _, ck_11, by decide, gw_of (tb_6 (List.mem_of_getElem? (i := 61) rfl)) rfl⟩
theorem ml_11_148 : mLV "NinetyPlayersModel" 148 m209 1 := ⟨yk_209, gw_of (tb_7 (List.mem_of_getElem? (i := 65) rfl)) rfl, gw_of (tb_7 (List.mem_of_getElem? (i := 67) rfl)) rfl, gw_sel (List.mem_of_getElem? (i := 57) rfl) rfl⟩
theorem ml_11_402 : mLV "NinetyPlayersModel" 402 m212 0 := ⟨yk_212, gw_of (tb_7 (List.mem_of_getElem? (i := 77) rfl)) rfl, gw_of (tb_7 (List.mem_of_getElem? (i := 79) rfl)) rfl, gw_sel (List.mem_of_getElem? (i := 58) rfl) rfl⟩
theorem fl_11_185 : fL "NinetyPlayersModel" 185 11 2 := ⟨_, _, _, ck_11, by decide, gw_of (tb_6 (List.mem_of_getElem? (i := 62) rfl)) rfl⟩
theorem fl_11_356 : fL "NinetyPlayersModel" 356 11 39 := ⟨_, _, _, ck_11, by decide, gw_of (tb_6 (List.mem_of_getElem? (i := 99) rfl)) rfl⟩
theorem fl_11_258 : fL "NinetyPlayersModel" 258 11 40 := ⟨_, _, _, ck_11, by decide, gw_of (tb_6 (List.mem_of_getElem? (i := 100) rfl)) rfl⟩
theorem fl_11_405 : fL "NinetyPlayersModel" 405 11 47 := ⟨_, _, _, ck_11, by decide, gw_of (tb_6 (List.mem_of_getElem? (i := 107) rfl)) rfl⟩
theorem fl_11_350 : fL "NinetyPlayersModel" 350 11 41 := ⟨_, _, _, ck_11, by decide, gw_of (tb_6 (List.mem_of_getElem? (i := 101) rfl)) rfl⟩
theorem fl_11_322 : fL "NinetyPlayersModel" 322 11 48 := ⟨_, _, _, ck_11, by decide, gw_of (tb_6 (List.mem_of_getElem? (i := 108) rfl)) rfl⟩
theorem fl_11_378 : fL "NinetyPlayersModel" 378 11 42 := ⟨_, _, _, ck_11, by decide, gw_of (tb_6 (List.mem_of_getElem? (i := 102) rfl)) rfl⟩
theorem fl_11_384 : fL "NinetyPlayersModel" 384 11 43 := ⟨_, _, _, ck_11, by decide, gw_of (tb_6 (List.mem_of_getElem? (i := 103) rfl)) rfl⟩
theorem fl_11_390 : fL "NinetyPlayersModel" 390 11 44 := ⟨_, _, _, ck_11, by decide, gw_of (tb_6 (List.mem_of_getElem? (i := 104) rfl)) rfl⟩
theorem fl_11_396 : fL "NinetyPlayersModel" 396 11 45 := ⟨_, _, _, ck_11, by decide, gw_of (tb_6 (List.mem_of_getElem? (i := 105) rfl)) rfl⟩
theorem fl_11_277 : fL "NinetyPlayersModel" 277 11 20 := ⟨_, _, _, ck_11, by decide, gw_of (tb_6 (List.mem_of_getElem? (i := 80) rfl)) rfl⟩
theorem fl_11_408 : fL "NinetyPlayersModel" 408 11 21 := ⟨_, _, _, ck_11, by decide, gw_of (tb_6 (List.mem_of_getElem? (i := 81) rfl)) rfl⟩
theorem fl_11_299 : fL "NinetyPlayersModel" 299 11 24 := ⟨_, _, _, ck_11, by decide, gw_of (tb_6 (List.mem_of_getElem? (i := 84) rfl)) rfl⟩
theorem fl_11_334 : fL "NinetyPlayersModel" 334 11 25 := ⟨_, _, _, ck_11, by decide, gw_of (tb_6 (List.mem_of_getElem? (i := 85) rfl)) rfl⟩
theorem fl_11_261 : fL "NinetyPlayersModel" 261 11 17 := ⟨_, _, _, ck_11, by decide, gw_of (tb_6 (List.mem_of_getElem? (i := 77) rfl)) rfl⟩
theorem fl_11_340 : fL "NinetyPlayersModel" 340 11 18 := ⟨_, _, _, ck_11, by decide, gw_of (tb_6 (List.mem_of_getElem? (i := 78) rfl)) rfl⟩
theorem ml_11_411 : mLV "NinetyPlayersModel" 411 m245 0 := ⟨yk_245, gw_of (tb_7 (List.mem_of_getElem? (i := 225) rfl)) rfl, gw_of (tb_7 (List.mem_of_getElem? (i := 227) rfl)) rfl, gw_sel (List.mem_of_getElem? (i := 86) rfl) rfl⟩
theorem ml_11_414 : mLV "NinetyPlayersModel" 414 m246 0 := ⟨yk_246, gw_of (tb_7 (List.mem_of_getElem? (i := 229) rfl)) rfl, gw_of (tb_7 (List.mem_of_getElem? (i := 231) rfl)) rfl, gw_sel (List.mem_of_getElem? (i := 87) rfl) rfl⟩
theorem fl_11_417 : fL "NinetyPlayersModel" 417 11 63 := ⟨_, _, _, ck_11, by decide, gw_of (tb_6 (List.mem_of_getElem? (i := 123) rfl)) rfl⟩
theorem fl_11_420 : fL "NinetyPlayersModel" 420 11 64 := ⟨_, _, _, ck_11, by decide, gw_of (tb_6 (List.mem_of_getElem? (i := 124) rfl)) rfl⟩
theorem fl_11_423 : fL "NinetyPlayersModel" 423 11 74 := ⟨_, _, _, ck_11, by decide, gw_of (tb_6 (List.mem_of_getElem? (i := 134) rfl)) rfl⟩
theorem fl_11_426 : fL "NinetyPlayersModel" 426 11 68 := ⟨_, _, _, ck_11, by decide, gw_of (tb_6 (List.mem_of_getElem? (i := 128) rfl)) rfl⟩
theorem fl_11_155 : fL "NinetyPlayersModel" 155 11 5 := ⟨_, _, _, ck_11, by decide, gw_of (tb_6 (List.mem_of_getElem? (i := 65) rfl)) rfl⟩
theorem fl_11_152 : fL "NinetyPlayersModel" 152 11 4 := ⟨_, _, _, ck_11, by decide, gw_of (tb_6 (List.mem_of_getElem? (i := 64) rfl)) rfl⟩
theorem fl_11_363 : fL "NinetyPlayersModel" 363 11 53 := ⟨_, _, _, ck_11, by decide, gw_of (tb_6 (List.mem_of_getElem? (i := 113) rfl)) rfl⟩
theorem fl_11_375 : fL "NinetyPlayersModel" 375 11 54 := ⟨_, _, _, ck_11, by decide, gw_of (tb_6 (List.mem_of_getElem? (i := 114) rfl)) rfl⟩
theorem fl_11_381 : fL "NinetyPlayersModel" 381 11 55 := ⟨_, _, _, ck_11, by decide, gw_of (tb_6 (List.mem_of_getElem? (i := 115) rfl)) rfl⟩
theorem fl_11_387 : fL "NinetyPlayersModel" 387 11 56 := ⟨_, _, _, ck_11, by decide, gw_of (tb_6 (List.mem_of_getElem? (i := 116) rfl)) rfl⟩
theorem fl_11_393 : fL "NinetyPlayersModel" 393 11 57 := ⟨_, _, _, ck_11, by decide, gw_of (tb_6 (List.mem_of_getElem? (i := 117) rfl)) rfl⟩
theorem ml_11_241 : mLV "NinetyPlayersModel" 241 m213 0 := ⟨yk_213, gw_of (tb_7 (List.mem_of_getElem? (i := 81) rfl)) rfl, gw_of (tb_7 (List.mem_of_getElem? (i := 83) rfl)) rfl, gw_sel (List.mem_of_getElem? (i := 59) rfl) rfl⟩
theorem fl_11_172 : fL "NinetyPlayersModel" 172 11 6 := ⟨_, _, _, ck_11, by decide, gw_of (tb_6 (List.mem_of_getElem? (i := 66) rfl)) rfl⟩
theorem ml_11_399 : mLV "NinetyPlayersModel" 399 m218 0 := ⟨yk_218, gw_of (tb_7 (List.mem_of_getElem? (i := 98) rfl)) rfl, gw_of (tb_7 (List.mem_of_getElem? (i := 100) rfl)) rfl, gw_sel (List.mem_of_getElem? (i := 61) rfl) rfl⟩
theorem ml_11_158 : mLV "NinetyPlayersModel" 158 m214 1 := ⟨yk_214, gw_of (tb_7 (List.mem_of_getElem? (i := 85) rfl)) rfl, gw_of (tb_7 (List.mem_of_getElem? (i := 87) rfl)) rfl, gw_sel (List.mem_of_getElem? (i := 60) rfl) rfl⟩
theorem fl_11_162 : fL "NinetyPlayersModel" 162 11 7 := ⟨_, _, _, ck_11, by decide, gw_of (tb_6 (List.mem_of_getElem? (i := 67) rfl)) rfl⟩
theorem fl_11_165 : fL "NinetyPlayersModel" 165 11 9 := ⟨_, _, _, ck_11, by decide, gw_of (tb_6 (List.mem_of_getElem? (i := 69) rfl)) rfl⟩
theorem fl_11_169 : fL "NinetyPlayersModel" 169 11 8 := ⟨_, _, _, ck_11, by decide, gw_of (tb_6 (List.mem_of_getElem? (i := 68) rfl)) rfl⟩
theorem ml_11_175 : mLS "NinetyPlayersModel" 175 m215 1 := ⟨yk_215, gw_of (tb_7 (List.mem_of_getElem? (i := 89) rfl)) rfl, gw_of (tb_7 (List.mem_of_getElem? (i := 90) rfl)) rfl⟩
theorem ml_11_179 : mLS "NinetyPlayersModel" 179 m216 1 := ⟨yk_216, gw_of (tb_7 (List.mem_of_getElem? (i := 92) rfl)) rfl, gw_of (tb_7 (List.mem_of_getElem? (i := 93) rfl)) rfl⟩
theorem ml_11_182 : mLS "NinetyPlayersModel" 182 m217 1 := ⟨yk_217, gw_of (tb_7 (List.mem_of_getElem? (i := 95) rfl)) rfl, gw_of (tb_7 (List.mem_of_getElem? (i := 96) rfl)) rfl⟩
theorem kc_11_188 : Cond.constantLong "NinetyPlayersModel" 188 422607680627 ∈ GW := gw_of (tb_7 (List.mem_of_getElem? (i := 102) rfl)) rfl
theorem ml_11_234 : mLV "NinetyPlayersModel" 234 m219 1 := ⟨yk_219, gw_of (tb_7 (List.mem_of_getElem? (i := 103) rfl)) rfl, gw_of (tb_7 (List.mem_of_getElem? (i := 105) rfl)) rfl, gw_sel (List.mem_of_getElem? (i := 62) rfl) rfl⟩
theorem ml_11_359 : mLV "NinetyPlayersModel" 359 m220 3 := ⟨yk_220, gw_of (tb_7 (List.mem_of_getElem? (i := 107) rfl)) rfl, gw_of (tb_7 (List.mem_of_getElem? (i := 109) rfl)) rfl, gw_sel (List.mem_of_getElem? (i := 63) rfl) rfl⟩
theorem kc_11_190 : Cond.constantLong "NinetyPlayersModel" 190 1885434484 ∈ GW := gw_of (tb_7 (List.mem_of_getElem? (i := 123) rfl)) rfl
theorem ml_11_366 : mLV "NinetyPlayersModel" 366 m224 0 := ⟨yk_224, gw_of (tb_7 (List.mem_of_getElem? (i := 124) rfl)) rfl, gw_of (tb_7 (List.mem_of_getElem? (i := 126) rfl)) rfl, gw_sel (List.mem_of_getElem? (i := 67) rfl) rfl⟩
theorem kc_11_196 : Cond.constantLong "NinetyPlayersModel" 196 1852798053 ∈ GW := gw_of (tb_7 (List.mem_of_getElem? (i := 142) rfl)) rfl
theorem ml_11_369 : mLV "NinetyPlayersModel" 369 m230 0 := ⟨yk_230, gw_of (tb_7 (List.mem_of_getElem? (i := 166) rfl)) rfl, gw_of (tb_7 (List.mem_of_getElem? (i := 168) rfl)) rfl, gw_sel (List.mem_of_getElem? (i := 72) rfl) rfl⟩
theorem kc_11_208 : Cond.constantLong "NinetyPlayersModel" 208 120299675936100 ∈ GW := gw_of (tb_7 (List.mem_of_getElem? (i := 148) rfl)) rfl
theorem ml_11_372 : mLV "NinetyPlayersModel" 372 m232 0 := ⟨yk_232, gw_of (tb_7 (List.mem_of_getElem? (i := 174) rfl)) rfl, gw_of (tb_7 (List.mem_of_getElem? (i := 176) rfl)) rfl, gw_sel (List.mem_of_getElem? (i := 74) rfl) rfl⟩
theorem kc_11_210 : Cond.constantLong "NinetyPlayersModel" 210 1936744814 ∈ GW := gw_of (tb_7 (List.mem_of_getElem? (i := 149) rfl)) rfl
theorem kc_11_212 : Cond.constantLong "NinetyPlayersModel" 212 28826370526507635 ∈ GW := gw_of (tb_7 (List.mem_of_getElem? (i := 150) rfl)) rfl
theorem kc_11_214 : Cond.constantLong "NinetyPlayersModel" 214 1818583408 ∈ GW := gw_of (tb_7 (List.mem_of_getElem? (i := 151) rfl)) rfl
theorem kc_11_216 : Cond.constantLong "NinetyPlayersModel" 216 6644082 ∈ GW := gw_of (tb_7 (List.mem_of_getElem? (i := 152) rfl)) rfl
theorem ml_11_238 : mLV "NinetyPlayersModel" 238 m222 1 := ⟨yk_222, gw_of (tb_7 (List.mem_of_getElem? (i := 115) rfl)) rfl, gw_of (tb_7 (List.mem_of_getElem? (i := 117) rfl)) rfl, gw_sel (List.mem_of_getElem? (i := 65) rfl) rfl⟩
theorem ml_11_244 : mLV "NinetyPlayersModel" 244 m221 1 := ⟨yk_221, gw_of (tb_7 (List.mem_of_getElem? (i := 111) rfl)) rfl, gw_of (tb_7 (List.mem_of_getElem? (i := 113) rfl)) rfl, gw_sel (List.mem_of_getElem? (i := 64) rfl) rfl⟩
theorem ml_11_248 : mLV "NinetyPlayersModel" 248 m223 2 := ⟨yk_223, gw_of (tb_7 (List.mem_of_getElem? (i := 119) rfl)) rfl, gw_of (tb_7 (List.mem_of_getElem? (i := 121) rfl)) rfl, gw_sel (List.mem_of_getElem? (i := 66) rfl) rfl⟩
theorem ml_11_347 : mLV "NinetyPlayersModel" 347 m225 2 := ⟨yk_225, gw_of (tb_7 (List.mem_of_getElem? (i := 128) rfl)) rfl, gw_of (tb_7 (List.mem_of_getElem? (i := 130) rfl)) rfl, gw_sel (List.mem_of_getElem? (i := 68) rfl) rfl⟩
theorem kc_11_192 : Cond.constantLong "NinetyPlayersModel" 192 1953853029 ∈ GW := gw_of (tb_7 (List.mem_of_getElem? (i := 140) rfl)) rfl
theorem kc_11_194 : Cond.constantLong "NinetyPlayersModel" 194 1650553715 ∈ GW := gw_of (tb_7 (List.mem_of_getElem? (i := 141) rfl)) rfl
theorem ml_11_318 : mLS "NinetyPlayersModel" 318 m229 1 := ⟨yk_229, gw_of (tb_7 (List.mem_of_getElem? (i := 163) rfl)) rfl, gw_of (tb_7 (List.mem_of_getElem? (i := 164) rfl)) rfl⟩
theorem ml_11_252 : mLV "NinetyPlayersModel" 252 m226 0 := ⟨yk_226, gw_of (tb_7 (List.mem_of_getElem? (i := 132) rfl)) rfl, gw_of (tb_7 (List.mem_of_getElem? (i := 134) rfl)) rfl, gw_sel (List.mem_of_getElem? (i := 69) rfl) rfl⟩
theorem ml_11_255 : mLV "NinetyPlayersModel" 255 m228 2 := ⟨yk_228, gw_of (tb_7 (List.mem_of_getElem? (i := 159) rfl)) rfl, gw_of (tb_7 (List.mem_of_getElem? (i := 161) rfl)) rfl, gw_sel (List.mem_of_getElem? (i := 71) rfl) rfl⟩
theorem ml_11_230 : mLV "NinetyPlayersModel" 230 m227 0 := ⟨yk_227, gw_of (tb_7 (List.mem_of_getElem? (i := 136) rfl)) rfl, gw_of (tb_7 (List.mem_of_getElem? (i := 138) rfl)) rfl, gw_sel (List.mem_of_getElem? (i := 70) rfl) rfl⟩
theorem kc_11_198 : Cond.constantLong "NinetyPlayersModel" 198 28518 ∈ GW := gw_of (tb_7 (List.mem_of_getElem? (i := 143) rfl)) rfl
theorem kc_11_200 : Cond.constantLong "NinetyPlayersModel" 200 24948 ∈ GW := gw_of (tb_7 (List.mem_of_getElem? (i := 144) rfl)) rfl
theorem kc_11_202 : Cond.constantLong "NinetyPlayersModel" 202 7038329 ∈ GW := gw_of (tb_7 (List.mem_of_getElem? (i := 145) rfl)) rfl
theorem kc_11_204 : Cond.constantLong "NinetyPlayersModel" 204 1819242087 ∈ GW := gw_of (tb_7 (List.mem_of_getElem? (i := 146) rfl)) rfl
theorem kc_11_206 : Cond.constantLong "NinetyPlayersModel" 206 1819243876 ∈ GW := gw_of (tb_7 (List.mem_of_getElem? (i := 147) rfl)) rfl
theorem kc_11_218 : Cond.constantLong "NinetyPlayersModel" 218 1919904869 ∈ GW := gw_of (tb_7 (List.mem_of_getElem? (i := 153) rfl)) rfl
theorem kc_11_220 : Cond.constantLong "NinetyPlayersModel" 220 28270047624193380 ∈ GW := gw_of (tb_7 (List.mem_of_getElem? (i := 154) rfl)) rfl
theorem kc_11_222 : Cond.constantLong "NinetyPlayersModel" 222 1650811252 ∈ GW := gw_of (tb_7 (List.mem_of_getElem? (i := 155) rfl)) rfl
theorem kc_11_224 : Cond.constantLong "NinetyPlayersModel" 224 6385252 ∈ GW := gw_of (tb_7 (List.mem_of_getElem? (i := 156) rfl)) rfl
theorem kc_11_226 : Cond.constantLong "NinetyPlayersModel" 226 28530 ∈ GW := gw_of (tb_7 (List.mem_of_getElem? (i := 157) rfl)) rfl
theorem kc_11_228 : Cond.constantLong "NinetyPlayersModel" 228 7237492 ∈ GW := gw_of (tb_7 (List.mem_of_getElem? (i := 158) rfl)) rfl
theorem ml_11_353 : mLV "NinetyPlayersModel" 353 m231 0 := ⟨yk_231, gw_of (tb_7 (List.mem_of_getElem? (i := 170) rfl)) rfl, gw_of (tb_7 (List.mem_of_getElem? (i := 172) rfl)) rfl, gw_sel (List.mem_of_getElem? (i := 73) rfl) rfl⟩
theorem fl_11_264 : fL "NinetyPlayersModel" 264 11 19 := ⟨_, _, _, ck_11, by decide, gw_of (tb_6 (List.mem_of_getElem? (i := 79) rfl)) rfl⟩
theorem fl_11_274 : fL "NinetyPlayersModel" 274 11 23 := ⟨_, _, _, ck_11, by decide, gw_of (tb_6 (List.mem_of_getElem? (i := 83) rfl)) rfl⟩
theorem fl_11_280 : fL "NinetyPlayersModel" 280 11 22 := ⟨_, _, _, ck_11, by decide, gw_of (tb_6 (List.mem_of_getElem? (i := 82) rfl)) rfl⟩
theorem ml_11_303 : mLV "NinetyPlayersModel" 303 m233 0 := ⟨yk_233, gw_of (tb_7 (List.mem_of_getElem? (i := 178) rfl)) rfl, gw_of (tb_7 (List.mem_of_getElem? (i := 180) rfl)) rfl, gw_sel (List.mem_of_getElem? (i := 75) rfl) rfl⟩
theorem ml_11_306 : mLV "NinetyPlayersModel" 306 m241 0 := ⟨yk_241, gw_of (tb_7 (List.mem_of_getElem? (i := 209) rfl)) rfl, gw_of (tb_7 (List.mem_of_getElem? (i := 211) rfl)) rfl, gw_sel (List.mem_of_getElem? (i := 82) rfl) rfl⟩
theorem ml_11_309 : mLV "NinetyPlayersModel" 309 m242 0 := ⟨yk_242, gw_of (tb_7 (List.mem_of_getElem? (i := 213) rfl)) rfl, gw_of (tb_7 (List.mem_of_getElem? (i := 215) rfl)) rfl, gw_sel (List.mem_of_getElem? (i := 83) rfl) rfl⟩
theorem ml_11_312 : mLV "NinetyPlayersModel" 312 m243 1 := ⟨yk_243, gw_of (tb_7 (List.mem_of_getElem? (i := 217) rfl)) rfl, gw_of (tb_7 (List.mem_of_getElem? (i := 219) rfl)) rfl, gw_sel (List.mem_of_getElem? (i := 84) rfl) rfl⟩
theorem ml_11_267 : mLS "NinetyPlayersModel" 267 m235 1 := ⟨yk_235, gw_of (tb_7 (List.mem_of_getElem? (i := 186) rfl)) rfl, gw_of (tb_7 (List.mem_of_getElem? (i := 187) rfl)) rfl⟩
theorem ml_11_315 : mLV "NinetyPlayersModel" 315 m244 0 := ⟨yk_244, gw_of (tb_7 (List.mem_of_getElem? (i := 221) rfl)) rfl, gw_of (tb_7 (List.mem_of_getElem? (i := 223) rfl)) rfl, gw_sel (List.mem_of_getElem? (i := 85) rfl) rfl⟩
theorem ml_11_283 : mLV "NinetyPlayersModel" 283 m234 0 := ⟨yk_234, gw_of (tb_7 (List.mem_of_getElem? (i := 182) rfl)) rfl, gw_of (tb_7 (List.mem_of_getElem? (i := 184) rfl)) rfl, gw_sel (List.mem_of_getElem? (i := 76) rfl) rfl⟩
theorem ml_11_286 : mLV "NinetyPlayersModel" 286 m236 1 := ⟨yk_236, gw_of (tb_7 (List.mem_of_getElem? (i := 189) rfl)) rfl, gw_of (tb_7 (List.mem_of_getElem? (i := 191) rfl)) rfl, gw_sel (List.mem_of_getElem? (i := 77) rfl) rfl⟩
theorem ml_11_289 : mLV "NinetyPlayersModel" 289 m237 0 := ⟨yk_237, gw_of (tb_7 (List.mem_of_getElem? (i := 193) rfl)) rfl, gw_of (tb_7 (List.mem_of_getElem? (i := 195) rfl)) rfl, gw_sel (List.mem_of_getElem? (i := 78) rfl) rfl⟩
theorem ml_11_292 : mLV "NinetyPlayersModel" 292 m238 0 := ⟨yk_238, gw_of (tb_7 (List.mem_of_getElem? (i := 197) rfl)) rfl, gw_of (tb_7 (List.mem_of_getElem? (i := 199) rfl)) rfl, gw_sel (List.mem_of_getElem? (i := 79) rfl) rfl⟩
theorem ml_11_295 : mLV "NinetyPlayersModel" 295 m239 0 := ⟨yk_239, gw_of (tb_7 (List.mem_of_getElem? (i := 201) rfl)) rfl, gw_of (tb_7 (List.mem_of_getElem? (i := 203) rfl)) rfl, gw_sel (List.mem_of_getElem? (i := 80) rfl) rfl⟩
theorem ml_11_270 : mLV "NinetyPlayersModel" 270 m240 2 := ⟨yk_240, gw_of (tb_7 (List.mem_of_getElem? (i := 205) rfl)) rfl, gw_of (tb_7 (List.mem_of_getElem? (i := 207) rfl)) rfl, gw_sel (List.mem_of_getElem? (i := 81) rfl) rfl⟩
theorem ml_11_461 : mLV "NinetyPlayersModel" 461 m249 1 := ⟨yk_249, gw_of (tb_8 (List.mem_of_getElem? (i := 1) rfl)) rfl, gw_of (tb_8 (List.mem_of_getElem? (i := 3) rfl)) rfl, gw_sel (List.mem_of_getElem? (i := 88) rfl) rfl⟩
theorem ml_11_464 : mLV "NinetyPlayersModel" 464 m251 0 := ⟨yk_251, gw_of (tb_8 (List.mem_of_getElem? (i := 8) rfl)) rfl, gw_of (tb_8 (List.mem_of_getElem? (i := 10) rfl)) rfl, gw_sel (List.mem_of_getElem? (i := 89) rfl) rfl⟩
theorem ml_11_467 : mLV "NinetyPlayersModel" 467 m253 1 := ⟨yk_253, gw_of (tb_8 (List.mem_of_getElem? (i := 16) rfl)) rfl, gw_of (tb_8 (List.mem_of_getElem? (i := 18) rfl)) rfl, gw_sel (List.mem_of_getElem? (i := 91) rfl) rfl⟩
theorem ml_11_328 : mLV "NinetyPlayersModel" 328 m254 1 := ⟨yk_254, gw_of (tb_8 (List.mem_of_getElem? (i := 20) rfl)) rfl, gw_of (tb_8 (List.mem_of_getElem? (i := 22) rfl)) rfl, gw_sel (List.mem_of_getElem? (i := 92) rfl) rfl⟩
theorem ml_11_429 : mLS "NinetyPlayersModel" 429 m250 3 := ⟨yk_250, gw_of (tb_8 (List.mem_of_getElem? (i := 5) rfl)) rfl, gw_of (tb_8 (List.mem_of_getElem? (i := 6) rfl)) rfl⟩
theorem ml_11_433 : mLV "NinetyPlayersModel" 433 m252 0 := ⟨yk_252, gw_of (tb_8 (List.mem_of_getElem? (i := 12) rfl)) rfl, gw_of (tb_8 (List.mem_of_getElem? (i := 14) rfl)) rfl, gw_sel (List.mem_of_getElem? (i := 90) rfl) rfl⟩
theorem ml_11_331 : mLS "NinetyPlayersModel" 331 m256 1 := ⟨yk_256, gw_of (tb_8 (List.mem_of_getElem? (i := 27) rfl)) rfl, gw_of (tb_8 (List.mem_of_getElem? (i := 28) rfl)) rfl⟩
theorem ml_11_337 : mLS "NinetyPlayersModel" 337 m257 2 := ⟨yk_257, gw_of (tb_8 (List.mem_of_getElem? (i := 30) rfl)) rfl, gw_of (tb_8 (List.mem_of_getElem? (i := 31) rfl)) rfl⟩
theorem ml_11_343 : mLS "NinetyPlayersModel" 343 m258 3 := ⟨yk_258, gw_of (tb_8 (List.mem_of_getElem? (i := 33) rfl)) rfl, gw_of (tb_8 (List.mem_of_getElem? (i := 34) rfl)) rfl⟩
theorem ml_11_325 : mLS "NinetyPlayersModel" 325 m255 1 := ⟨yk_255, gw_of (tb_8 (List.mem_of_getElem? (i := 24) rfl)) rfl, gw_of (tb_8 (List.mem_of_getElem? (i := 25) rfl)) rfl⟩
theorem ml_11_470 : mLV "NinetyPlayersModel" 470 m260 1 := ⟨yk_260, gw_of (tb_8 (List.mem_of_getElem? (i := 40) rfl)) rfl, gw_of (tb_8 (List.mem_of_getElem? (i := 42) rfl)) rfl, gw_sel (List.mem_of_getElem? (i := 93) rfl) rfl⟩
theorem ml_11_454 : mLV "NinetyPlayersModel" 454 m261 1 := ⟨yk_261, gw_of (tb_8 (List.mem_of_getElem? (i := 44) rfl)) rfl, gw_of (tb_8 (List.mem_of_getElem? (i := 46) rfl)) rfl, gw_sel (List.mem_of_getElem? (i := 94) rfl) rfl⟩
theorem ml_11_473 : mLV "NinetyPlayersModel" 473 m263 1 := ⟨yk_263, gw_of (tb_8 (List.mem_of_getElem? (i := 52) rfl)) rfl, gw_of (tb_8 (List.mem_of_getElem? (i := 54) rfl)) rfl, gw_sel (List.mem_of_getElem? (i := 95) rfl) rfl⟩
theorem ml_11_476 : mLS "NinetyPlayersModel" 476 m264 1 := ⟨yk_264, gw_of (tb_8 (List.mem_of_getElem? (i := 56) rfl)) rfl, gw_of (tb_8 (List.mem_of_getElem? (i := 57) rfl)) rfl⟩
theorem ml_11_479 : mLV "NinetyPlayersModel" 479 m266 0 := ⟨yk_266, gw_of (tb_8 (List.mem_of_getElem? (i := 63) rfl)) rfl, gw_of (tb_8 (List.mem_of_getElem? (i := 65) rfl)) rfl, gw_sel (List.mem_of_getElem? (i := 96) rfl) rfl⟩
theorem ml_11_450 : mLV "NinetyPlayersModel" 450 m268 5 := ⟨yk_268, gw_of (tb_8 (List.mem_of_getElem? (i := 71) rfl)) rfl, gw_of (tb_8 (List.mem_of_getElem? (i := 73) rfl)) rfl, gw_sel (List.mem_of_getElem? (i := 97) rfl) rfl⟩
theorem ml_11_443 : mLV "NinetyPlayersModel" 443 m269 4 := ⟨yk_269, gw_of (tb_8 (List.mem_of_getElem? (i := 75) rfl)) rfl, gw_of (tb_8 (List.mem_of_getElem? (i := 77) rfl)) rfl, gw_sel (List.mem_of_getElem? (i := 98) rfl) rfl⟩
theorem ml_11_440 : mLV "NinetyPlayersModel" 440 m271 1 := ⟨yk_271, gw_of (tb_8 (List.mem_of_getElem? (i := 84) rfl)) rfl, gw_of (tb_8 (List.mem_of_getElem? (i := 86) rfl)) rfl, gw_sel (List.mem_of_getElem? (i := 100) rfl) rfl⟩
theorem ml_11_437 : mLV "NinetyPlayersModel" 437 m270 1 := ⟨yk_270, gw_of (tb_8 (List.mem_of_getElem? (i := 79) rfl)) rfl, gw_of (tb_8 (List.mem_of_getElem? (i := 81) rfl)) rfl, gw_sel (List.mem_of_getElem? (i := 99) rfl) rfl⟩
theorem ml_11_447 : mLV "NinetyPlayersModel" 447 m272 1 := ⟨yk_272, gw_of (tb_8 (List.mem_of_getElem? (i := 88) rfl)) rfl, gw_of (tb_8 (List.mem_of_getElem? (i := 90) rfl)) rfl, gw_sel (List.mem_of_getElem? (i := 101) rfl) rfl⟩
theorem kc_11_436 : Cond.constant "NinetyPlayersModel" 436 1000000 ∈ GW := gw_of (tb_8 (List.mem_of_getElem? (i := 83) rfl)) rfl
theorem ml_11_482 : mLV "NinetyPlayersModel" 482 m274 1 := ⟨yk_274, gw_of (tb_8 (List.mem_of_getElem? (i := 96) rfl)) rfl, gw_of (tb_8 (List.mem_of_getElem? (i := 98) rfl)) rfl, gw_sel (List.mem_of_getElem? (i := 102) rfl) rfl⟩
theorem ml_11_485 : mLV "NinetyPlayersModel" 485 m276 0 := ⟨yk_276, gw_of (tb_8 (List.mem_of_getElem? (i := 104) rfl)) rfl, gw_of (tb_8 (List.mem_of_getElem? (i := 106) rfl)) rfl, gw_sel (List.mem_of_getElem? (i := 103) rfl) rfl⟩
theorem ml_11_488 : mLV "NinetyPlayersModel" 488 m273 0 := ⟨yk_273, gw_of (tb_8 (List.mem_of_getElem? (i := 108) rfl)) rfl, gw_of (tb_8 (List.mem_of_getElem? (i := 93) rfl)) rfl, gw_of (tb_8 (List.mem_of_getElem? (i := 94) rfl)) rfl⟩
theorem ml_11_491 : mLV "NinetyPlayersModel" 491 m279 2 := ⟨yk_279, gw_of (tb_8 (List.mem_of_getElem? (i := 117) rfl)) rfl, gw_of (tb_8 (List.mem_of_getElem? (i := 119) rfl)) rfl, gw_sel (List.mem_of_getElem? (i := 104) rfl) rfl⟩
theorem ml_11_494 : mLV "NinetyPlayersModel" 494 m283 1 := ⟨yk_283, gw_of (tb_8 (List.mem_of_getElem? (i := 133) rfl)) rfl, gw_of (tb_8 (List.mem_of_getElem? (i := 135) rfl)) rfl, gw_sel (List.mem_of_getElem? (i := 105) rfl) rfl⟩
theorem ml_11_497 : mLV "NinetyPlayersModel" 497 m286 0 := ⟨yk_286, gw_of (tb_8 (List.mem_of_getElem? (i := 145) rfl)) rfl, gw_of (tb_8 (List.mem_of_getElem? (i := 147) rfl)) rfl, gw_sel (List.mem_of_getElem? (i := 106) rfl) rfl⟩
theorem ml_11_500 : mLV "NinetyPlayersModel" 500 m287 1 := ⟨yk_287, gw_of (tb_8 (List.mem_of_getElem? (i := 149) rfl)) rfl, gw_of (tb_8 (List.mem_of_getElem? (i := 151) rfl)) rfl, gw_sel (List.mem_of_getElem? (i := 107) rfl) rfl⟩
theorem ml_11_512 : mLV "NinetyPlayersModel" 512 m289 2 := ⟨yk_289, gw_of (tb_8 (List.mem_of_getElem? (i := 157) rfl)) rfl, gw_of (tb_8 (List.mem_of_getElem? (i := 159) rfl)) rfl, gw_sel (List.mem_of_getElem? (i := 108) rfl) rfl⟩
theorem ml_11_503 : mLS "NinetyPlayersModel" 503 m290 2 := ⟨yk_290, gw_of (tb_8 (List.mem_of_getElem? (i := 161) rfl)) rfl, gw_of (tb_8 (List.mem_of_getElem? (i := 162) rfl)) rfl⟩
theorem ml_11_506 : mLV "NinetyPlayersModel" 506 m291 1 := ⟨yk_291, gw_of (tb_8 (List.mem_of_getElem? (i := 164) rfl)) rfl, gw_of (tb_8 (List.mem_of_getElem? (i := 166) rfl)) rfl, gw_sel (List.mem_of_getElem? (i := 109) rfl) rfl⟩
theorem ml_11_509 : mLV "NinetyPlayersModel" 509 m292 1 := ⟨yk_292, gw_of (tb_8 (List.mem_of_getElem? (i := 168) rfl)) rfl, gw_of (tb_8 (List.mem_of_getElem? (i := 170) rfl)) rfl, gw_sel (List.mem_of_getElem? (i := 110) rfl) rfl⟩
theorem ml_11_457 : mLV "NinetyPlayersModel" 457 m293 4 := ⟨yk_293, gw_of (tb_8 (List.mem_of_getElem? (i := 172) rfl)) rfl, gw_of (tb_8 (List.mem_of_getElem? (i := 174) rfl)) rfl, gw_sel (List.mem_of_getElem? (i := 111) rfl) rfl⟩
theorem ml_11_515 : mLV "NinetyPlayersModel" 515 m296 1 := ⟨yk_296, gw_of (tb_8 (List.mem_of_getElem? (i := 184) rfl)) rfl, gw_of (tb_8 (List.mem_of_getElem? (i := 186) rfl)) rfl, gw_sel (List.mem_of_getElem? (i := 112) rfl) rfl⟩
theorem ml_11_518 : mLV "NinetyPlayersModel" 518 m297 2 := ⟨yk_297, gw_of (tb_8 (List.mem_of_getElem? (i := 188) rfl)) rfl, gw_of (tb_8 (List.mem_of_getElem? (i := 190) rfl)) rfl, gw_sel (List.mem_of_getElem? (i := 113) rfl) rfl⟩
theorem ml_11_524 : mLV "NinetyPlayersModel" 524 m301 3 := ⟨yk_301, gw_of (tb_8 (List.mem_of_getElem? (i := 204) rfl)) rfl, gw_of (tb_8 (List.mem_of_getElem? (i := 206) rfl)) rfl, gw_sel (List.mem_of_getElem? (i := 114) rfl) rfl⟩
theorem ml_11_521 : mLV "NinetyPlayersModel" 521 m302 0 := ⟨yk_302, gw_of (tb_8 (List.mem_of_getElem? (i := 208) rfl)) rfl, gw_of (tb_8 (List.mem_of_getElem? (i := 210) rfl)) rfl, gw_sel (List.mem_of_getElem? (i := 115) rfl) rfl⟩
theorem ml_11_527 : mLS "NinetyPlayersModel" 527 m305 2 := ⟨yk_305, gw_of (tb_8 (List.mem_of_getElem? (i := 220) rfl)) rfl, gw_of (tb_8 (List.mem_of_getElem? (i := 221) rfl)) rfl⟩
theorem ml_11_530 : mLV "NinetyPlayersModel" 530 m309 3 := ⟨yk_309, gw_of (tb_8 (List.mem_of_getElem? (i := 235) rfl)) rfl, gw_of (tb_8 (List.mem_of_getElem? (i := 237) rfl)) rfl, gw_sel (List.mem_of_getElem? (i := 116) rfl) rfl⟩
theorem ml_11_533 : mLV "NinetyPlayersModel" 533 m311 1 := ⟨yk_311, gw_of (tb_9 (List.mem_of_getElem? (i := 3) rfl)) rfl, gw_of (tb_9 (List.mem_of_getElem? (i := 5) rfl)) rfl, gw_sel (List.mem_of_getElem? (i := 117) rfl) rfl⟩
theorem ml_11_536 : mLV "NinetyPlayersModel" 536 m313 0 := ⟨yk_313, gw_of (tb_9 (List.mem_of_getElem? (i := 11) rfl)) rfl, gw_of (tb_9 (List.mem_of_getElem? (i := 13) rfl)) rfl, gw_sel (List.mem_of_getElem? (i := 118) rfl) rfl⟩
theorem fl_11_539 : fL "NinetyPlayersModel" 539 11 75 := ⟨_, _, _, ck_11, by decide, gw_of (tb_6 (List.mem_of_getElem? (i := 135) rfl)) rfl⟩
theorem kc_11_542 : Cond.constant "NinetyPlayersModel" 542 100000 ∈ GW := gw_of (tb_9 (List.mem_of_getElem? (i := 51) rfl)) rfl
theorem ml_11_550 : mLV "NinetyPlayersModel" 550 m324 1 := ⟨yk_324, gw_of (tb_9 (List.mem_of_getElem? (i := 56) rfl)) rfl, gw_of (tb_9 (List.mem_of_getElem? (i := 58) rfl)) rfl, gw_sel (List.mem_of_getElem? (i := 119) rfl) rfl⟩
theorem ml_11_543 : mLV "NinetyPlayersModel" 543 m325 1 := ⟨yk_325, gw_of (tb_9 (List.mem_of_getElem? (i := 60) rfl)) rfl, gw_of (tb_9 (List.mem_of_getElem? (i := 62) rfl)) rfl, gw_sel (List.mem_of_getElem? (i := 120) rfl) rfl⟩
theorem ml_11_546 : mLV "NinetyPlayersModel" 546 m326 2 := ⟨yk_326, gw_of (tb_9 (List.mem_of_getElem? (i := 64) rfl)) rfl, gw_of (tb_9 (List.mem_of_getElem? (i := 66) rfl)) rfl, gw_sel (List.mem_of_getElem? (i := 121) rfl) rfl⟩
theorem ml_11_553 : mLS "NinetyPlayersModel" 553 m330 1 := ⟨yk_330, gw_of (tb_9 (List.mem_of_getElem? (i := 80) rfl)) rfl, gw_of (tb_9 (List.mem_of_getElem? (i := 81) rfl)) rfl⟩
theorem ml_11_556 : mLV "NinetyPlayersModel" 556 m331 0 := ⟨yk_331, gw_of (tb_9 (List.mem_of_getElem? (i := 83) rfl)) rfl, gw_of (tb_9 (List.mem_of_getElem? (i := 85) rfl)) rfl, gw_sel (List.mem_of_getElem? (i := 122) rfl) rfl⟩
theorem fl_16_9 : Cond.fieldLink "java/lang/String" 9 "java/lang/String" "value" "[B" ∈ GW := gw_of (tb_9 (List.mem_of_getElem? (i := 99) rfl)) rfl
theorem fl_16_15 : Cond.fieldLink "java/lang/String" 15 "java/lang/String" "coder" "B" ∈ GW := gw_of (tb_9 (List.mem_of_getElem? (i := 100) rfl)) rfl
theorem fl_16_38 : Cond.fieldLink "java/lang/String" 38 "java/lang/String" "COMPACT_STRINGS" "Z" ∈ GW := gw_of (tb_3 (List.mem_of_getElem? (i := 61) rfl)) rfl
theorem fl_16_1053 : Cond.fieldLink "java/lang/String" 1053 "jdk/internal/util/Preconditions" "SIOOBE_FORMATTER" "Ljava/util/function/BiFunction;" ∈ GW := gw_of (tb_3 (List.mem_of_getElem? (i := 77) rfl)) rfl
theorem ic_m8 : Int32.ofInt (-8) = (-8 : Int32) := by decide +kernel
theorem ic_m1 : Int32.ofInt (-1) = (-1 : Int32) := by decide +kernel
theorem ic_0 : Int32.ofInt (0) = (0 : Int32) := by decide +kernel
theorem ic_1 : Int32.ofInt (1) = (1 : Int32) := by decide +kernel
theorem ic_2 : Int32.ofInt (2) = (2 : Int32) := by decide +kernel
theorem ic_3 : Int32.ofInt (3) = (3 : Int32) := by decide +kernel
theorem ic_4 : Int32.ofInt (4) = (4 : Int32) := by decide +kernel
theorem ic_5 : Int32.ofInt (5) = (5 : Int32) := by decide +kernel
theorem ic_6 : Int32.ofInt (6) = (6 : Int32) := by decide +kernel
theorem bp_m100 : (Int8.ofInt (-100)).toInt32 = (-100 : Int32) := by decide +kernel
theorem bp_m14 : (Int8.ofInt (-14)).toInt32 = (-14 : Int32) := by decide +kernel
theorem bp_m13 : (Int8.ofInt (-13)).toInt32 = (-13 : Int32) := by decide +kernel
theorem bp_m12 : (Int8.ofInt (-12)).toInt32 = (-12 : Int32) := by decide +kernel
theorem bp_m7 : (Int8.ofInt (-7)).toInt32 = (-7 : Int32) := by decide +kernel
theorem bp_m2 : (Int8.ofInt (-2)).toInt32 = (-2 : Int32) := by decide +kernel
theorem bp_6 : (Int8.ofInt (6)).toInt32 = (6 : Int32) := by decide +kernel
theorem bp_7 : (Int8.ofInt (7)).toInt32 = (7 : Int32) := by decide +kernel
theorem bp_8 : (Int8.ofInt (8)).toInt32 = (8 : Int32) := by decide +kernel
theorem bp_9 : (Int8.ofInt (9)).toInt32 = (9 : Int32) := by decide +kernel
theorem bp_10 : (Int8.ofInt (10)).toInt32 = (10 : Int32) := by decide +kernel
theorem bp_11 : (Int8.ofInt (11)).toInt32 = (11 : Int32) := by decide +kernel
theorem bp_12 : (Int8.ofInt (12)).toInt32 = (12 : Int32) := by decide +kernel
theorem bp_13 : (Int8.ofInt (13)).toInt32 = (13 : Int32) := by decide +kernel
theorem bp_14 : (Int8.ofInt (14)).toInt32 = (14 : Int32) := by decide +kernel
theorem bp_15 : (Int8.ofInt (15)).toInt32 = (15 : Int32) := by decide +kernel
theorem bp_16 : (Int8.ofInt (16)).toInt32 = (16 : Int32) := by decide +kernel
theorem bp_17 : (Int8.ofInt (17)).toInt32 = (17 : Int32) := by decide +kernel
theorem bp_18 : (Int8.ofInt (18)).toInt32 = (18 : Int32) := by decide +kernel
theorem bp_20 : (Int8.ofInt (20)).toInt32 = (20 : Int32) := by decide +kernel
theorem bp_21 : (Int8.ofInt (21)).toInt32 = (21 : Int32) := by decide +kernel
theorem bp_24 : (Int8.ofInt (24)).toInt32 = (24 : Int32) := by decide +kernel
theorem bp_30 : (Int8.ofInt (30)).toInt32 = (30 : Int32) := by decide +kernel
theorem bp_31 : (Int8.ofInt (31)).toInt32 = (31 : Int32) := by decide +kernel
theorem bp_32 : (Int8.ofInt (32)).toInt32 = (32 : Int32) := by decide +kernel
theorem bp_37 : (Int8.ofInt (37)).toInt32 = (37 : Int32) := by decide +kernel
theorem bp_38 : (Int8.ofInt (38)).toInt32 = (38 : Int32) := by decide +kernel
theorem bp_39 : (Int8.ofInt (39)).toInt32 = (39 : Int32) := by decide +kernel
theorem bp_40 : (Int8.ofInt (40)).toInt32 = (40 : Int32) := by decide +kernel
theorem bp_41 : (Int8.ofInt (41)).toInt32 = (41 : Int32) := by decide +kernel
theorem bp_42 : (Int8.ofInt (42)).toInt32 = (42 : Int32) := by decide +kernel
theorem bp_43 : (Int8.ofInt (43)).toInt32 = (43 : Int32) := by decide +kernel
theorem bp_45 : (Int8.ofInt (45)).toInt32 = (45 : Int32) := by decide +kernel
theorem bp_47 : (Int8.ofInt (47)).toInt32 = (47 : Int32) := by decide +kernel
theorem bp_48 : (Int8.ofInt (48)).toInt32 = (48 : Int32) := by decide +kernel
theorem bp_57 : (Int8.ofInt (57)).toInt32 = (57 : Int32) := by decide +kernel
theorem bp_59 : (Int8.ofInt (59)).toInt32 = (59 : Int32) := by decide +kernel
theorem bp_60 : (Int8.ofInt (60)).toInt32 = (60 : Int32) := by decide +kernel
theorem bp_61 : (Int8.ofInt (61)).toInt32 = (61 : Int32) := by decide +kernel
theorem bp_62 : (Int8.ofInt (62)).toInt32 = (62 : Int32) := by decide +kernel
theorem bp_63 : (Int8.ofInt (63)).toInt32 = (63 : Int32) := by decide +kernel
theorem bp_64 : (Int8.ofInt (64)).toInt32 = (64 : Int32) := by decide +kernel
theorem bp_87 : (Int8.ofInt (87)).toInt32 = (87 : Int32) := by decide +kernel
theorem bp_97 : (Int8.ofInt (97)).toInt32 = (97 : Int32) := by decide +kernel
theorem bp_122 : (Int8.ofInt (122)).toInt32 = (122 : Int32) := by decide +kernel
theorem bp_123 : (Int8.ofInt (123)).toInt32 = (123 : Int32) := by decide +kernel
theorem bp_124 : (Int8.ofInt (124)).toInt32 = (124 : Int32) := by decide +kernel
theorem sp_160 : (Int16.ofInt (160)).toInt32 = (160 : Int32) := by decide +kernel
theorem sp_255 : (Int16.ofInt (255)).toInt32 = (255 : Int32) := by decide +kernel
theorem sp_270 : (Int16.ofInt (270)).toInt32 = (270 : Int32) := by decide +kernel
theorem sp_320 : (Int16.ofInt (320)).toInt32 = (320 : Int32) := by decide +kernel
theorem sp_999 : (Int16.ofInt (999)).toInt32 = (999 : Int32) := by decide +kernel
theorem sp_1000 : (Int16.ofInt (1000)).toInt32 = (1000 : Int32) := by decide +kernel
theorem sp_1599 : (Int16.ofInt (1599)).toInt32 = (1599 : Int32) := by decide +kernel
theorem sp_1600 : (Int16.ofInt (1600)).toInt32 = (1600 : Int32) := by decide +kernel
theorem sp_1640 : (Int16.ofInt (1640)).toInt32 = (1640 : Int32) := by decide +kernel
theorem sp_9991 : (Int16.ofInt (9991)).toInt32 = (9991 : Int32) := by decide +kernel
end
