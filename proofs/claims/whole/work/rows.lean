section
-- ===== PART A: goes FIRST, ahead of the names: the tables' words, and 'selects' of the private methods out of them =====
/-- a private method of a class that the tables say can be made, by its rows of tables_1 -/
def lw_okq (q : MethodName × Nat) : Prop := (q.1.cls ≠ "java/lang/invoke/MethodHandle" ∧ q.1.cls ≠ "java/lang/invoke/VarHandle") ∧ Cond.instantiable q.1.cls q.2 ∈ tables_1 ∧ Cond.privateMethod q.1 ∈ tables_1 ∧ Cond.instanceMethod q.1 ∈ tables_1
theorem lw_p0 : lw_okq (⟨"ClubReads$Club", "parseClause", "(I)Z"⟩, 10) := ⟨⟨by decide +kernel, by decide +kernel⟩, List.mem_of_getElem? (i := 65) (by decide +kernel), List.mem_of_getElem? (i := 305) (by decide +kernel), List.mem_of_getElem? (i := 306) (by decide +kernel)⟩
theorem lw_p1 : lw_okq (⟨"ClubReads$Club", "parseWord", "()I"⟩, 10) := ⟨⟨by decide +kernel, by decide +kernel⟩, List.mem_of_getElem? (i := 65) (by decide +kernel), List.mem_of_getElem? (i := 309) (by decide +kernel), List.mem_of_getElem? (i := 310) (by decide +kernel)⟩
theorem lw_p2 : lw_okq (⟨"ClubReads$Club", "peek", "()I"⟩, 10) := ⟨⟨by decide +kernel, by decide +kernel⟩, List.mem_of_getElem? (i := 65) (by decide +kernel), List.mem_of_getElem? (i := 313) (by decide +kernel), List.mem_of_getElem? (i := 314) (by decide +kernel)⟩
theorem lw_p3 : lw_okq (⟨"ClubReads$Club", "takeAll", "(Ljava/lang/String;)Z"⟩, 10) := ⟨⟨by decide +kernel, by decide +kernel⟩, List.mem_of_getElem? (i := 65) (by decide +kernel), List.mem_of_getElem? (i := 318) (by decide +kernel), List.mem_of_getElem? (i := 319) (by decide +kernel)⟩
theorem lw_p4 : lw_okq (⟨"ClubReads$Club", "take", "(I)Z"⟩, 10) := ⟨⟨by decide +kernel, by decide +kernel⟩, List.mem_of_getElem? (i := 65) (by decide +kernel), List.mem_of_getElem? (i := 370) (by decide +kernel), List.mem_of_getElem? (i := 371) (by decide +kernel)⟩
theorem lw_p5 : lw_okq (⟨"ClubReads$Club", "parseNumber", "()I"⟩, 10) := ⟨⟨by decide +kernel, by decide +kernel⟩, List.mem_of_getElem? (i := 65) (by decide +kernel), List.mem_of_getElem? (i := 377) (by decide +kernel), List.mem_of_getElem? (i := 378) (by decide +kernel)⟩
theorem lw_p6 : lw_okq (⟨"ClubReads$Club", "parseAny", "(I)Z"⟩, 10) := ⟨⟨by decide +kernel, by decide +kernel⟩, List.mem_of_getElem? (i := 65) (by decide +kernel), List.mem_of_getElem? (i := 381) (by decide +kernel), List.mem_of_getElem? (i := 382) (by decide +kernel)⟩
theorem lw_p7 : lw_okq (⟨"ClubReads$Club", "parseOne", "(I)Z"⟩, 10) := ⟨⟨by decide +kernel, by decide +kernel⟩, List.mem_of_getElem? (i := 65) (by decide +kernel), List.mem_of_getElem? (i := 385) (by decide +kernel), List.mem_of_getElem? (i := 386) (by decide +kernel)⟩
theorem lw_p8 : lw_okq (⟨"ClubReads$Club", "parseTest", "()Z"⟩, 10) := ⟨⟨by decide +kernel, by decide +kernel⟩, List.mem_of_getElem? (i := 65) (by decide +kernel), List.mem_of_getElem? (i := 389) (by decide +kernel), List.mem_of_getElem? (i := 390) (by decide +kernel)⟩
theorem lw_p9 : lw_okq (⟨"ClubReads$Club", "parseSign", "(Ljava/lang/String;)I"⟩, 10) := ⟨⟨by decide +kernel, by decide +kernel⟩, List.mem_of_getElem? (i := 65) (by decide +kernel), List.mem_of_getElem? (i := 394) (by decide +kernel), List.mem_of_getElem? (i := 395) (by decide +kernel)⟩
theorem lw_p10 : lw_okq (⟨"ClubReads$Club", "put", "(I)V"⟩, 10) := ⟨⟨by decide +kernel, by decide +kernel⟩, List.mem_of_getElem? (i := 65) (by decide +kernel), List.mem_of_getElem? (i := 399) (by decide +kernel), List.mem_of_getElem? (i := 400) (by decide +kernel)⟩
theorem lw_p11 : lw_okq (⟨"ClubReads$Hall", "measure", "(II)V"⟩, 14) := ⟨⟨by decide +kernel, by decide +kernel⟩, List.mem_of_getElem? (i := 30) (by decide +kernel), List.mem_of_getElem? (i := 407) (by decide +kernel), List.mem_of_getElem? (i := 408) (by decide +kernel)⟩
theorem lw_p12 : lw_okq (⟨"ClubReads$Club", "holds", "(II[I)Z"⟩, 10) := ⟨⟨by decide +kernel, by decide +kernel⟩, List.mem_of_getElem? (i := 65) (by decide +kernel), List.mem_of_getElem? (i := 415) (by decide +kernel), List.mem_of_getElem? (i := 416) (by decide +kernel)⟩
theorem lw_p13 : lw_okq (⟨"ClubReads", "isMember", "(I)Z"⟩, 9) := ⟨⟨by decide +kernel, by decide +kernel⟩, List.mem_of_getElem? (i := 22) (by decide +kernel), List.mem_of_getElem? (i := 537) (by decide +kernel), List.mem_of_getElem? (i := 538) (by decide +kernel)⟩
theorem lw_p14 : lw_okq (⟨"ClubReads", "isBook", "(I)Z"⟩, 9) := ⟨⟨by decide +kernel, by decide +kernel⟩, List.mem_of_getElem? (i := 22) (by decide +kernel), List.mem_of_getElem? (i := 561) (by decide +kernel), List.mem_of_getElem? (i := 562) (by decide +kernel)⟩
theorem lw_p15 : lw_okq (⟨"ClubReads$Votes", "listOpen", "()V"⟩, 14) := ⟨⟨by decide +kernel, by decide +kernel⟩, List.mem_of_getElem? (i := 202) (by decide +kernel), List.mem_of_getElem? (i := 590) (by decide +kernel), List.mem_of_getElem? (i := 591) (by decide +kernel)⟩
def lw_privs_1 : List (MethodName × Nat) := [(⟨"ClubReads$Club", "parseClause", "(I)Z"⟩, 10), (⟨"ClubReads$Club", "parseWord", "()I"⟩, 10), (⟨"ClubReads$Club", "peek", "()I"⟩, 10), (⟨"ClubReads$Club", "takeAll", "(Ljava/lang/String;)Z"⟩, 10), (⟨"ClubReads$Club", "take", "(I)Z"⟩, 10), (⟨"ClubReads$Club", "parseNumber", "()I"⟩, 10), (⟨"ClubReads$Club", "parseAny", "(I)Z"⟩, 10), (⟨"ClubReads$Club", "parseOne", "(I)Z"⟩, 10), (⟨"ClubReads$Club", "parseTest", "()Z"⟩, 10), (⟨"ClubReads$Club", "parseSign", "(Ljava/lang/String;)I"⟩, 10), (⟨"ClubReads$Club", "put", "(I)V"⟩, 10), (⟨"ClubReads$Hall", "measure", "(II)V"⟩, 14), (⟨"ClubReads$Club", "holds", "(II[I)Z"⟩, 10), (⟨"ClubReads", "isMember", "(I)Z"⟩, 9), (⟨"ClubReads", "isBook", "(I)Z"⟩, 9), (⟨"ClubReads$Votes", "listOpen", "()V"⟩, 14)]
theorem lw_r1 : ∀ q ∈ lw_privs_1, lw_okq q := List.forall_mem_cons.mpr ⟨lw_p0, List.forall_mem_cons.mpr ⟨lw_p1, List.forall_mem_cons.mpr ⟨lw_p2, List.forall_mem_cons.mpr ⟨lw_p3, List.forall_mem_cons.mpr ⟨lw_p4, List.forall_mem_cons.mpr ⟨lw_p5, List.forall_mem_cons.mpr ⟨lw_p6, List.forall_mem_cons.mpr ⟨lw_p7, List.forall_mem_cons.mpr ⟨lw_p8, List.forall_mem_cons.mpr ⟨lw_p9, List.forall_mem_cons.mpr ⟨lw_p10, List.forall_mem_cons.mpr ⟨lw_p11, List.forall_mem_cons.mpr ⟨lw_p12, List.forall_mem_cons.mpr ⟨lw_p13, List.forall_mem_cons.mpr ⟨lw_p14, List.forall_mem_cons.mpr ⟨lw_p15, fun _ h => absurd h List.not_mem_nil⟩⟩⟩⟩⟩⟩⟩⟩⟩⟩⟩⟩⟩⟩⟩⟩
theorem lw_p16 : lw_okq (⟨"ClubReads$Votes", "sortOpen", "([I[I)V"⟩, 14) := ⟨⟨by decide +kernel, by decide +kernel⟩, List.mem_of_getElem? (i := 202) (by decide +kernel), List.mem_of_getElem? (i := 595) (by decide +kernel), List.mem_of_getElem? (i := 596) (by decide +kernel)⟩
theorem lw_p17 : lw_okq (⟨"ClubReads$Votes", "findFavourite", "()I"⟩, 14) := ⟨⟨by decide +kernel, by decide +kernel⟩, List.mem_of_getElem? (i := 202) (by decide +kernel), List.mem_of_getElem? (i := 599) (by decide +kernel), List.mem_of_getElem? (i := 600) (by decide +kernel)⟩
theorem lw_p18 : lw_okq (⟨"ClubReads$Votes", "clearTallies", "()V"⟩, 14) := ⟨⟨by decide +kernel, by decide +kernel⟩, List.mem_of_getElem? (i := 202) (by decide +kernel), List.mem_of_getElem? (i := 604) (by decide +kernel), List.mem_of_getElem? (i := 605) (by decide +kernel)⟩
theorem lw_p19 : lw_okq (⟨"ClubReads$Votes", "hear", "(I)V"⟩, 14) := ⟨⟨by decide +kernel, by decide +kernel⟩, List.mem_of_getElem? (i := 202) (by decide +kernel), List.mem_of_getElem? (i := 658) (by decide +kernel), List.mem_of_getElem? (i := 659) (by decide +kernel)⟩
theorem lw_p20 : lw_okq (⟨"ClubReads$Votes", "tally", "([II)V"⟩, 14) := ⟨⟨by decide +kernel, by decide +kernel⟩, List.mem_of_getElem? (i := 202) (by decide +kernel), List.mem_of_getElem? (i := 662) (by decide +kernel), List.mem_of_getElem? (i := 663) (by decide +kernel)⟩
theorem lw_p21 : lw_okq (⟨"ClubReads$Votes", "mostOf", "([II)I"⟩, 14) := ⟨⟨by decide +kernel, by decide +kernel⟩, List.mem_of_getElem? (i := 202) (by decide +kernel), List.mem_of_getElem? (i := 686) (by decide +kernel), List.mem_of_getElem? (i := 687) (by decide +kernel)⟩
theorem lw_p22 : lw_okq (⟨"ClubReads$Votes", "pickRounds", "()I"⟩, 14) := ⟨⟨by decide +kernel, by decide +kernel⟩, List.mem_of_getElem? (i := 202) (by decide +kernel), List.mem_of_getElem? (i := 690) (by decide +kernel), List.mem_of_getElem? (i := 691) (by decide +kernel)⟩
theorem lw_p23 : lw_okq (⟨"ClubReads$Votes", "pickPairs", "()I"⟩, 14) := ⟨⟨by decide +kernel, by decide +kernel⟩, List.mem_of_getElem? (i := 202) (by decide +kernel), List.mem_of_getElem? (i := 695) (by decide +kernel), List.mem_of_getElem? (i := 696) (by decide +kernel)⟩
theorem lw_p24 : lw_okq (⟨"ClubReads$Votes", "pickTurns", "()I"⟩, 14) := ⟨⟨by decide +kernel, by decide +kernel⟩, List.mem_of_getElem? (i := 202) (by decide +kernel), List.mem_of_getElem? (i := 699) (by decide +kernel), List.mem_of_getElem? (i := 700) (by decide +kernel)⟩
theorem lw_p25 : lw_okq (⟨"ClubReads$Votes", "silence", "(I)V"⟩, 14) := ⟨⟨by decide +kernel, by decide +kernel⟩, List.mem_of_getElem? (i := 202) (by decide +kernel), List.mem_of_getElem? (i := 723) (by decide +kernel), List.mem_of_getElem? (i := 724) (by decide +kernel)⟩
theorem lw_p26 : lw_okq (⟨"ClubReads$Votes", "swap", "(II)V"⟩, 14) := ⟨⟨by decide +kernel, by decide +kernel⟩, List.mem_of_getElem? (i := 202) (by decide +kernel), List.mem_of_getElem? (i := 735) (by decide +kernel), List.mem_of_getElem? (i := 736) (by decide +kernel)⟩
theorem lw_p27 : lw_okq (⟨"ClubReads", "spreadChances", "(I)J"⟩, 9) := ⟨⟨by decide +kernel, by decide +kernel⟩, List.mem_of_getElem? (i := 22) (by decide +kernel), List.mem_of_getElem? (i := 761) (by decide +kernel), List.mem_of_getElem? (i := 762) (by decide +kernel)⟩
theorem lw_p28 : lw_okq (⟨"ClubReads", "tryMonths", "(II)I"⟩, 9) := ⟨⟨by decide +kernel, by decide +kernel⟩, List.mem_of_getElem? (i := 22) (by decide +kernel), List.mem_of_getElem? (i := 788) (by decide +kernel), List.mem_of_getElem? (i := 789) (by decide +kernel)⟩
theorem lw_p29 : lw_okq (⟨"ClubReads", "findBestRow", "()V"⟩, 9) := ⟨⟨by decide +kernel, by decide +kernel⟩, List.mem_of_getElem? (i := 22) (by decide +kernel), List.mem_of_getElem? (i := 822) (by decide +kernel), List.mem_of_getElem? (i := 823) (by decide +kernel)⟩
theorem lw_p30 : lw_okq (⟨"ClubReadsModel", "clauseHere", "()V"⟩, 36) := ⟨⟨by decide +kernel, by decide +kernel⟩, List.mem_of_getElem? (i := 959) (by decide +kernel), List.mem_of_getElem? (i := 1085) (by decide +kernel), List.mem_of_getElem? (i := 1086) (by decide +kernel)⟩
theorem lw_p31 : lw_okq (⟨"ClubReadsModel", "here", "()I"⟩, 36) := ⟨⟨by decide +kernel, by decide +kernel⟩, List.mem_of_getElem? (i := 959) (by decide +kernel), List.mem_of_getElem? (i := 1089) (by decide +kernel), List.mem_of_getElem? (i := 1090) (by decide +kernel)⟩
def lw_privs_2 : List (MethodName × Nat) := [(⟨"ClubReads$Votes", "sortOpen", "([I[I)V"⟩, 14), (⟨"ClubReads$Votes", "findFavourite", "()I"⟩, 14), (⟨"ClubReads$Votes", "clearTallies", "()V"⟩, 14), (⟨"ClubReads$Votes", "hear", "(I)V"⟩, 14), (⟨"ClubReads$Votes", "tally", "([II)V"⟩, 14), (⟨"ClubReads$Votes", "mostOf", "([II)I"⟩, 14), (⟨"ClubReads$Votes", "pickRounds", "()I"⟩, 14), (⟨"ClubReads$Votes", "pickPairs", "()I"⟩, 14), (⟨"ClubReads$Votes", "pickTurns", "()I"⟩, 14), (⟨"ClubReads$Votes", "silence", "(I)V"⟩, 14), (⟨"ClubReads$Votes", "swap", "(II)V"⟩, 14), (⟨"ClubReads", "spreadChances", "(I)J"⟩, 9), (⟨"ClubReads", "tryMonths", "(II)I"⟩, 9), (⟨"ClubReads", "findBestRow", "()V"⟩, 9), (⟨"ClubReadsModel", "clauseHere", "()V"⟩, 36), (⟨"ClubReadsModel", "here", "()I"⟩, 36)]
theorem lw_r2 : ∀ q ∈ lw_privs_2, lw_okq q := List.forall_mem_cons.mpr ⟨lw_p16, List.forall_mem_cons.mpr ⟨lw_p17, List.forall_mem_cons.mpr ⟨lw_p18, List.forall_mem_cons.mpr ⟨lw_p19, List.forall_mem_cons.mpr ⟨lw_p20, List.forall_mem_cons.mpr ⟨lw_p21, List.forall_mem_cons.mpr ⟨lw_p22, List.forall_mem_cons.mpr ⟨lw_p23, List.forall_mem_cons.mpr ⟨lw_p24, List.forall_mem_cons.mpr ⟨lw_p25, List.forall_mem_cons.mpr ⟨lw_p26, List.forall_mem_cons.mpr ⟨lw_p27, List.forall_mem_cons.mpr ⟨lw_p28, List.forall_mem_cons.mpr ⟨lw_p29, List.forall_mem_cons.mpr ⟨lw_p30, List.forall_mem_cons.mpr ⟨lw_p31, fun _ h => absurd h List.not_mem_nil⟩⟩⟩⟩⟩⟩⟩⟩⟩⟩⟩⟩⟩⟩⟩⟩
theorem lw_p32 : lw_okq (⟨"ClubReadsModel", "clauseOfL", "()V"⟩, 36) := ⟨⟨by decide +kernel, by decide +kernel⟩, List.mem_of_getElem? (i := 959) (by decide +kernel), List.mem_of_getElem? (i := 1093) (by decide +kernel), List.mem_of_getElem? (i := 1094) (by decide +kernel)⟩
theorem lw_p33 : lw_okq (⟨"ClubReadsModel", "must", "(I)V"⟩, 36) := ⟨⟨by decide +kernel, by decide +kernel⟩, List.mem_of_getElem? (i := 959) (by decide +kernel), List.mem_of_getElem? (i := 1097) (by decide +kernel), List.mem_of_getElem? (i := 1098) (by decide +kernel)⟩
theorem lw_p34 : lw_okq (⟨"ClubReadsModel", "much", "(ILjava/lang/String;)V"⟩, 36) := ⟨⟨by decide +kernel, by decide +kernel⟩, List.mem_of_getElem? (i := 959) (by decide +kernel), List.mem_of_getElem? (i := 1102) (by decide +kernel), List.mem_of_getElem? (i := 1103) (by decide +kernel)⟩
theorem lw_p35 : lw_okq (⟨"ClubReadsModel", "spells", "(Ljava/lang/String;)V"⟩, 36) := ⟨⟨by decide +kernel, by decide +kernel⟩, List.mem_of_getElem? (i := 959) (by decide +kernel), List.mem_of_getElem? (i := 1106) (by decide +kernel), List.mem_of_getElem? (i := 1107) (by decide +kernel)⟩
theorem lw_p36 : lw_okq (⟨"ClubReadsModel", "figures", "()I"⟩, 36) := ⟨⟨by decide +kernel, by decide +kernel⟩, List.mem_of_getElem? (i := 959) (by decide +kernel), List.mem_of_getElem? (i := 1112) (by decide +kernel), List.mem_of_getElem? (i := 1113) (by decide +kernel)⟩
theorem lw_p37 : lw_okq (⟨"ClubReadsModel", "some", "()V"⟩, 36) := ⟨⟨by decide +kernel, by decide +kernel⟩, List.mem_of_getElem? (i := 959) (by decide +kernel), List.mem_of_getElem? (i := 1116) (by decide +kernel), List.mem_of_getElem? (i := 1117) (by decide +kernel)⟩
theorem lw_p38 : lw_okq (⟨"ClubReadsModel", "every", "()V"⟩, 36) := ⟨⟨by decide +kernel, by decide +kernel⟩, List.mem_of_getElem? (i := 959) (by decide +kernel), List.mem_of_getElem? (i := 1120) (by decide +kernel), List.mem_of_getElem? (i := 1121) (by decide +kernel)⟩
theorem lw_p39 : lw_okq (⟨"ClubReadsModel", "factor", "()V"⟩, 36) := ⟨⟨by decide +kernel, by decide +kernel⟩, List.mem_of_getElem? (i := 959) (by decide +kernel), List.mem_of_getElem? (i := 1124) (by decide +kernel), List.mem_of_getElem? (i := 1125) (by decide +kernel)⟩
theorem lw_p40 : lw_okq (⟨"ClubReadsModel", "emits", "(I)V"⟩, 36) := ⟨⟨by decide +kernel, by decide +kernel⟩, List.mem_of_getElem? (i := 959) (by decide +kernel), List.mem_of_getElem? (i := 1128) (by decide +kernel), List.mem_of_getElem? (i := 1129) (by decide +kernel)⟩
theorem lw_p41 : lw_okq (⟨"ClubReadsModel", "among", "(Ljava/lang/String;)I"⟩, 36) := ⟨⟨by decide +kernel, by decide +kernel⟩, List.mem_of_getElem? (i := 959) (by decide +kernel), List.mem_of_getElem? (i := 1133) (by decide +kernel), List.mem_of_getElem? (i := 1134) (by decide +kernel)⟩
theorem lw_p42 : lw_okq (⟨"ClubReadsModel", "isMember", "(I)Z"⟩, 36) := ⟨⟨by decide +kernel, by decide +kernel⟩, List.mem_of_getElem? (i := 959) (by decide +kernel), List.mem_of_getElem? (i := 1149) (by decide +kernel), List.mem_of_getElem? (i := 1150) (by decide +kernel)⟩
theorem lw_p43 : lw_okq (⟨"ClubReadsModel", "isBook", "(I)Z"⟩, 36) := ⟨⟨by decide +kernel, by decide +kernel⟩, List.mem_of_getElem? (i := 959) (by decide +kernel), List.mem_of_getElem? (i := 1161) (by decide +kernel), List.mem_of_getElem? (i := 1162) (by decide +kernel)⟩
theorem lw_p44 : lw_okq (⟨"ClubReadsModel", "comeNow", "()I"⟩, 36) := ⟨⟨by decide +kernel, by decide +kernel⟩, List.mem_of_getElem? (i := 959) (by decide +kernel), List.mem_of_getElem? (i := 1169) (by decide +kernel), List.mem_of_getElem? (i := 1170) (by decide +kernel)⟩
theorem lw_p45 : lw_okq (⟨"ClubReadsModel", "membersHere", "()I"⟩, 36) := ⟨⟨by decide +kernel, by decide +kernel⟩, List.mem_of_getElem? (i := 959) (by decide +kernel), List.mem_of_getElem? (i := 1173) (by decide +kernel), List.mem_of_getElem? (i := 1174) (by decide +kernel)⟩
theorem lw_p46 : lw_okq (⟨"ClubReadsModel", "isHere", "(I)Z"⟩, 36) := ⟨⟨by decide +kernel, by decide +kernel⟩, List.mem_of_getElem? (i := 959) (by decide +kernel), List.mem_of_getElem? (i := 1177) (by decide +kernel), List.mem_of_getElem? (i := 1178) (by decide +kernel)⟩
theorem lw_p47 : lw_okq (⟨"ClubReadsModel", "openBooks", "()I"⟩, 36) := ⟨⟨by decide +kernel, by decide +kernel⟩, List.mem_of_getElem? (i := 959) (by decide +kernel), List.mem_of_getElem? (i := 1181) (by decide +kernel), List.mem_of_getElem? (i := 1182) (by decide +kernel)⟩
def lw_privs_3 : List (MethodName × Nat) := [(⟨"ClubReadsModel", "clauseOfL", "()V"⟩, 36), (⟨"ClubReadsModel", "must", "(I)V"⟩, 36), (⟨"ClubReadsModel", "much", "(ILjava/lang/String;)V"⟩, 36), (⟨"ClubReadsModel", "spells", "(Ljava/lang/String;)V"⟩, 36), (⟨"ClubReadsModel", "figures", "()I"⟩, 36), (⟨"ClubReadsModel", "some", "()V"⟩, 36), (⟨"ClubReadsModel", "every", "()V"⟩, 36), (⟨"ClubReadsModel", "factor", "()V"⟩, 36), (⟨"ClubReadsModel", "emits", "(I)V"⟩, 36), (⟨"ClubReadsModel", "among", "(Ljava/lang/String;)I"⟩, 36), (⟨"ClubReadsModel", "isMember", "(I)Z"⟩, 36), (⟨"ClubReadsModel", "isBook", "(I)Z"⟩, 36), (⟨"ClubReadsModel", "comeNow", "()I"⟩, 36), (⟨"ClubReadsModel", "membersHere", "()I"⟩, 36), (⟨"ClubReadsModel", "isHere", "(I)Z"⟩, 36), (⟨"ClubReadsModel", "openBooks", "()I"⟩, 36)]
theorem lw_r3 : ∀ q ∈ lw_privs_3, lw_okq q := List.forall_mem_cons.mpr ⟨lw_p32, List.forall_mem_cons.mpr ⟨lw_p33, List.forall_mem_cons.mpr ⟨lw_p34, List.forall_mem_cons.mpr ⟨lw_p35, List.forall_mem_cons.mpr ⟨lw_p36, List.forall_mem_cons.mpr ⟨lw_p37, List.forall_mem_cons.mpr ⟨lw_p38, List.forall_mem_cons.mpr ⟨lw_p39, List.forall_mem_cons.mpr ⟨lw_p40, List.forall_mem_cons.mpr ⟨lw_p41, List.forall_mem_cons.mpr ⟨lw_p42, List.forall_mem_cons.mpr ⟨lw_p43, List.forall_mem_cons.mpr ⟨lw_p44, List.forall_mem_cons.mpr ⟨lw_p45, List.forall_mem_cons.mpr ⟨lw_p46, List.forall_mem_cons.mpr ⟨lw_p47, fun _ h => absurd h List.not_mem_nil⟩⟩⟩⟩⟩⟩⟩⟩⟩⟩⟩⟩⟩⟩⟩⟩
theorem lw_p48 : lw_okq (⟨"ClubReadsModel", "isOpen", "(I)Z"⟩, 36) := ⟨⟨by decide +kernel, by decide +kernel⟩, List.mem_of_getElem? (i := 959) (by decide +kernel), List.mem_of_getElem? (i := 1185) (by decide +kernel), List.mem_of_getElem? (i := 1186) (by decide +kernel)⟩
theorem lw_p49 : lw_okq (⟨"ClubReadsModel", "likeOf", "(II)I"⟩, 36) := ⟨⟨by decide +kernel, by decide +kernel⟩, List.mem_of_getElem? (i := 959) (by decide +kernel), List.mem_of_getElem? (i := 1197) (by decide +kernel), List.mem_of_getElem? (i := 1198) (by decide +kernel)⟩
theorem lw_p50 : lw_okq (⟨"ClubReadsModel", "looks", "(II)V"⟩, 36) := ⟨⟨by decide +kernel, by decide +kernel⟩, List.mem_of_getElem? (i := 959) (by decide +kernel), List.mem_of_getElem? (i := 1201) (by decide +kernel), List.mem_of_getElem? (i := 1202) (by decide +kernel)⟩
theorem lw_p51 : lw_okq (⟨"ClubReadsModel", "looksForLikes", "()V"⟩, 36) := ⟨⟨by decide +kernel, by decide +kernel⟩, List.mem_of_getElem? (i := 959) (by decide +kernel), List.mem_of_getElem? (i := 1209) (by decide +kernel), List.mem_of_getElem? (i := 1210) (by decide +kernel)⟩
theorem lw_p52 : lw_okq (⟨"ClubReadsModel", "looksForOrders", "()V"⟩, 36) := ⟨⟨by decide +kernel, by decide +kernel⟩, List.mem_of_getElem? (i := 959) (by decide +kernel), List.mem_of_getElem? (i := 1213) (by decide +kernel), List.mem_of_getElem? (i := 1214) (by decide +kernel)⟩
theorem lw_p53 : lw_okq (⟨"ClubReadsModel", "sorts", "(I)V"⟩, 36) := ⟨⟨by decide +kernel, by decide +kernel⟩, List.mem_of_getElem? (i := 959) (by decide +kernel), List.mem_of_getElem? (i := 1220) (by decide +kernel), List.mem_of_getElem? (i := 1221) (by decide +kernel)⟩
theorem lw_p54 : lw_okq (⟨"ClubReadsModel", "speaks", "(I)V"⟩, 36) := ⟨⟨by decide +kernel, by decide +kernel⟩, List.mem_of_getElem? (i := 959) (by decide +kernel), List.mem_of_getElem? (i := 1224) (by decide +kernel), List.mem_of_getElem? (i := 1225) (by decide +kernel)⟩
theorem lw_p55 : lw_okq (⟨"ClubReadsModel", "isAwayNow", "(I)Z"⟩, 36) := ⟨⟨by decide +kernel, by decide +kernel⟩, List.mem_of_getElem? (i := 959) (by decide +kernel), List.mem_of_getElem? (i := 1228) (by decide +kernel), List.mem_of_getElem? (i := 1229) (by decide +kernel)⟩
theorem lw_p56 : lw_okq (⟨"ClubReadsModel", "saysOf", "(III)V"⟩, 36) := ⟨⟨by decide +kernel, by decide +kernel⟩, List.mem_of_getElem? (i := 959) (by decide +kernel), List.mem_of_getElem? (i := 1232) (by decide +kernel), List.mem_of_getElem? (i := 1233) (by decide +kernel)⟩
theorem lw_p57 : lw_okq (⟨"ClubReadsModel", "firstOfMost", "()I"⟩, 36) := ⟨⟨by decide +kernel, by decide +kernel⟩, List.mem_of_getElem? (i := 959) (by decide +kernel), List.mem_of_getElem? (i := 1236) (by decide +kernel), List.mem_of_getElem? (i := 1237) (by decide +kernel)⟩
theorem lw_p58 : lw_okq (⟨"ClubReadsModel", "chosenBy", "(IZ)I"⟩, 36) := ⟨⟨by decide +kernel, by decide +kernel⟩, List.mem_of_getElem? (i := 959) (by decide +kernel), List.mem_of_getElem? (i := 1247) (by decide +kernel), List.mem_of_getElem? (i := 1248) (by decide +kernel)⟩
theorem lw_p59 : lw_okq (⟨"ClubReadsModel", "hears", "(Z)V"⟩, 36) := ⟨⟨by decide +kernel, by decide +kernel⟩, List.mem_of_getElem? (i := 959) (by decide +kernel), List.mem_of_getElem? (i := 1251) (by decide +kernel), List.mem_of_getElem? (i := 1252) (by decide +kernel)⟩
theorem lw_p60 : lw_okq (⟨"ClubReadsModel", "chooses", "(I)I"⟩, 36) := ⟨⟨by decide +kernel, by decide +kernel⟩, List.mem_of_getElem? (i := 959) (by decide +kernel), List.mem_of_getElem? (i := 1255) (by decide +kernel), List.mem_of_getElem? (i := 1256) (by decide +kernel)⟩
theorem lw_p61 : lw_okq (⟨"ClubReadsModel", "byRounds", "()I"⟩, 36) := ⟨⟨by decide +kernel, by decide +kernel⟩, List.mem_of_getElem? (i := 959) (by decide +kernel), List.mem_of_getElem? (i := 1259) (by decide +kernel), List.mem_of_getElem? (i := 1260) (by decide +kernel)⟩
theorem lw_p62 : lw_okq (⟨"ClubReadsModel", "mostBy", "(II)I"⟩, 36) := ⟨⟨by decide +kernel, by decide +kernel⟩, List.mem_of_getElem? (i := 959) (by decide +kernel), List.mem_of_getElem? (i := 1263) (by decide +kernel), List.mem_of_getElem? (i := 1264) (by decide +kernel)⟩
theorem lw_p63 : lw_okq (⟨"ClubReadsModel", "countOf", "(II)I"⟩, 36) := ⟨⟨by decide +kernel, by decide +kernel⟩, List.mem_of_getElem? (i := 959) (by decide +kernel), List.mem_of_getElem? (i := 1267) (by decide +kernel), List.mem_of_getElem? (i := 1268) (by decide +kernel)⟩
def lw_privs_4 : List (MethodName × Nat) := [(⟨"ClubReadsModel", "isOpen", "(I)Z"⟩, 36), (⟨"ClubReadsModel", "likeOf", "(II)I"⟩, 36), (⟨"ClubReadsModel", "looks", "(II)V"⟩, 36), (⟨"ClubReadsModel", "looksForLikes", "()V"⟩, 36), (⟨"ClubReadsModel", "looksForOrders", "()V"⟩, 36), (⟨"ClubReadsModel", "sorts", "(I)V"⟩, 36), (⟨"ClubReadsModel", "speaks", "(I)V"⟩, 36), (⟨"ClubReadsModel", "isAwayNow", "(I)Z"⟩, 36), (⟨"ClubReadsModel", "saysOf", "(III)V"⟩, 36), (⟨"ClubReadsModel", "firstOfMost", "()I"⟩, 36), (⟨"ClubReadsModel", "chosenBy", "(IZ)I"⟩, 36), (⟨"ClubReadsModel", "hears", "(Z)V"⟩, 36), (⟨"ClubReadsModel", "chooses", "(I)I"⟩, 36), (⟨"ClubReadsModel", "byRounds", "()I"⟩, 36), (⟨"ClubReadsModel", "mostBy", "(II)I"⟩, 36), (⟨"ClubReadsModel", "countOf", "(II)I"⟩, 36)]
theorem lw_r4 : ∀ q ∈ lw_privs_4, lw_okq q := List.forall_mem_cons.mpr ⟨lw_p48, List.forall_mem_cons.mpr ⟨lw_p49, List.forall_mem_cons.mpr ⟨lw_p50, List.forall_mem_cons.mpr ⟨lw_p51, List.forall_mem_cons.mpr ⟨lw_p52, List.forall_mem_cons.mpr ⟨lw_p53, List.forall_mem_cons.mpr ⟨lw_p54, List.forall_mem_cons.mpr ⟨lw_p55, List.forall_mem_cons.mpr ⟨lw_p56, List.forall_mem_cons.mpr ⟨lw_p57, List.forall_mem_cons.mpr ⟨lw_p58, List.forall_mem_cons.mpr ⟨lw_p59, List.forall_mem_cons.mpr ⟨lw_p60, List.forall_mem_cons.mpr ⟨lw_p61, List.forall_mem_cons.mpr ⟨lw_p62, List.forall_mem_cons.mpr ⟨lw_p63, fun _ h => absurd h List.not_mem_nil⟩⟩⟩⟩⟩⟩⟩⟩⟩⟩⟩⟩⟩⟩⟩⟩
theorem lw_p64 : lw_okq (⟨"ClubReadsModel", "placeIn", "(II)I"⟩, 36) := ⟨⟨by decide +kernel, by decide +kernel⟩, List.mem_of_getElem? (i := 959) (by decide +kernel), List.mem_of_getElem? (i := 1271) (by decide +kernel), List.mem_of_getElem? (i := 1272) (by decide +kernel)⟩
theorem lw_p65 : lw_okq (⟨"ClubReadsModel", "aheadBy", "(II)I"⟩, 36) := ⟨⟨by decide +kernel, by decide +kernel⟩, List.mem_of_getElem? (i := 959) (by decide +kernel), List.mem_of_getElem? (i := 1275) (by decide +kernel), List.mem_of_getElem? (i := 1276) (by decide +kernel)⟩
theorem lw_p66 : lw_okq (⟨"ClubReadsModel", "byPairs", "()I"⟩, 36) := ⟨⟨by decide +kernel, by decide +kernel⟩, List.mem_of_getElem? (i := 959) (by decide +kernel), List.mem_of_getElem? (i := 1279) (by decide +kernel), List.mem_of_getElem? (i := 1280) (by decide +kernel)⟩
theorem lw_p67 : lw_okq (⟨"ClubReadsModel", "byTurns", "()I"⟩, 36) := ⟨⟨by decide +kernel, by decide +kernel⟩, List.mem_of_getElem? (i := 959) (by decide +kernel), List.mem_of_getElem? (i := 1283) (by decide +kernel), List.mem_of_getElem? (i := 1284) (by decide +kernel)⟩
theorem lw_p68 : lw_okq (⟨"ClubReadsModel", "tellsOther", "(II)V"⟩, 36) := ⟨⟨by decide +kernel, by decide +kernel⟩, List.mem_of_getElem? (i := 959) (by decide +kernel), List.mem_of_getElem? (i := 1291) (by decide +kernel), List.mem_of_getElem? (i := 1292) (by decide +kernel)⟩
theorem lw_p69 : lw_okq (⟨"ClubReadsModel", "ordersFrom", "(IIIII)V"⟩, 36) := ⟨⟨by decide +kernel, by decide +kernel⟩, List.mem_of_getElem? (i := 959) (by decide +kernel), List.mem_of_getElem? (i := 1295) (by decide +kernel), List.mem_of_getElem? (i := 1296) (by decide +kernel)⟩
theorem lw_p70 : lw_okq (⟨"ClubReadsModel", "readsOf", "(II)I"⟩, 36) := ⟨⟨by decide +kernel, by decide +kernel⟩, List.mem_of_getElem? (i := 959) (by decide +kernel), List.mem_of_getElem? (i := 1307) (by decide +kernel), List.mem_of_getElem? (i := 1308) (by decide +kernel)⟩
theorem lw_p71 : lw_okq (⟨"ClubReadsModel", "doesCome", "(II)Z"⟩, 36) := ⟨⟨by decide +kernel, by decide +kernel⟩, List.mem_of_getElem? (i := 959) (by decide +kernel), List.mem_of_getElem? (i := 1315) (by decide +kernel), List.mem_of_getElem? (i := 1316) (by decide +kernel)⟩
theorem lw_p72 : lw_okq (⟨"ClubReadsModel", "goes", "(I)I"⟩, 36) := ⟨⟨by decide +kernel, by decide +kernel⟩, List.mem_of_getElem? (i := 959) (by decide +kernel), List.mem_of_getElem? (i := 1332) (by decide +kernel), List.mem_of_getElem? (i := 1333) (by decide +kernel)⟩
theorem lw_p73 : lw_okq (⟨"ClubReadsModel", "keeps", "()V"⟩, 36) := ⟨⟨by decide +kernel, by decide +kernel⟩, List.mem_of_getElem? (i := 959) (by decide +kernel), List.mem_of_getElem? (i := 1344) (by decide +kernel), List.mem_of_getElem? (i := 1345) (by decide +kernel)⟩
theorem lw_p74 : lw_okq (⟨"ClubReadsModel", "runs", "(II)V"⟩, 36) := ⟨⟨by decide +kernel, by decide +kernel⟩, List.mem_of_getElem? (i := 959) (by decide +kernel), List.mem_of_getElem? (i := 1348) (by decide +kernel), List.mem_of_getElem? (i := 1349) (by decide +kernel)⟩
theorem lw_p75 : lw_okq (⟨"ClubReadsModel", "membersHad", "()I"⟩, 36) := ⟨⟨by decide +kernel, by decide +kernel⟩, List.mem_of_getElem? (i := 959) (by decide +kernel), List.mem_of_getElem? (i := 1352) (by decide +kernel), List.mem_of_getElem? (i := 1353) (by decide +kernel)⟩
theorem lw_p76 : lw_okq (⟨"ClubReadsModel", "goesBack", "()V"⟩, 36) := ⟨⟨by decide +kernel, by decide +kernel⟩, List.mem_of_getElem? (i := 959) (by decide +kernel), List.mem_of_getElem? (i := 1356) (by decide +kernel), List.mem_of_getElem? (i := 1357) (by decide +kernel)⟩
theorem lw_p77 : lw_okq (⟨"ClubReadsModel", "isBetter", "()Z"⟩, 36) := ⟨⟨by decide +kernel, by decide +kernel⟩, List.mem_of_getElem? (i := 959) (by decide +kernel), List.mem_of_getElem? (i := 1364) (by decide +kernel), List.mem_of_getElem? (i := 1365) (by decide +kernel)⟩
theorem lw_p78 : lw_okq (⟨"ClubReadsModel", "gladHere", "()I"⟩, 36) := ⟨⟨by decide +kernel, by decide +kernel⟩, List.mem_of_getElem? (i := 959) (by decide +kernel), List.mem_of_getElem? (i := 1368) (by decide +kernel), List.mem_of_getElem? (i := 1369) (by decide +kernel)⟩
theorem lw_p79 : lw_okq (⟨"ClubReadsModel", "rowsFrom", "(I)V"⟩, 36) := ⟨⟨by decide +kernel, by decide +kernel⟩, List.mem_of_getElem? (i := 959) (by decide +kernel), List.mem_of_getElem? (i := 1376) (by decide +kernel), List.mem_of_getElem? (i := 1377) (by decide +kernel)⟩
def lw_privs_5 : List (MethodName × Nat) := [(⟨"ClubReadsModel", "placeIn", "(II)I"⟩, 36), (⟨"ClubReadsModel", "aheadBy", "(II)I"⟩, 36), (⟨"ClubReadsModel", "byPairs", "()I"⟩, 36), (⟨"ClubReadsModel", "byTurns", "()I"⟩, 36), (⟨"ClubReadsModel", "tellsOther", "(II)V"⟩, 36), (⟨"ClubReadsModel", "ordersFrom", "(IIIII)V"⟩, 36), (⟨"ClubReadsModel", "readsOf", "(II)I"⟩, 36), (⟨"ClubReadsModel", "doesCome", "(II)Z"⟩, 36), (⟨"ClubReadsModel", "goes", "(I)I"⟩, 36), (⟨"ClubReadsModel", "keeps", "()V"⟩, 36), (⟨"ClubReadsModel", "runs", "(II)V"⟩, 36), (⟨"ClubReadsModel", "membersHad", "()I"⟩, 36), (⟨"ClubReadsModel", "goesBack", "()V"⟩, 36), (⟨"ClubReadsModel", "isBetter", "()Z"⟩, 36), (⟨"ClubReadsModel", "gladHere", "()I"⟩, 36), (⟨"ClubReadsModel", "rowsFrom", "(I)V"⟩, 36)]
theorem lw_r5 : ∀ q ∈ lw_privs_5, lw_okq q := List.forall_mem_cons.mpr ⟨lw_p64, List.forall_mem_cons.mpr ⟨lw_p65, List.forall_mem_cons.mpr ⟨lw_p66, List.forall_mem_cons.mpr ⟨lw_p67, List.forall_mem_cons.mpr ⟨lw_p68, List.forall_mem_cons.mpr ⟨lw_p69, List.forall_mem_cons.mpr ⟨lw_p70, List.forall_mem_cons.mpr ⟨lw_p71, List.forall_mem_cons.mpr ⟨lw_p72, List.forall_mem_cons.mpr ⟨lw_p73, List.forall_mem_cons.mpr ⟨lw_p74, List.forall_mem_cons.mpr ⟨lw_p75, List.forall_mem_cons.mpr ⟨lw_p76, List.forall_mem_cons.mpr ⟨lw_p77, List.forall_mem_cons.mpr ⟨lw_p78, List.forall_mem_cons.mpr ⟨lw_p79, fun _ h => absurd h List.not_mem_nil⟩⟩⟩⟩⟩⟩⟩⟩⟩⟩⟩⟩⟩⟩⟩⟩
theorem lw_p80 : lw_okq (⟨"ClubReadsModel", "wishesActs", "(I)I"⟩, 36) := ⟨⟨by decide +kernel, by decide +kernel⟩, List.mem_of_getElem? (i := 959) (by decide +kernel), List.mem_of_getElem? (i := 1392) (by decide +kernel), List.mem_of_getElem? (i := 1393) (by decide +kernel)⟩
theorem lw_p81 : lw_okq (⟨"ClubReadsModel", "ranBody", "(I)V"⟩, 36) := ⟨⟨by decide +kernel, by decide +kernel⟩, List.mem_of_getElem? (i := 959) (by decide +kernel), List.mem_of_getElem? (i := 1399) (by decide +kernel), List.mem_of_getElem? (i := 1400) (by decide +kernel)⟩
theorem lw_p82 : lw_okq (⟨"ClubReadsModel", "plainWishes", "(I)I"⟩, 36) := ⟨⟨by decide +kernel, by decide +kernel⟩, List.mem_of_getElem? (i := 959) (by decide +kernel), List.mem_of_getElem? (i := 1403) (by decide +kernel), List.mem_of_getElem? (i := 1404) (by decide +kernel)⟩
theorem lw_p83 : lw_okq (⟨"ClubReadsModel", "readsActs", "(I)I"⟩, 36) := ⟨⟨by decide +kernel, by decide +kernel⟩, List.mem_of_getElem? (i := 959) (by decide +kernel), List.mem_of_getElem? (i := 1407) (by decide +kernel), List.mem_of_getElem? (i := 1408) (by decide +kernel)⟩
theorem lw_p84 : lw_okq (⟨"ClubReadsModel", "plainReads", "(I)I"⟩, 36) := ⟨⟨by decide +kernel, by decide +kernel⟩, List.mem_of_getElem? (i := 959) (by decide +kernel), List.mem_of_getElem? (i := 1411) (by decide +kernel), List.mem_of_getElem? (i := 1412) (by decide +kernel)⟩
theorem lw_p85 : lw_okq (⟨"ClubReadsModel", "talksActs", "(I)I"⟩, 36) := ⟨⟨by decide +kernel, by decide +kernel⟩, List.mem_of_getElem? (i := 959) (by decide +kernel), List.mem_of_getElem? (i := 1415) (by decide +kernel), List.mem_of_getElem? (i := 1416) (by decide +kernel)⟩
theorem lw_p86 : lw_okq (⟨"ClubReadsModel", "plainTalks", "(I)I"⟩, 36) := ⟨⟨by decide +kernel, by decide +kernel⟩, List.mem_of_getElem? (i := 959) (by decide +kernel), List.mem_of_getElem? (i := 1419) (by decide +kernel), List.mem_of_getElem? (i := 1420) (by decide +kernel)⟩
def lw_privs_6 : List (MethodName × Nat) := [(⟨"ClubReadsModel", "wishesActs", "(I)I"⟩, 36), (⟨"ClubReadsModel", "ranBody", "(I)V"⟩, 36), (⟨"ClubReadsModel", "plainWishes", "(I)I"⟩, 36), (⟨"ClubReadsModel", "readsActs", "(I)I"⟩, 36), (⟨"ClubReadsModel", "plainReads", "(I)I"⟩, 36), (⟨"ClubReadsModel", "talksActs", "(I)I"⟩, 36), (⟨"ClubReadsModel", "plainTalks", "(I)I"⟩, 36)]
theorem lw_r6 : ∀ q ∈ lw_privs_6, lw_okq q := List.forall_mem_cons.mpr ⟨lw_p80, List.forall_mem_cons.mpr ⟨lw_p81, List.forall_mem_cons.mpr ⟨lw_p82, List.forall_mem_cons.mpr ⟨lw_p83, List.forall_mem_cons.mpr ⟨lw_p84, List.forall_mem_cons.mpr ⟨lw_p85, List.forall_mem_cons.mpr ⟨lw_p86, fun _ h => absurd h List.not_mem_nil⟩⟩⟩⟩⟩⟩⟩
def lw_privs : List (MethodName × Nat) := lw_privs_1 ++ (lw_privs_2 ++ (lw_privs_3 ++ (lw_privs_4 ++ (lw_privs_5 ++ (lw_privs_6)))))
def lw_tbl : List Cond := k2_sels lw_privs ++ tables_1
theorem lw_privs_ok : ∀ q ∈ lw_privs, lw_okq q := by
  show ∀ q ∈ lw_privs_1 ++ (lw_privs_2 ++ (lw_privs_3 ++ (lw_privs_4 ++ (lw_privs_5 ++ (lw_privs_6))))), lw_okq q
  exact List.forall_mem_append.mpr ⟨lw_r1, List.forall_mem_append.mpr ⟨lw_r2, List.forall_mem_append.mpr ⟨lw_r3, List.forall_mem_append.mpr ⟨lw_r4, List.forall_mem_append.mpr ⟨lw_r5, lw_r6⟩⟩⟩⟩⟩
-- ===== end of PART A; then your names; then what follows =====
end
section
/-- arrays over arrays: the word, and its use (the printed names lean on it) -/
def va_AOA (ty : FieldType) (U : State) : Prop := (Cond.arrayOver (.array ty)).before #[] U = true
theorem va_AOA.use {ty : FieldType} {A : Array Value} {U : State} (h : va_AOA ty U) : (Cond.arrayOver (.array ty)).before A U = true := h
/-! ===== BEGIN words of one list among another's, by their places ===== -/
theorem goodIn_r {big : List Cond} (ws : List Cond) (ps : List Nat) (hp : ws = ps.filterMap (fun i => big[i]?)) (h : ws.all goodWord = true) : GoodIn big ws := by
  intro w hw
  have h1 := List.all_eq_true.mp h w hw
  rw [hp] at hw
  obtain ⟨i, -, hi⟩ := List.mem_filterMap.mp hw
  have hm : w ∈ big := by first | exact List.mem_of_getElem? hi | exact List.getElem?_mem hi
  exact ⟨hm, good_of_word h1⟩
theorem goodIn_app {big a b : List Cond} (ha : GoodIn big a) (hb : GoodIn big b) : GoodIn big (a ++ b) := fun w h => (List.mem_append.mp h).elim (ha w) (hb w)
theorem goodIn_ca {big a b : List Cond} {c : Cond} (ha : GoodIn big (c :: a)) (hb : GoodIn big b) : GoodIn big (c :: (a ++ b)) := fun w h => (List.mem_cons.mp h).elim (fun e => ha w (List.mem_cons.mpr (Or.inl e))) (fun h => (List.mem_append.mp h).elim (fun h => ha w (List.mem_cons.mpr (Or.inr h))) (hb w))
theorem goodIn_sub {big ws : List Cond} (hm : ∀ w ∈ ws, w ∈ big) (h : ws.all goodWord = true) : GoodIn big ws := fun w hw => ⟨hm w hw, good_of_word (List.all_eq_true.mp h w hw)⟩
/-! ===== END ===== -/

/-! ===== BEGIN new T[n][m]: the outer array a place, the inner ones among the pooled ===== -/
/-- f, but v at every address of l -/
def vr_up {α : Type} (f : Nat → α) (l : List Nat) (v : α) : Nat → α := fun a => if a ∈ l then v else f a
theorem vr_up_in {α : Type} {f : Nat → α} {l : List Nat} {v : α} {a : Nat} (h : a ∈ l) : vr_up f l v a = v := if_pos h
theorem vr_up_ne {α : Type} {f : Nat → α} {l : List Nat} {v : α} {a : Nat} (h : a ∉ l) : vr_up f l v a = f a := if_neg h
theorem vr_rows {L l : List Nat} {f : Nat → va_E} {e : va_E} (h : ∀ a, a ∈ l → a ∉ L) : va_pl L f ++ l.map (fun a => (a, e)) = va_pl (L ++ l) (vr_up f l e) := by
  unfold va_pl
  rw [List.map_append]
  congr 1
  · apply List.map_congr_left
    intro a ha
    rw [vr_up_ne (fun q => h a q ha)]
  · apply List.map_congr_left
    intro a ha
    rw [vr_up_in ha]
theorem vr_lay {X rows : va_W} {x : Nat × va_E} {pl : va_W} {D : va_G} {cl : List vw_C} {H : Heap} (hP : va_P D cl (((X ++ pl) ++ [x]) ++ rows) H) : va_P D cl ((X ++ [x]) ++ (pl ++ rows)) H := by
  rw [List.append_assoc (X ++ pl)] at hP
  have h := va_P.swap hP
  rw [← List.append_assoc X] at h
  have h2 := va_P.swap h
  rw [List.append_assoc (X ++ [x])] at h2
  exact h2
theorem vr_layD {X rows : va_W} {x : Nat × va_E} {pl : va_W} {A : Nat → Prop} (hD : va_D A (((X ++ pl) ++ [x]) ++ rows)) : va_D A ((X ++ [x]) ++ (pl ++ rows)) := by
  rw [List.append_assoc (X ++ pl)] at hD
  have h := va_D.swap hD
  rw [← List.append_assoc X] at h
  have h2 := va_D.swap h
  rw [List.append_assoc (X ++ [x])] at h2
  exact h2
theorem vr_outer (c : ClassId) (N h0 : Nat) : ∀ i : Nat, Jvm.Free.Multi.outerC c N h0 i = arrV c N (fun j => va_rf (if j < i then some (h0 + 1 + j) else none))
  | 0 => by
    show ({ cls := c, slots := Array.replicate N .null, vm := .none } : Cell) = _
    rw [arrV_new]
    refine congrArg (arrV c N) (funext fun j => ?_)
    simp [va_rf]
  | i + 1 => by
    show (Jvm.Free.Multi.outerC c N h0 i).setSlot i (.ref (h0 + 1 + i)) = _
    rw [vr_outer c N h0 i, arrV_store]
    refine congrArg (arrV c N) (funext fun j => ?_)
    by_cases e : j = i
    · subst e
      simp [updV, va_rf]
    · by_cases h : j < i
      · simp [updV, e, h, Nat.lt_succ_of_lt h]
      · simp [updV, e, h, show ¬ j < i + 1 by omega]
section VGM
variable {p : Program} {l : Launch} {e : Env} {R : Room} {s : State} {m : MethodId} {args : Array Value} {below : List Frame} {meth : Method} {c : Code} {H : Heap} {locs : List Loc} {cells slots : Nat} {Q : State → Prop}
variable {cc : ByteArray} {pc : Nat} {ls : Array Slot} {rest : List Value} {D : va_G} {cl : List vw_C} {A : Nat → Prop} {a : Nat} {tys : List (ClassId × FieldType)} {ws : va_W} {H0 : Heap}
theorem va_mna {X : va_W} {L : List Nat} {f : Nat → va_E} {cc : ByteArray} (hexec : p.tables.exec = Jvm.exec) (hb : c.code = cc) {own : String} {index : Nat} {ty : FieldType} {cy : ClassId} (hown : s.vm.findClass own = some m.cls) (hclink : (Cond.classLink own index ("[" ++ (FieldType.array ty).toString)).before args s = true) (hover : va_AOA ty s) (harr : (Cond.arrayClass ty).before args s = true) (hcy : s.vm.findClass (FieldType.array ty).toString = some cy)
    (hK : va_K D cl tys s) (hP : va_P D cl (X ++ va_pl L f) H) (hD : va_D A (X ++ va_pl L f)) (hS : va_S A H0 H locs) (hA : ∀ q, H0.size ≤ q → A q) {n k : Int32} {N' K' : Nat} {z : vp_A} (hn : ¬ n < 0) (hk : ¬ k < 0) (hN : n.toNatClampNeg = N') (hM : k.toNatClampNeg = K')
    (hb1 : N' * 4 ≤ 536870912) (hb2 : K' * componentBytes ty ≤ 536870912) (hb3 : K' ≤ 536870912) (hdf : fits ty (defaultValue ty) = true) (hdd : (defaultValue ty).isDefault = true) (hcells : cells + (1 + N') ≤ R.cells) (hslots : slots + (N' + N' * K') ≤ R.slots) (hz : ∀ c : ClassId, Jvm.Free.Multi.innerC c K' (defaultValue ty) = vp_cell c z) (hdg : decode cc pc = .ok (.multianewarray index 2, 4))
    (kk : ∀ (q : Nat) (r : Nat → Nat) (cA : ClassId) (H1 : Heap), (∀ i j : Nat, i < N' → j < N' → r i = r j → i = j) → (∀ i : Nat, i < N' → r i ∉ L) → va_K D cl (tys ++ [(cA, .array ty)]) s →
      va_P D cl ((X ++ [(q, .inl (cA, N', .inr (.inr (.inr (.inr (fun i => if i < N' then some (r i) else none))))))]) ++ va_pl (L ++ (List.range N').map r) (vr_up f ((List.range N').map r) (.inl (cy, z)))) H1 → va_D A ((X ++ [(q, .inl (cA, N', .inr (.inr (.inr (.inr (fun i => if i < N' then some (r i) else none))))))]) ++ va_pl (L ++ (List.range N').map r) (vr_up f ((List.range N').map r) (.inl (cy, z)))) → va_S A H0 H1 locs →
      W p l e R s m args below meth c H1 locs (cells + 1 + N') (slots + N' + N' * K') Q (F0 m (pc + 4) ls (.ref q :: rest))) : W p l e R s m args below meth c H locs cells slots Q (F0 m pc ls (.int k :: .int n :: rest)) := by
  subst hN
  subst hM
  intro T hT Xs
  obtain ⟨vm₁, cA, comp, -, fA, fC, hO, -, X', step⟩ := Xs.multianewarray2F hexec hown hclink (va_AOA.use hover) harr (g := F0 m pc ls (.int k :: .int n :: rest)) rfl (by rw [hb]; exact hdg) rfl hn hk hb1 hb2 hb3 hdf hdd hcells hslots
  have ec : some cy = some comp := hcy.symm.trans fC
  cases ec
  generalize hF : Jvm.Free.Multi.fill (T.setVm vm₁) cA cy n.toNatClampNeg k.toNatClampNeg (defaultValue ty) n.toNatClampNeg = F at X' step
  have hTh : (T.setVm vm₁).heap = H := hT
  obtain ⟨f1, f2, -, -⟩ := Jvm.Free.Multi.fill_facts (T.setVm vm₁) cA cy n.toNatClampNeg k.toNatClampNeg (defaultValue ty) n.toNatClampNeg
  rw [hF, hTh] at f1 f2
  have hold : ∀ x : Nat, x < H.size → F.heap[x]? = H[x]? := fun x hx => by
    have := Jvm.Free.Multi.fill_old (T.setVm vm₁) cA cy n.toNatClampNeg k.toNatClampNeg (defaultValue ty) (a := x) (by rw [hTh]; exact hx) n.toNatClampNeg
    rw [hF, hTh] at this
    exact this
  have hrow : ∀ j : Nat, j < n.toNatClampNeg → F.heap[H.size + 1 + j]? = some (vp_cell cy z) := fun j hj => by
    have := Jvm.Free.Multi.fill_inner (T.setVm vm₁) cA cy n.toNatClampNeg k.toNatClampNeg (defaultValue ty) n.toNatClampNeg j hj
    rw [hF, hTh, hz] at this
    exact this
  have hout : Jvm.Free.Multi.outerC cA n.toNatClampNeg H.size n.toNatClampNeg = vp_cell cA (n.toNatClampNeg, .inr (.inr (.inr (.inr (fun i => if i < n.toNatClampNeg then some (H.size + 1 + i) else none))))) := by
    rw [vp_cell_q]
    exact vr_outer cA n.toNatClampNeg H.size n.toNatClampNeg
  rw [hout] at f2
  have hlt : ∀ a, a ∈ L → a < H.size := fun a ha => by
    obtain ⟨k9, hk9⟩ := va_pl_get (X := X) (f := f) ha
    exact (hP k9 _ hk9).lt
  have hnl : ∀ i : Nat, i < n.toNatClampNeg → H.size + 1 + i ∉ L := fun i _ h => by
    have := hlt _ h
    omega
  have hnm : ∀ a, a ∈ (List.range n.toNatClampNeg).map (fun i => H.size + 1 + i) → a ∉ L := fun a ha h => by
    obtain ⟨i, -, rfl⟩ := List.mem_map.mp ha
    have := hlt _ h
    omega
  have hP0 : va_P D cl (X ++ va_pl L f) F.heap := hP.kept (fun k9 x hx => hold x.1 ((hP k9 x hx).lt))
  have hP1 : va_P D cl ((X ++ va_pl L f) ++ [(H.size, .inl (cA, n.toNatClampNeg, .inr (.inr (.inr (.inr (fun i => if i < n.toNatClampNeg then some (H.size + 1 + i) else none))))))]) F.heap := hP0.app (fun k9 x hx => by
    have h0 : k9 < 1 := (List.getElem?_eq_some_iff.mp hx).1
    rw [show k9 = 0 by omega] at hx
    cases hx
    exact f2)
  have hP2 : va_P D cl (((X ++ va_pl L f) ++ [(H.size, .inl (cA, n.toNatClampNeg, .inr (.inr (.inr (.inr (fun i => if i < n.toNatClampNeg then some (H.size + 1 + i) else none))))))]) ++ ((List.range n.toNatClampNeg).map (fun i => H.size + 1 + i)).map (fun a => (a, .inl (cy, z)))) F.heap := hP1.app (fun k9 x hx => by
    obtain ⟨a, ha, rfl⟩ := List.mem_map.mp (List.mem_of_getElem? hx)
    obtain ⟨i, hi, rfl⟩ := List.mem_map.mp ha
    exact hrow i (List.mem_range.mp hi))
  have hD2 : va_D A (((X ++ va_pl L f) ++ [(H.size, .inl (cA, n.toNatClampNeg, .inr (.inr (.inr (.inr (fun i => if i < n.toNatClampNeg then some (H.size + 1 + i) else none))))))]) ++ ((List.range n.toNatClampNeg).map (fun i => H.size + 1 + i)).map (fun a => (a, .inl (cy, z)))) := by
    have hD1 := hD.push (e := .inl (cA, n.toNatClampNeg, .inr (.inr (.inr (.inr (fun i => if i < n.toNatClampNeg then some (H.size + 1 + i) else none)))))) hP rfl (hA _ hS.1)
    generalize hW1 : (X ++ va_pl L f) ++ [(H.size, .inl (cA, n.toNatClampNeg, .inr (.inr (.inr (.inr (fun i => if i < n.toNatClampNeg then some (H.size + 1 + i) else none))))))] = W1 at hD1 hP1 ⊢
    have hle : ∀ (k9 : Nat) (x : Nat × va_E), W1[k9]? = some x → x.1 ≤ H.size := fun k9 x hx => by
      rw [← hW1] at hx
      by_cases hl : k9 < (X ++ va_pl L f).length
      · rw [List.getElem?_append_left hl] at hx
        exact Nat.le_of_lt ((hP k9 x hx).lt)
      · rw [List.getElem?_append_right (by omega)] at hx
        have h0 : k9 - (X ++ va_pl L f).length < 1 := (List.getElem?_eq_some_iff.mp hx).1
        rw [show k9 - (X ++ va_pl L f).length = 0 by omega] at hx
        cases hx
        exact Nat.le_refl _
    have hr : ∀ (k9 : Nat) (x : Nat × va_E), (((List.range n.toNatClampNeg).map (fun i => H.size + 1 + i)).map (fun a => ((a, .inl (cy, z)) : Nat × va_E)))[k9]? = some x → x.1 = H.size + 1 + k9 := fun k9 x hx => by
      rw [List.getElem?_map, List.getElem?_map] at hx
      by_cases h9 : k9 < n.toNatClampNeg
      · rw [List.getElem?_range h9] at hx
        cases hx
        rfl
      · have hn0 : (List.range n.toNatClampNeg)[k9]? = none := List.getElem?_eq_none (by rw [List.length_range]; omega)
        rw [hn0] at hx
        cases hx
    refine ⟨fun i j x y hi hj hxy => ?_, fun k9 x hx => ?_⟩
    · by_cases h1 : i < W1.length <;> by_cases h2 : j < W1.length
      · rw [List.getElem?_append_left h1] at hi
        rw [List.getElem?_append_left h2] at hj
        exact hD1.1 i j x y hi hj hxy
      · rw [List.getElem?_append_left h1] at hi
        rw [List.getElem?_append_right (by omega)] at hj
        have := hle _ _ hi
        have := hr _ _ hj
        omega
      · rw [List.getElem?_append_right (by omega)] at hi
        rw [List.getElem?_append_left h2] at hj
        have := hle _ _ hj
        have := hr _ _ hi
        omega
      · rw [List.getElem?_append_right (by omega)] at hi hj
        have := hr _ _ hi
        have := hr _ _ hj
        omega
    · by_cases h1 : k9 < W1.length
      · rw [List.getElem?_append_left h1] at hx
        exact hD1.2 k9 x hx
      · rw [List.getElem?_append_right (by omega)] at hx
        have := hr _ _ hx
        exact hA _ (by have := hS.1; omega)
  have hAr : ArrOfT s cA (.array ty) := fun N9 z9 => by
    obtain ⟨-, k9, hk9, cm9, hkk9⟩ := (hO 0 0 0).1
    exact ⟨(fun q hq => by cases hq), k9, hk9, cm9, hkk9⟩
  have hK2 : va_K D cl (tys ++ [(cA, .array ty)]) s := ⟨hK.1, fun k9 x hx => by
    by_cases hl : k9 < tys.length
    · rw [List.getElem?_append_left hl] at hx
      exact hK.2 k9 x hx
    · rw [List.getElem?_append_right (by omega)] at hx
      have h0 : k9 - tys.length < 1 := (List.getElem?_eq_some_iff.mp hx).1
      rw [show k9 - tys.length = 0 by omega] at hx
      cases hx
      exact ⟨hAr, fA⟩⟩
  obtain ⟨t, a1, b1⟩ := kk H.size (fun i => H.size + 1 + i) cA F.heap (fun i j _ _ h => by have h9 : H.size + 1 + i = H.size + 1 + j := h; omega) hnl hK2 (by rw [← vr_rows hnm]; exact vr_lay hP2) (by rw [← vr_rows hnm]; exact vr_layD hD2) ⟨by rw [f1]; have := hS.1; omega, fun x h1 h2 => (hold x (Nat.lt_of_lt_of_le h1 hS.1)).trans (hS.2.1 x h1 h2), hS.2.2⟩ F rfl X'
  refine ⟨t, step t ?_, b1⟩
  have e : T.heap.size = H.size := by rw [hT]
  rw [e]
  exact a1
end VGM
/-! ===== END ===== -/

/-! ===== BEGIN printed: names, fields, word lists, decode rows ===== -/
def RX0 : String := "ClubReads$Away"
def TX0 : u_T := fun k => match k with
  | 0 => ("ClubReads$Member", "kind", "I", true)
  | 1 => ("ClubReads$Member", "number", "I", true)
  | _ => ("ClubReads$Member", "v", "I", true)
def tyX0 : Nat → FieldType := fun k => match k with
  | 0 => .int
  | 1 => .int
  | _ => .int
abbrev wsX00 : List Cond := u_ws RX0 TX0 3
theorem nmX0 : ∀ a, a < 3 → ∀ b, b < 3 → a ≠ b → (TX0 a).2.1 ≠ (TX0 b).2.1 := by decide +kernel
theorem tyX0_ok : ∀ k, k < 3 → parseFieldDescriptor (TX0 k).2.2.1 = some (tyX0 k) := by decide +kernel
abbrev cX0_init : ByteArray := prog_2_method_1_code
def yX0_init : MethodName := ⟨RX0, "<init>", "(III)V"⟩
abbrev cX0_oddsOf : ByteArray := prog_2_method_2_code
def yX0_oddsOf : MethodName := ⟨RX0, "oddsOf", "(I)I"⟩
abbrev cX0_staysAway : ByteArray := prog_2_method_3_code
def yX0_staysAway : MethodName := ⟨RX0, "staysAway", "(I)Z"⟩
abbrev cX0_readOn : ByteArray := prog_2_method_4_code
def yX0_readOn : MethodName := ⟨RX0, "readOn", "(I[I)I"⟩
def RX1 : String := "ClubReads$Club"
def TX1 : u_T := fun k => match k with
  | 0 => ("ClubReads$Club", "come", "I", false)
  | 1 => ("ClubReads$Club", "place", "I", false)
  | 2 => ("ClubReads$Club", "clauseCount", "I", false)
  | 3 => ("ClubReads$Club", "codeCount", "I", false)
  | 4 => ("ClubReads$Club", "words", "[I", true)
  | 5 => ("ClubReads$Club", "numbers", "[I", true)
  | 6 => ("ClubReads$Club", "ends", "[I", true)
  | 7 => ("ClubReads$Club", "codes", "[I", true)
  | 8 => ("ClubReads$Club", "text", "[I", false)
  | _ => ("ClubReads$Club", "size", "I", false)
def tyX1 : Nat → FieldType := fun k => match k with
  | 0 => .int
  | 1 => .int
  | 2 => .int
  | 3 => .int
  | 4 => .array .int
  | 5 => .array .int
  | 6 => .array .int
  | 7 => .array .int
  | 8 => .array .int
  | _ => .int
abbrev wsX10 : List Cond := u_ws RX1 TX1 10
theorem nmX1 : ∀ a, a < 10 → ∀ b, b < 10 → a ≠ b → (TX1 a).2.1 ≠ (TX1 b).2.1 := by decide +kernel
theorem tyX1_ok : ∀ k, k < 10 → parseFieldDescriptor (TX1 k).2.2.1 = some (tyX1 k) := by decide +kernel
abbrev cX1_init : ByteArray := prog_3_method_1_code
def yX1_init : MethodName := ⟨RX1, "<init>", "()V"⟩
abbrev cX1_parse : ByteArray := prog_3_method_2_code
def yX1_parse : MethodName := ⟨RX1, "parse", "([II)Z"⟩
abbrev cX1_peek : ByteArray := prog_3_method_3_code
def yX1_peek : MethodName := ⟨RX1, "peek", "()I"⟩
abbrev cX1_take : ByteArray := prog_3_method_4_code
def yX1_take : MethodName := ⟨RX1, "take", "(I)Z"⟩
abbrev cX1_takeAll : ByteArray := prog_3_method_5_code
def yX1_takeAll : MethodName := ⟨RX1, "takeAll", "(Ljava/lang/String;)Z"⟩
abbrev cX1_parseClause : ByteArray := prog_3_method_6_code
def yX1_parseClause : MethodName := ⟨RX1, "parseClause", "(I)Z"⟩
abbrev cX1_parseWord : ByteArray := prog_3_method_7_code
def yX1_parseWord : MethodName := ⟨RX1, "parseWord", "()I"⟩
abbrev cX1_parseNumber : ByteArray := prog_3_method_8_code
def yX1_parseNumber : MethodName := ⟨RX1, "parseNumber", "()I"⟩
abbrev cX1_parseAny : ByteArray := prog_3_method_9_code
def yX1_parseAny : MethodName := ⟨RX1, "parseAny", "(I)Z"⟩
abbrev cX1_parseOne : ByteArray := prog_3_method_10_code
def yX1_parseOne : MethodName := ⟨RX1, "parseOne", "(I)Z"⟩
abbrev cX1_parseTest : ByteArray := prog_3_method_11_code
def yX1_parseTest : MethodName := ⟨RX1, "parseTest", "()Z"⟩
abbrev cX1_parseSign : ByteArray := prog_3_method_12_code
def yX1_parseSign : MethodName := ⟨RX1, "parseSign", "(Ljava/lang/String;)I"⟩
abbrev cX1_put : ByteArray := prog_3_method_13_code
def yX1_put : MethodName := ⟨RX1, "put", "(I)V"⟩
abbrev cX1_sum : ByteArray := prog_3_method_14_code
def yX1_sum : MethodName := ⟨RX1, "sum", "(I[I)I"⟩
abbrev cX1_holds : ByteArray := prog_3_method_15_code
def yX1_holds : MethodName := ⟨RX1, "holds", "(II[I)Z"⟩
abbrev cX1_testHolds : ByteArray := prog_3_method_16_code
def yX1_testHolds : MethodName := ⟨RX1, "testHolds", "(I[I)Z"⟩
def RX2 : String := "ClubReads$Following"
def TX2 : u_T := fun k => match k with
  | 0 => ("ClubReads$Member", "kind", "I", true)
  | 1 => ("ClubReads$Member", "number", "I", true)
  | _ => ("ClubReads$Member", "v", "I", true)
def tyX2 : Nat → FieldType := fun k => match k with
  | 0 => .int
  | 1 => .int
  | _ => .int
abbrev wsX20 : List Cond := u_ws RX2 TX2 3
theorem nmX2 : ∀ a, a < 3 → ∀ b, b < 3 → a ≠ b → (TX2 a).2.1 ≠ (TX2 b).2.1 := by decide +kernel
theorem tyX2_ok : ∀ k, k < 3 → parseFieldDescriptor (TX2 k).2.2.1 = some (tyX2 k) := by decide +kernel
abbrev cX2_init : ByteArray := prog_4_method_1_code
def yX2_init : MethodName := ⟨RX2, "<init>", "(III)V"⟩
abbrev cX2_say : ByteArray := prog_4_method_2_code
def yX2_say : MethodName := ⟨RX2, "say", "(LClubReads$Votes;[I)V"⟩
abbrev cX2_talk : ByteArray := prog_4_method_3_code
def yX2_talk : MethodName := ⟨RX2, "talk", "(I[I)I"⟩
def RX3 : String := "ClubReads$Hall"
def TX3 : u_T := fun k => match k with
  | 0 => ("ClubReads$Hall", "roll", "LClubReads$Roll;", true)
  | 1 => ("ClubReads$Hall", "members", "[LClubReads$Member;", true)
  | 2 => ("ClubReads$Hall", "memberCount", "I", false)
  | 3 => ("ClubReads$Hall", "books", "[[I", true)
  | 4 => ("ClubReads$Hall", "bookCount", "I", false)
  | 5 => ("ClubReads$Hall", "club", "LClubReads$Club;", false)
  | 6 => ("ClubReads$Hall", "clubCount", "I", false)
  | 7 => ("ClubReads$Hall", "tape", "[I", true)
  | 8 => ("ClubReads$Hall", "tapeSize", "I", false)
  | 9 => ("ClubReads$Hall", "hands", "[I", true)
  | 10 => ("ClubReads$Hall", "handCount", "I", false)
  | 11 => ("ClubReads$Hall", "likes", "[[I", true)
  | 12 => ("ClubReads$Hall", "odds", "[[I", true)
  | _ => ("ClubReads$Hall", "facts", "[I", true)
def tyX3 : Nat → FieldType := fun k => match k with
  | 0 => .object "ClubReads$Roll"
  | 1 => .array (.object "ClubReads$Member")
  | 2 => .int
  | 3 => .array (.array .int)
  | 4 => .int
  | 5 => .object "ClubReads$Club"
  | 6 => .int
  | 7 => .array .int
  | 8 => .int
  | 9 => .array .int
  | 10 => .int
  | 11 => .array (.array .int)
  | 12 => .array (.array .int)
  | _ => .array .int
abbrev wsX30 : List Cond := u_ws RX3 TX3 14
theorem nmX3 : ∀ a, a < 14 → ∀ b, b < 14 → a ≠ b → (TX3 a).2.1 ≠ (TX3 b).2.1 := by decide +kernel
theorem tyX3_ok : ∀ k, k < 14 → parseFieldDescriptor (TX3 k).2.2.1 = some (tyX3 k) := by decide +kernel
abbrev cX3_init : ByteArray := prog_5_method_1_code
def yX3_init : MethodName := ⟨RX3, "<init>", "()V"⟩
abbrev cX3_copyFrom : ByteArray := prog_5_method_2_code
def yX3_copyFrom : MethodName := ⟨RX3, "copyFrom", "(LClubReads$Hall;)V"⟩
abbrev cX3_addMember : ByteArray := prog_5_method_3_code
def yX3_addMember : MethodName := ⟨RX3, "addMember", "(LClubReads$Member;)V"⟩
abbrev cX3_addBook : ByteArray := prog_5_method_4_code
def yX3_addBook : MethodName := ⟨RX3, "addBook", "(IIII)V"⟩
abbrev cX3_measureAll : ByteArray := prog_5_method_5_code
def yX3_measureAll : MethodName := ⟨RX3, "measureAll", "()V"⟩
abbrev cX3_measure : ByteArray := prog_5_method_6_code
def yX3_measure : MethodName := ⟨RX3, "measure", "(II)V"⟩
abbrev cX3_attends : ByteArray := prog_5_method_7_code
def yX3_attends : MethodName := ⟨RX3, "attends", "(III)Z"⟩
abbrev cX3_putForward : ByteArray := prog_5_method_8_code
def yX3_putForward : MethodName := ⟨RX3, "putForward", "(LClubReads$Roll;)I"⟩
def RX4 : String := "ClubReads$Member"
def TX4 : u_T := fun k => match k with
  | 0 => ("ClubReads$Member", "kind", "I", true)
  | 1 => ("ClubReads$Member", "number", "I", true)
  | _ => ("ClubReads$Member", "v", "I", true)
def tyX4 : Nat → FieldType := fun k => match k with
  | 0 => .int
  | 1 => .int
  | _ => .int
abbrev wsX40 : List Cond := u_ws RX4 TX4 3
theorem nmX4 : ∀ a, a < 3 → ∀ b, b < 3 → a ≠ b → (TX4 a).2.1 ≠ (TX4 b).2.1 := by decide +kernel
theorem tyX4_ok : ∀ k, k < 3 → parseFieldDescriptor (TX4 k).2.2.1 = some (tyX4 k) := by decide +kernel
abbrev cX4_init : ByteArray := prog_6_method_1_code
def yX4_init : MethodName := ⟨RX4, "<init>", "(III)V"⟩
abbrev cX4_isOfKind : ByteArray := prog_6_method_2_code
def yX4_isOfKind : MethodName := ⟨RX4, "isOfKind", "(I)Z"⟩
abbrev cX4_extraLike : ByteArray := prog_6_method_3_code
def yX4_extraLike : MethodName := ⟨RX4, "extraLike", "(ZI)I"⟩
abbrev cX4_oddsOf : ByteArray := prog_6_method_4_code
def yX4_oddsOf : MethodName := ⟨RX4, "oddsOf", "(I)I"⟩
abbrev cX4_staysAway : ByteArray := prog_6_method_5_code
def yX4_staysAway : MethodName := ⟨RX4, "staysAway", "(I)Z"⟩
abbrev cX4_say : ByteArray := prog_6_method_6_code
def yX4_say : MethodName := ⟨RX4, "say", "(LClubReads$Votes;[I)V"⟩
abbrev cX4_wish : ByteArray := prog_6_method_7_code
def yX4_wish : MethodName := ⟨RX4, "wish", "(I[I)I"⟩
abbrev cX4_readOn : ByteArray := prog_6_method_8_code
def yX4_readOn : MethodName := ⟨RX4, "readOn", "(I[I)I"⟩
abbrev cX4_talk : ByteArray := prog_6_method_9_code
def yX4_talk : MethodName := ⟨RX4, "talk", "(I[I)I"⟩
abbrev cX4_begin : ByteArray := prog_6_method_10_code
def yX4_begin : MethodName := ⟨RX4, "begin", "(I[I)V"⟩
def RX5 : String := "ClubReads$Paying"
def TX5 : u_T := fun k => match k with
  | 0 => ("ClubReads$Member", "kind", "I", true)
  | 1 => ("ClubReads$Member", "number", "I", true)
  | _ => ("ClubReads$Member", "v", "I", true)
def tyX5 : Nat → FieldType := fun k => match k with
  | 0 => .int
  | 1 => .int
  | _ => .int
abbrev wsX50 : List Cond := u_ws RX5 TX5 3
theorem nmX5 : ∀ a, a < 3 → ∀ b, b < 3 → a ≠ b → (TX5 a).2.1 ≠ (TX5 b).2.1 := by decide +kernel
theorem tyX5_ok : ∀ k, k < 3 → parseFieldDescriptor (TX5 k).2.2.1 = some (tyX5 k) := by decide +kernel
abbrev cX5_init : ByteArray := prog_7_method_1_code
def yX5_init : MethodName := ⟨RX5, "<init>", "(III)V"⟩
abbrev cX5_say : ByteArray := prog_7_method_2_code
def yX5_say : MethodName := ⟨RX5, "say", "(LClubReads$Votes;[I)V"⟩
abbrev cX5_wish : ByteArray := prog_7_method_3_code
def yX5_wish : MethodName := ⟨RX5, "wish", "(I[I)I"⟩
def RX6 : String := "ClubReads$Proud"
def TX6 : u_T := fun k => match k with
  | 0 => ("ClubReads$Member", "kind", "I", true)
  | 1 => ("ClubReads$Member", "number", "I", true)
  | _ => ("ClubReads$Member", "v", "I", true)
def tyX6 : Nat → FieldType := fun k => match k with
  | 0 => .int
  | 1 => .int
  | _ => .int
abbrev wsX60 : List Cond := u_ws RX6 TX6 3
theorem nmX6 : ∀ a, a < 3 → ∀ b, b < 3 → a ≠ b → (TX6 a).2.1 ≠ (TX6 b).2.1 := by decide +kernel
theorem tyX6_ok : ∀ k, k < 3 → parseFieldDescriptor (TX6 k).2.2.1 = some (tyX6 k) := by decide +kernel
abbrev cX6_init : ByteArray := prog_8_method_1_code
def yX6_init : MethodName := ⟨RX6, "<init>", "(III)V"⟩
abbrev cX6_extraLike : ByteArray := prog_8_method_2_code
def yX6_extraLike : MethodName := ⟨RX6, "extraLike", "(ZI)I"⟩
abbrev cX6_readOn : ByteArray := prog_8_method_3_code
def yX6_readOn : MethodName := ⟨RX6, "readOn", "(I[I)I"⟩
def RX7 : String := "ClubReads$Roll"
def TX7 : u_T := fun k => match k with
  | 0 => ("ClubReads$Roll", "month", "I", false)
  | 1 => ("ClubReads$Roll", "here", "I", false)
  | 2 => ("ClubReads$Roll", "had", "I", false)
  | _ => ("ClubReads$Roll", "glad", "[I", true)
def tyX7 : Nat → FieldType := fun k => match k with
  | 0 => .int
  | 1 => .int
  | 2 => .int
  | _ => .array .int
abbrev wsX70 : List Cond := u_ws RX7 TX7 4
theorem nmX7 : ∀ a, a < 4 → ∀ b, b < 4 → a ≠ b → (TX7 a).2.1 ≠ (TX7 b).2.1 := by decide +kernel
theorem tyX7_ok : ∀ k, k < 4 → parseFieldDescriptor (TX7 k).2.2.1 = some (tyX7 k) := by decide +kernel
abbrev cX7_init : ByteArray := prog_9_method_1_code
def yX7_init : MethodName := ⟨RX7, "<init>", "()V"⟩
abbrev cX7_copyFrom : ByteArray := prog_9_method_2_code
def yX7_copyFrom : MethodName := ⟨RX7, "copyFrom", "(LClubReads$Roll;)V"⟩
abbrev cX7_isHere : ByteArray := prog_9_method_3_code
def yX7_isHere : MethodName := ⟨RX7, "isHere", "(I)Z"⟩
abbrev cX7_isHad : ByteArray := prog_9_method_4_code
def yX7_isHad : MethodName := ⟨RX7, "isHad", "(I)Z"⟩
abbrev cX7_setHad : ByteArray := prog_9_method_5_code
def yX7_setHad : MethodName := ⟨RX7, "setHad", "(IZ)V"⟩
abbrev cX7_enter : ByteArray := prog_9_method_6_code
def yX7_enter : MethodName := ⟨RX7, "enter", "(I)V"⟩
abbrev cX7_passMonth : ByteArray := prog_9_method_7_code
def yX7_passMonth : MethodName := ⟨RX7, "passMonth", "(LClubReads$Hall;I)I"⟩
abbrev cX7_countHere : ByteArray := prog_9_method_8_code
def yX7_countHere : MethodName := ⟨RX7, "countHere", "()I"⟩
abbrev cX7_sumGlad : ByteArray := prog_9_method_9_code
def yX7_sumGlad : MethodName := ⟨RX7, "sumGlad", "()I"⟩
abbrev cX7_isBetter : ByteArray := prog_9_method_10_code
def yX7_isBetter : MethodName := ⟨RX7, "isBetter", "(II)Z"⟩
def RX8 : String := "ClubReads$ShortLiking"
def TX8 : u_T := fun k => match k with
  | 0 => ("ClubReads$Member", "kind", "I", true)
  | 1 => ("ClubReads$Member", "number", "I", true)
  | _ => ("ClubReads$Member", "v", "I", true)
def tyX8 : Nat → FieldType := fun k => match k with
  | 0 => .int
  | 1 => .int
  | _ => .int
abbrev wsX80 : List Cond := u_ws RX8 TX8 3
theorem nmX8 : ∀ a, a < 3 → ∀ b, b < 3 → a ≠ b → (TX8 a).2.1 ≠ (TX8 b).2.1 := by decide +kernel
theorem tyX8_ok : ∀ k, k < 3 → parseFieldDescriptor (TX8 k).2.2.1 = some (tyX8 k) := by decide +kernel
abbrev cX8_init : ByteArray := prog_10_method_1_code
def yX8_init : MethodName := ⟨RX8, "<init>", "(III)V"⟩
abbrev cX8_extraLike : ByteArray := prog_10_method_2_code
def yX8_extraLike : MethodName := ⟨RX8, "extraLike", "(ZI)I"⟩
abbrev cX8_talk : ByteArray := prog_10_method_3_code
def yX8_talk : MethodName := ⟨RX8, "talk", "(I[I)I"⟩
def RX9 : String := "ClubReads$Striking"
def TX9 : u_T := fun k => match k with
  | 0 => ("ClubReads$Member", "kind", "I", true)
  | 1 => ("ClubReads$Member", "number", "I", true)
  | _ => ("ClubReads$Member", "v", "I", true)
def tyX9 : Nat → FieldType := fun k => match k with
  | 0 => .int
  | 1 => .int
  | _ => .int
abbrev wsX90 : List Cond := u_ws RX9 TX9 3
theorem nmX9 : ∀ a, a < 3 → ∀ b, b < 3 → a ≠ b → (TX9 a).2.1 ≠ (TX9 b).2.1 := by decide +kernel
theorem tyX9_ok : ∀ k, k < 3 → parseFieldDescriptor (TX9 k).2.2.1 = some (tyX9 k) := by decide +kernel
abbrev cX9_init : ByteArray := prog_11_method_1_code
def yX9_init : MethodName := ⟨RX9, "<init>", "(III)V"⟩
abbrev cX9_say : ByteArray := prog_11_method_2_code
def yX9_say : MethodName := ⟨RX9, "say", "(LClubReads$Votes;[I)V"⟩
abbrev cX9_wish : ByteArray := prog_11_method_3_code
def yX9_wish : MethodName := ⟨RX9, "wish", "(I[I)I"⟩
def RX10 : String := "ClubReads$Votes"
def TX10 : u_T := fun k => match k with
  | 0 => ("ClubReads$Votes", "hall", "LClubReads$Hall;", true)
  | 1 => ("ClubReads$Votes", "roll", "LClubReads$Roll;", false)
  | 2 => ("ClubReads$Votes", "open", "[I", true)
  | 3 => ("ClubReads$Votes", "openCount", "I", false)
  | 4 => ("ClubReads$Votes", "orders", "[[I", true)
  | 5 => ("ClubReads$Votes", "said", "[[I", true)
  | 6 => ("ClubReads$Votes", "speakers", "I", false)
  | 7 => ("ClubReads$Votes", "favourite", "I", false)
  | 8 => ("ClubReads$Votes", "hands", "[I", true)
  | 9 => ("ClubReads$Votes", "points", "[I", true)
  | 10 => ("ClubReads$Votes", "firsts", "[I", true)
  | 11 => ("ClubReads$Votes", "leads", "[[I", true)
  | 12 => ("ClubReads$Votes", "tried", "[I", true)
  | _ => ("ClubReads$Votes", "saidBefore", "[I", true)
def tyX10 : Nat → FieldType := fun k => match k with
  | 0 => .object "ClubReads$Hall"
  | 1 => .object "ClubReads$Roll"
  | 2 => .array .int
  | 3 => .int
  | 4 => .array (.array .int)
  | 5 => .array (.array .int)
  | 6 => .int
  | 7 => .int
  | 8 => .array .int
  | 9 => .array .int
  | 10 => .array .int
  | 11 => .array (.array .int)
  | 12 => .array .int
  | _ => .array .int
abbrev wsX100 : List Cond := u_ws RX10 TX10 14
theorem nmX10 : ∀ a, a < 14 → ∀ b, b < 14 → a ≠ b → (TX10 a).2.1 ≠ (TX10 b).2.1 := by decide +kernel
theorem tyX10_ok : ∀ k, k < 14 → parseFieldDescriptor (TX10 k).2.2.1 = some (tyX10 k) := by decide +kernel
abbrev cX10_init : ByteArray := prog_12_method_1_code
def yX10_init : MethodName := ⟨RX10, "<init>", "(LClubReads$Hall;)V"⟩
abbrev cX10_collect : ByteArray := prog_12_method_2_code
def yX10_collect : MethodName := ⟨RX10, "collect", "(LClubReads$Roll;)V"⟩
abbrev cX10_speakTrue : ByteArray := prog_12_method_3_code
def yX10_speakTrue : MethodName := ⟨RX10, "speakTrue", "()V"⟩
abbrev cX10_listOpen : ByteArray := prog_12_method_4_code
def yX10_listOpen : MethodName := ⟨RX10, "listOpen", "()V"⟩
abbrev cX10_sortOpen : ByteArray := prog_12_method_5_code
def yX10_sortOpen : MethodName := ⟨RX10, "sortOpen", "([I[I)V"⟩
abbrev cX10_findFavourite : ByteArray := prog_12_method_6_code
def yX10_findFavourite : MethodName := ⟨RX10, "findFavourite", "()I"⟩
abbrev cX10_speaks : ByteArray := prog_12_method_7_code
def yX10_speaks : MethodName := ⟨RX10, "speaks", "(I)Z"⟩
abbrev cX10_isHere : ByteArray := prog_12_method_8_code
def yX10_isHere : MethodName := ⟨RX10, "isHere", "(I)Z"⟩
abbrev cX10_putOrder : ByteArray := prog_12_method_9_code
def yX10_putOrder : MethodName := ⟨RX10, "putOrder", "(I[I)V"⟩
abbrev cX10_putLast : ByteArray := prog_12_method_10_code
def yX10_putLast : MethodName := ⟨RX10, "putLast", "(I[I)V"⟩
abbrev cX10_clearTallies : ByteArray := prog_12_method_11_code
def yX10_clearTallies : MethodName := ⟨RX10, "clearTallies", "()V"⟩
abbrev cX10_hear : ByteArray := prog_12_method_12_code
def yX10_hear : MethodName := ⟨RX10, "hear", "(I)V"⟩
abbrev cX10_tally : ByteArray := prog_12_method_13_code
def yX10_tally : MethodName := ⟨RX10, "tally", "([II)V"⟩
abbrev cX10_mostOf : ByteArray := prog_12_method_14_code
def yX10_mostOf : MethodName := ⟨RX10, "mostOf", "([II)I"⟩
abbrev cX10_pick : ByteArray := prog_12_method_15_code
def yX10_pick : MethodName := ⟨RX10, "pick", "(I)I"⟩
abbrev cX10_pickRounds : ByteArray := prog_12_method_16_code
def yX10_pickRounds : MethodName := ⟨RX10, "pickRounds", "()I"⟩
abbrev cX10_pickPairs : ByteArray := prog_12_method_17_code
def yX10_pickPairs : MethodName := ⟨RX10, "pickPairs", "()I"⟩
abbrev cX10_pickTurns : ByteArray := prog_12_method_18_code
def yX10_pickTurns : MethodName := ⟨RX10, "pickTurns", "()I"⟩
abbrev cX10_tellOtherwise : ByteArray := prog_12_method_19_code
def yX10_tellOtherwise : MethodName := ⟨RX10, "tellOtherwise", "(IIZ)I"⟩
abbrev cX10_silence : ByteArray := prog_12_method_20_code
def yX10_silence : MethodName := ⟨RX10, "silence", "(I)V"⟩
abbrev cX10_startRows : ByteArray := prog_12_method_21_code
def yX10_startRows : MethodName := ⟨RX10, "startRows", "()V"⟩
abbrev cX10_nextRow : ByteArray := prog_12_method_22_code
def yX10_nextRow : MethodName := ⟨RX10, "nextRow", "()Z"⟩
abbrev cX10_swap : ByteArray := prog_12_method_23_code
def yX10_swap : MethodName := ⟨RX10, "swap", "(II)V"⟩
def RX11 : String := "ClubReads"
def TX11 : u_T := fun k => match k with
  | 0 => ("ClubReads", "now", "LClubReads$Hall;", true)
  | 1 => ("ClubReads", "kept", "LClubReads$Hall;", true)
  | 2 => ("ClubReads", "trial", "LClubReads$Roll;", true)
  | 3 => ("ClubReads", "votes", "LClubReads$Votes;", true)
  | 4 => ("ClubReads", "bodies", "[I", true)
  | 5 => ("ClubReads", "chances", "[J", true)
  | 6 => ("ClubReads", "bestBooks", "[I", true)
  | 7 => ("ClubReads", "spare", "LClubReads$Club;", false)
  | _ => ("ClubReads", "hasImage", "Z", false)
def tyX11 : Nat → FieldType := fun k => match k with
  | 0 => .object "ClubReads$Hall"
  | 1 => .object "ClubReads$Hall"
  | 2 => .object "ClubReads$Roll"
  | 3 => .object "ClubReads$Votes"
  | 4 => .array .int
  | 5 => .array .long
  | 6 => .array .int
  | 7 => .object "ClubReads$Club"
  | _ => .boolean
abbrev wsX110 : List Cond := u_ws RX11 TX11 9
theorem nmX11 : ∀ a, a < 9 → ∀ b, b < 9 → a ≠ b → (TX11 a).2.1 ≠ (TX11 b).2.1 := by decide +kernel
theorem tyX11_ok : ∀ k, k < 9 → parseFieldDescriptor (TX11 k).2.2.1 = some (tyX11 k) := by decide +kernel
abbrev cX11_init : ByteArray := prog_1_method_1_code
def yX11_init : MethodName := ⟨RX11, "<init>", "()V"⟩
abbrev cX11_feed : ByteArray := prog_1_method_2_code
def yX11_feed : MethodName := ⟨RX11, "feed", "(I)I"⟩
abbrev cX11_club : ByteArray := prog_1_method_3_code
def yX11_club : MethodName := ⟨RX11, "club", "()I"⟩
abbrev cX11_member : ByteArray := prog_1_method_4_code
def yX11_member : MethodName := ⟨RX11, "member", "(II)I"⟩
abbrev cX11_newMember : ByteArray := prog_1_method_5_code
def yX11_newMember : MethodName := ⟨RX11, "newMember", "(III)LClubReads$Member;"⟩
abbrev cX11_book : ByteArray := prog_1_method_6_code
def yX11_book : MethodName := ⟨RX11, "book", "(IIII)I"⟩
abbrev cX11_of : ByteArray := prog_1_method_7_code
def yX11_of : MethodName := ⟨RX11, "of", "(II)I"⟩
abbrev cX11_at : ByteArray := prog_1_method_8_code
def yX11_at : MethodName := ⟨RX11, "at", "(II)I"⟩
abbrev cX11_told : ByteArray := prog_1_method_9_code
def yX11_told : MethodName := ⟨RX11, "told", "(I)I"⟩
abbrev cX11_had : ByteArray := prog_1_method_10_code
def yX11_had : MethodName := ⟨RX11, "had", "(IZ)I"⟩
abbrev cX11_like : ByteArray := prog_1_method_11_code
def yX11_like : MethodName := ⟨RX11, "like", "(II)I"⟩
abbrev cX11_order : ByteArray := prog_1_method_12_code
def yX11_order : MethodName := ⟨RX11, "order", "(III)I"⟩
abbrev cX11_chosen : ByteArray := prog_1_method_13_code
def yX11_chosen : MethodName := ⟨RX11, "chosen", "(II)I"⟩
abbrev cX11_alone : ByteArray := prog_1_method_14_code
def yX11_alone : MethodName := ⟨RX11, "alone", "(I)I"⟩
abbrev cX11_gain : ByteArray := prog_1_method_15_code
def yX11_gain : MethodName := ⟨RX11, "gain", "(II)I"⟩
abbrev cX11_reads : ByteArray := prog_1_method_16_code
def yX11_reads : MethodName := ⟨RX11, "reads", "(II)I"⟩
abbrev cX11_comes : ByteArray := prog_1_method_17_code
def yX11_comes : MethodName := ⟨RX11, "comes", "(II)I"⟩
abbrev cX11_enough : ByteArray := prog_1_method_18_code
def yX11_enough : MethodName := ⟨RX11, "enough", "(III)J"⟩
abbrev cX11_spreadChances : ByteArray := prog_1_method_19_code
def yX11_spreadChances : MethodName := ⟨RX11, "spreadChances", "(I)J"⟩
abbrev cX11_commonDivisor : ByteArray := prog_1_method_20_code
def yX11_commonDivisor : MethodName := ⟨RX11, "commonDivisor", "(JJ)J"⟩
abbrev cX11_month : ByteArray := prog_1_method_21_code
def yX11_month : MethodName := ⟨RX11, "month", "(I)I"⟩
abbrev cX11_by : ByteArray := prog_1_method_22_code
def yX11_by : MethodName := ⟨RX11, "by", "(I)I"⟩
abbrev cX11_run : ByteArray := prog_1_method_23_code
def yX11_run : MethodName := ⟨RX11, "run", "(III)I"⟩
abbrev cX11_tryMonths : ByteArray := prog_1_method_24_code
def yX11_tryMonths : MethodName := ⟨RX11, "tryMonths", "(II)I"⟩
abbrev cX11_best : ByteArray := prog_1_method_25_code
def yX11_best : MethodName := ⟨RX11, "best", "()I"⟩
abbrev cX11_row : ByteArray := prog_1_method_26_code
def yX11_row : MethodName := ⟨RX11, "row", "(I)I"⟩
abbrev cX11_findBestRow : ByteArray := prog_1_method_27_code
def yX11_findBestRow : MethodName := ⟨RX11, "findBestRow", "()V"⟩
abbrev cX11_hand : ByteArray := prog_1_method_28_code
def yX11_hand : MethodName := ⟨RX11, "hand", "(I)I"⟩
abbrev cX11_looked : ByteArray := prog_1_method_29_code
def yX11_looked : MethodName := ⟨RX11, "looked", "()I"⟩
abbrev cX11_act : ByteArray := prog_1_method_30_code
def yX11_act : MethodName := ⟨RX11, "act", "(III)I"⟩
abbrev cX11_trace : ByteArray := prog_1_method_31_code
def yX11_trace : MethodName := ⟨RX11, "trace", "(I)I"⟩
abbrev cX11_as : ByteArray := prog_1_method_32_code
def yX11_as : MethodName := ⟨RX11, "as", "(II)I"⟩
abbrev cX11_image : ByteArray := prog_1_method_33_code
def yX11_image : MethodName := ⟨RX11, "image", "()I"⟩
abbrev cX11_undo : ByteArray := prog_1_method_34_code
def yX11_undo : MethodName := ⟨RX11, "undo", "()I"⟩
abbrev cX11_count : ByteArray := prog_1_method_35_code
def yX11_count : MethodName := ⟨RX11, "count", "(I)I"⟩
abbrev cX11_isMember : ByteArray := prog_1_method_36_code
def yX11_isMember : MethodName := ⟨RX11, "isMember", "(I)Z"⟩
abbrev cX11_isBook : ByteArray := prog_1_method_37_code
def yX11_isBook : MethodName := ⟨RX11, "isBook", "(I)Z"⟩
abbrev cX11_isWay : ByteArray := prog_1_method_38_code
def yX11_isWay : MethodName := ⟨RX11, "isWay", "(I)Z"⟩
def RX12 : String := "ClubReadsModel"
def TX12 : u_T := fun k => match k with
  | 0 => ("ClubReadsModel", "thrown", "I", false)
  | 1 => ("ClubReadsModel", "s", "[I", true)
  | 2 => ("ClubReadsModel", "image", "[I", true)
  | 3 => ("ClubReadsModel", "frame", "[I", true)
  | 4 => ("ClubReadsModel", "hasImage", "Z", false)
  | 5 => ("ClubReadsModel", "act", "I", false)
  | 6 => ("ClubReadsModel", "spot", "I", false)
  | 7 => ("ClubReadsModel", "end", "I", false)
  | 8 => ("ClubReadsModel", "isWrong", "Z", false)
  | 9 => ("ClubReadsModel", "open", "I", false)
  | 10 => ("ClubReadsModel", "by", "[I", true)
  | 11 => ("ClubReadsModel", "truths", "[Z", true)
  | 12 => ("ClubReadsModel", "liking", "I", false)
  | 13 => ("ClubReadsModel", "reading", "I", false)
  | 14 => ("ClubReadsModel", "likes", "[I", true)
  | 15 => ("ClubReadsModel", "orders", "[I", true)
  | 16 => ("ClubReadsModel", "says", "[I", true)
  | 17 => ("ClubReadsModel", "sizes", "[I", true)
  | 18 => ("ClubReadsModel", "voices", "[I", true)
  | 19 => ("ClubReadsModel", "voiceSizes", "[I", true)
  | 20 => ("ClubReadsModel", "opens", "I", false)
  | 21 => ("ClubReadsModel", "isDone", "Z", false)
  | 22 => ("ClubReadsModel", "isAlone", "Z", false)
  | 23 => ("ClubReadsModel", "gained", "I", false)
  | 24 => ("ClubReadsModel", "ways", "[J", true)
  | 25 => ("ClubReadsModel", "cameAll", "I", false)
  | 26 => ("ClubReadsModel", "bestHere", "I", false)
  | 27 => ("ClubReadsModel", "bestGlad", "I", false)
  | 28 => ("ClubReadsModel", "stages", "[I", true)
  | 29 => ("ClubReadsModel", "row", "[I", true)
  | 30 => ("ClubReadsModel", "bestRow", "[I", true)
  | 31 => ("ClubReadsModel", "bodies", "[I", true)
  | 32 => ("ClubReadsModel", "ran", "I", false)
  | 33 => ("ClubReadsModel", "kind", "I", false)
  | 34 => ("ClubReadsModel", "number", "I", false)
  | _ => ("ClubReadsModel", "tellsV", "I", false)
def tyX12 : Nat → FieldType := fun k => match k with
  | 0 => .int
  | 1 => .array .int
  | 2 => .array .int
  | 3 => .array .int
  | 4 => .boolean
  | 5 => .int
  | 6 => .int
  | 7 => .int
  | 8 => .boolean
  | 9 => .int
  | 10 => .array .int
  | 11 => .array .boolean
  | 12 => .int
  | 13 => .int
  | 14 => .array .int
  | 15 => .array .int
  | 16 => .array .int
  | 17 => .array .int
  | 18 => .array .int
  | 19 => .array .int
  | 20 => .int
  | 21 => .boolean
  | 22 => .boolean
  | 23 => .int
  | 24 => .array .long
  | 25 => .int
  | 26 => .int
  | 27 => .int
  | 28 => .array .int
  | 29 => .array .int
  | 30 => .array .int
  | 31 => .array .int
  | 32 => .int
  | 33 => .int
  | 34 => .int
  | _ => .int
abbrev wsX120 : List Cond := u_ws RX12 TX12 36
theorem nmX12 : ∀ a, a < 36 → ∀ b, b < 36 → a ≠ b → (TX12 a).2.1 ≠ (TX12 b).2.1 := by decide +kernel
theorem tyX12_ok : ∀ k, k < 36 → parseFieldDescriptor (TX12 k).2.2.1 = some (tyX12 k) := by decide +kernel
abbrev cX12_init : ByteArray := prog_14_method_1_code
def yX12_init : MethodName := ⟨RX12, "<init>", "()V"⟩
abbrev cX12_in : ByteArray := prog_14_method_3_code
def yX12_in : MethodName := ⟨RX12, "in", "(III)Z"⟩
abbrev cX12_isMember : ByteArray := prog_14_method_4_code
def yX12_isMember : MethodName := ⟨RX12, "isMember", "(I)Z"⟩
abbrev cX12_isBook : ByteArray := prog_14_method_5_code
def yX12_isBook : MethodName := ⟨RX12, "isBook", "(I)Z"⟩
abbrev cX12_isWay : ByteArray := prog_14_method_6_code
def yX12_isWay : MethodName := ⟨RX12, "isWay", "(I)Z"⟩
abbrev cX12_isHere : ByteArray := prog_14_method_7_code
def yX12_isHere : MethodName := ⟨RX12, "isHere", "(I)Z"⟩
abbrev cX12_isOpen : ByteArray := prog_14_method_8_code
def yX12_isOpen : MethodName := ⟨RX12, "isOpen", "(I)Z"⟩
abbrev cX12_keeps : ByteArray := prog_14_method_9_code
def yX12_keeps : MethodName := ⟨RX12, "keeps", "()V"⟩
abbrev cX12_goesBack : ByteArray := prog_14_method_10_code
def yX12_goesBack : MethodName := ⟨RX12, "goesBack", "()V"⟩
abbrev cX12_feed : ByteArray := prog_14_method_11_code
def yX12_feed : MethodName := ⟨RX12, "feed", "(I)I"⟩
abbrev cX12_here : ByteArray := prog_14_method_12_code
def yX12_here : MethodName := ⟨RX12, "here", "()I"⟩
abbrev cX12_must : ByteArray := prog_14_method_13_code
def yX12_must : MethodName := ⟨RX12, "must", "(I)V"⟩
abbrev cX12_spells : ByteArray := prog_14_method_14_code
def yX12_spells : MethodName := ⟨RX12, "spells", "(Ljava/lang/String;)V"⟩
abbrev cX12_figures : ByteArray := prog_14_method_15_code
def yX12_figures : MethodName := ⟨RX12, "figures", "()I"⟩
abbrev cX12_among : ByteArray := prog_14_method_16_code
def yX12_among : MethodName := ⟨RX12, "among", "(Ljava/lang/String;)I"⟩
abbrev cX12_emits : ByteArray := prog_14_method_17_code
def yX12_emits : MethodName := ⟨RX12, "emits", "(I)V"⟩
abbrev cX12_factor : ByteArray := prog_14_method_18_code
def yX12_factor : MethodName := ⟨RX12, "factor", "()V"⟩
abbrev cX12_every : ByteArray := prog_14_method_19_code
def yX12_every : MethodName := ⟨RX12, "every", "()V"⟩
abbrev cX12_some : ByteArray := prog_14_method_20_code
def yX12_some : MethodName := ⟨RX12, "some", "()V"⟩
abbrev cX12_much : ByteArray := prog_14_method_21_code
def yX12_much : MethodName := ⟨RX12, "much", "(ILjava/lang/String;)V"⟩
abbrev cX12_clauseOfL : ByteArray := prog_14_method_22_code
def yX12_clauseOfL : MethodName := ⟨RX12, "clauseOfL", "()V"⟩
abbrev cX12_clauseHere : ByteArray := prog_14_method_23_code
def yX12_clauseHere : MethodName := ⟨RX12, "clauseHere", "()V"⟩
abbrev cX12_club : ByteArray := prog_14_method_24_code
def yX12_club : MethodName := ⟨RX12, "club", "()I"⟩
abbrev cX12_comeNow : ByteArray := prog_14_method_25_code
def yX12_comeNow : MethodName := ⟨RX12, "comeNow", "()I"⟩
abbrev cX12_member : ByteArray := prog_14_method_26_code
def yX12_member : MethodName := ⟨RX12, "member", "(II)I"⟩
abbrev cX12_book : ByteArray := prog_14_method_27_code
def yX12_book : MethodName := ⟨RX12, "book", "(IIII)I"⟩
abbrev cX12_of : ByteArray := prog_14_method_28_code
def yX12_of : MethodName := ⟨RX12, "of", "(II)I"⟩
abbrev cX12_at : ByteArray := prog_14_method_29_code
def yX12_at : MethodName := ⟨RX12, "at", "(II)I"⟩
abbrev cX12_membersHere : ByteArray := prog_14_method_30_code
def yX12_membersHere : MethodName := ⟨RX12, "membersHere", "()I"⟩
abbrev cX12_openBooks : ByteArray := prog_14_method_31_code
def yX12_openBooks : MethodName := ⟨RX12, "openBooks", "()I"⟩
abbrev cX12_count1 : ByteArray := prog_14_method_32_code
def yX12_count1 : MethodName := ⟨RX12, "count1", "(I)I"⟩
abbrev cX12_told : ByteArray := prog_14_method_33_code
def yX12_told : MethodName := ⟨RX12, "told", "(I)I"⟩
abbrev cX12_had : ByteArray := prog_14_method_34_code
def yX12_had : MethodName := ⟨RX12, "had", "(IZ)I"⟩
abbrev cX12_looks : ByteArray := prog_14_method_35_code
def yX12_looks : MethodName := ⟨RX12, "looks", "(II)V"⟩
abbrev cX12_likeOf : ByteArray := prog_14_method_36_code
def yX12_likeOf : MethodName := ⟨RX12, "likeOf", "(II)I"⟩
abbrev cX12_like : ByteArray := prog_14_method_37_code
def yX12_like : MethodName := ⟨RX12, "like", "(II)I"⟩
abbrev cX12_looksForLikes : ByteArray := prog_14_method_38_code
def yX12_looksForLikes : MethodName := ⟨RX12, "looksForLikes", "()V"⟩
abbrev cX12_sorts : ByteArray := prog_14_method_39_code
def yX12_sorts : MethodName := ⟨RX12, "sorts", "(I)V"⟩
abbrev cX12_firstOfMost : ByteArray := prog_14_method_40_code
def yX12_firstOfMost : MethodName := ⟨RX12, "firstOfMost", "()I"⟩
abbrev cX12_saysOf : ByteArray := prog_14_method_41_code
def yX12_saysOf : MethodName := ⟨RX12, "saysOf", "(III)V"⟩
abbrev cX12_isAwayNow : ByteArray := prog_14_method_42_code
def yX12_isAwayNow : MethodName := ⟨RX12, "isAwayNow", "(I)Z"⟩
abbrev cX12_speaks : ByteArray := prog_14_method_43_code
def yX12_speaks : MethodName := ⟨RX12, "speaks", "(I)V"⟩
abbrev cX12_looksForOrders : ByteArray := prog_14_method_44_code
def yX12_looksForOrders : MethodName := ⟨RX12, "looksForOrders", "()V"⟩
abbrev cX12_order : ByteArray := prog_14_method_45_code
def yX12_order : MethodName := ⟨RX12, "order", "(III)I"⟩
abbrev cX12_hears : ByteArray := prog_14_method_46_code
def yX12_hears : MethodName := ⟨RX12, "hears", "(Z)V"⟩
abbrev cX12_placeIn : ByteArray := prog_14_method_47_code
def yX12_placeIn : MethodName := ⟨RX12, "placeIn", "(II)I"⟩
abbrev cX12_countOf : ByteArray := prog_14_method_48_code
def yX12_countOf : MethodName := ⟨RX12, "countOf", "(II)I"⟩
abbrev cX12_mostBy : ByteArray := prog_14_method_49_code
def yX12_mostBy : MethodName := ⟨RX12, "mostBy", "(II)I"⟩
abbrev cX12_aheadBy : ByteArray := prog_14_method_50_code
def yX12_aheadBy : MethodName := ⟨RX12, "aheadBy", "(II)I"⟩
abbrev cX12_byRounds : ByteArray := prog_14_method_51_code
def yX12_byRounds : MethodName := ⟨RX12, "byRounds", "()I"⟩
abbrev cX12_byPairs : ByteArray := prog_14_method_52_code
def yX12_byPairs : MethodName := ⟨RX12, "byPairs", "()I"⟩
abbrev cX12_byTurns : ByteArray := prog_14_method_53_code
def yX12_byTurns : MethodName := ⟨RX12, "byTurns", "()I"⟩
abbrev cX12_chooses : ByteArray := prog_14_method_54_code
def yX12_chooses : MethodName := ⟨RX12, "chooses", "(I)I"⟩
abbrev cX12_chosenBy : ByteArray := prog_14_method_55_code
def yX12_chosenBy : MethodName := ⟨RX12, "chosenBy", "(IZ)I"⟩
abbrev cX12_chosen : ByteArray := prog_14_method_56_code
def yX12_chosen : MethodName := ⟨RX12, "chosen", "(II)I"⟩
abbrev cX12_ordersFrom : ByteArray := prog_14_method_57_code
def yX12_ordersFrom : MethodName := ⟨RX12, "ordersFrom", "(IIIII)V"⟩
abbrev cX12_tellsOther : ByteArray := prog_14_method_58_code
def yX12_tellsOther : MethodName := ⟨RX12, "tellsOther", "(II)V"⟩
abbrev cX12_alone : ByteArray := prog_14_method_59_code
def yX12_alone : MethodName := ⟨RX12, "alone", "(I)I"⟩
abbrev cX12_gain : ByteArray := prog_14_method_60_code
def yX12_gain : MethodName := ⟨RX12, "gain", "(II)I"⟩
abbrev cX12_readsOf : ByteArray := prog_14_method_61_code
def yX12_readsOf : MethodName := ⟨RX12, "readsOf", "(II)I"⟩
abbrev cX12_reads : ByteArray := prog_14_method_62_code
def yX12_reads : MethodName := ⟨RX12, "reads", "(II)I"⟩
abbrev cX12_doesCome : ByteArray := prog_14_method_63_code
def yX12_doesCome : MethodName := ⟨RX12, "doesCome", "(II)Z"⟩
abbrev cX12_comes : ByteArray := prog_14_method_64_code
def yX12_comes : MethodName := ⟨RX12, "comes", "(II)I"⟩
abbrev cX12_lowest : ByteArray := prog_14_method_65_code
def yX12_lowest : MethodName := ⟨RX12, "lowest", "(JJI)J"⟩
abbrev cX12_enough : ByteArray := prog_14_method_66_code
def yX12_enough : MethodName := ⟨RX12, "enough", "(III)J"⟩
abbrev cX12_goes : ByteArray := prog_14_method_67_code
def yX12_goes : MethodName := ⟨RX12, "goes", "(I)I"⟩
abbrev cX12_month : ByteArray := prog_14_method_68_code
def yX12_month : MethodName := ⟨RX12, "month", "(I)I"⟩
abbrev cX12_by : ByteArray := prog_14_method_69_code
def yX12_by : MethodName := ⟨RX12, "by", "(I)I"⟩
abbrev cX12_runs : ByteArray := prog_14_method_70_code
def yX12_runs : MethodName := ⟨RX12, "runs", "(II)V"⟩
abbrev cX12_membersHad : ByteArray := prog_14_method_71_code
def yX12_membersHad : MethodName := ⟨RX12, "membersHad", "()I"⟩
abbrev cX12_run : ByteArray := prog_14_method_72_code
def yX12_run : MethodName := ⟨RX12, "run", "(III)I"⟩
abbrev cX12_gladHere : ByteArray := prog_14_method_73_code
def yX12_gladHere : MethodName := ⟨RX12, "gladHere", "()I"⟩
abbrev cX12_isBetter : ByteArray := prog_14_method_74_code
def yX12_isBetter : MethodName := ⟨RX12, "isBetter", "()Z"⟩
abbrev cX12_best : ByteArray := prog_14_method_75_code
def yX12_best : MethodName := ⟨RX12, "best", "()I"⟩
abbrev cX12_rowsFrom : ByteArray := prog_14_method_76_code
def yX12_rowsFrom : MethodName := ⟨RX12, "rowsFrom", "(I)V"⟩
abbrev cX12_row : ByteArray := prog_14_method_77_code
def yX12_row : MethodName := ⟨RX12, "row", "(I)I"⟩
abbrev cX12_hand : ByteArray := prog_14_method_78_code
def yX12_hand : MethodName := ⟨RX12, "hand", "(I)I"⟩
abbrev cX12_looked : ByteArray := prog_14_method_79_code
def yX12_looked : MethodName := ⟨RX12, "looked", "()I"⟩
abbrev cX12_ranBody : ByteArray := prog_14_method_80_code
def yX12_ranBody : MethodName := ⟨RX12, "ranBody", "(I)V"⟩
abbrev cX12_isUnder : ByteArray := prog_14_method_81_code
def yX12_isUnder : MethodName := ⟨RX12, "isUnder", "(II)Z"⟩
abbrev cX12_plainWishes : ByteArray := prog_14_method_82_code
def yX12_plainWishes : MethodName := ⟨RX12, "plainWishes", "(I)I"⟩
abbrev cX12_wishesActs : ByteArray := prog_14_method_83_code
def yX12_wishesActs : MethodName := ⟨RX12, "wishesActs", "(I)I"⟩
abbrev cX12_plainReads : ByteArray := prog_14_method_84_code
def yX12_plainReads : MethodName := ⟨RX12, "plainReads", "(I)I"⟩
abbrev cX12_readsActs : ByteArray := prog_14_method_85_code
def yX12_readsActs : MethodName := ⟨RX12, "readsActs", "(I)I"⟩
abbrev cX12_plainTalks : ByteArray := prog_14_method_86_code
def yX12_plainTalks : MethodName := ⟨RX12, "plainTalks", "(I)I"⟩
abbrev cX12_talksActs : ByteArray := prog_14_method_87_code
def yX12_talksActs : MethodName := ⟨RX12, "talksActs", "(I)I"⟩
abbrev cX12_act : ByteArray := prog_14_method_88_code
def yX12_act : MethodName := ⟨RX12, "act", "(III)I"⟩
abbrev cX12_trace : ByteArray := prog_14_method_89_code
def yX12_trace : MethodName := ⟨RX12, "trace", "(I)I"⟩
abbrev cX12_as : ByteArray := prog_14_method_90_code
def yX12_as : MethodName := ⟨RX12, "as", "(II)I"⟩
abbrev cX12_image : ByteArray := prog_14_method_91_code
def yX12_image : MethodName := ⟨RX12, "image", "()I"⟩
abbrev cX12_undo : ByteArray := prog_14_method_92_code
def yX12_undo : MethodName := ⟨RX12, "undo", "()I"⟩
abbrev cX12_count : ByteArray := prog_14_method_93_code
def yX12_count : MethodName := ⟨RX12, "count", "(I)I"⟩
def RJ6 : String := "java/lang/Integer"
def TJ6 : u_T := fun k => match k with
  | _ => ("", "", "", false)
def tyJ6 : Nat → FieldType := fun k => match k with
  | _ => .int
abbrev wsJ60 : List Cond := u_ws RJ6 TJ6 0
theorem nmJ6 : ∀ a, a < 0 → ∀ b, b < 0 → a ≠ b → (TJ6 a).2.1 ≠ (TJ6 b).2.1 := by decide +kernel
theorem tyJ6_ok : ∀ k, k < 0 → parseFieldDescriptor (TJ6 k).2.2.1 = some (tyJ6 k) := by decide +kernel
abbrev cJ6_bitCount_0f7a4 : ByteArray := prog_15_method_49_code
def yJ6_bitCount_0f7a4 : MethodName := ⟨RJ6, "bitCount", "(I)I"⟩
def RJ9 : String := "java/lang/Math"
def TJ9 : u_T := fun k => match k with
  | _ => ("", "", "", false)
def tyJ9 : Nat → FieldType := fun k => match k with
  | _ => .int
abbrev wsJ90 : List Cond := u_ws RJ9 TJ9 0
theorem nmJ9 : ∀ a, a < 0 → ∀ b, b < 0 → a ≠ b → (TJ9 a).2.1 ≠ (TJ9 b).2.1 := by decide +kernel
theorem tyJ9_ok : ∀ k, k < 0 → parseFieldDescriptor (TJ9 k).2.2.1 = some (tyJ9 k) := by decide +kernel
abbrev cJ9_max_7cf53 : ByteArray := prog_16_method_65_code
def yJ9_max_7cf53 : MethodName := ⟨RJ9, "max", "(II)I"⟩
abbrev cJ9_min_7cf53 : ByteArray := prog_16_method_69_code
def yJ9_min_7cf53 : MethodName := ⟨RJ9, "min", "(II)I"⟩
def RJ0 : String := "java/lang/String"
def TJ0 : u_T := fun k => match k with
  | _ => ("", "", "", false)
def tyJ0 : Nat → FieldType := fun k => match k with
  | _ => .int
abbrev wsJ00 : List Cond := u_ws RJ0 TJ0 0
theorem nmJ0 : ∀ a, a < 0 → ∀ b, b < 0 → a ≠ b → (TJ0 a).2.1 ≠ (TJ0 b).2.1 := by decide +kernel
theorem tyJ0_ok : ∀ k, k < 0 → parseFieldDescriptor (TJ0 k).2.2.1 = some (tyJ0 k) := by decide +kernel
abbrev cJ0_length_8abf5 : ByteArray := prog_17_method_54_code
def yJ0_length_8abf5 : MethodName := ⟨RJ0, "length", "()I"⟩
abbrev cJ0_charAt_5068e : ByteArray := prog_17_method_56_code
def yJ0_charAt_5068e : MethodName := ⟨RJ0, "charAt", "(I)C"⟩
abbrev cJ0_coder_7d493 : ByteArray := prog_17_method_152_code
def yJ0_coder_7d493 : MethodName := ⟨RJ0, "coder", "()B"⟩
abbrev cJ0_isLatin1_aae02 : ByteArray := prog_17_method_154_code
def yJ0_isLatin1_aae02 : MethodName := ⟨RJ0, "isLatin1", "()Z"⟩
abbrev cJ0_checkIndex_df160 : ByteArray := prog_17_method_155_code
def yJ0_checkIndex_df160 : MethodName := ⟨RJ0, "checkIndex", "(II)V"⟩
def RJ1 : String := "java/lang/StringLatin1"
def TJ1 : u_T := fun k => match k with
  | _ => ("", "", "", false)
def tyJ1 : Nat → FieldType := fun k => match k with
  | _ => .int
abbrev wsJ10 : List Cond := u_ws RJ1 TJ1 0
theorem nmJ1 : ∀ a, a < 0 → ∀ b, b < 0 → a ≠ b → (TJ1 a).2.1 ≠ (TJ1 b).2.1 := by decide +kernel
theorem tyJ1_ok : ∀ k, k < 0 → parseFieldDescriptor (TJ1 k).2.2.1 = some (tyJ1 k) := by decide +kernel
abbrev cJ1_charAt_3b067 : ByteArray := prog_18_method_2_code
def yJ1_charAt_3b067 : MethodName := ⟨RJ1, "charAt", "([BI)C"⟩
def RJ2 : String := "java/lang/StringUTF16"
def TJ2 : u_T := fun k => match k with
  | _ => ("", "", "", false)
def tyJ2 : Nat → FieldType := fun k => match k with
  | _ => .int
abbrev wsJ20 : List Cond := u_ws RJ2 TJ2 0
theorem nmJ2 : ∀ a, a < 0 → ∀ b, b < 0 → a ≠ b → (TJ2 a).2.1 ≠ (TJ2 b).2.1 := by decide +kernel
theorem tyJ2_ok : ∀ k, k < 0 → parseFieldDescriptor (TJ2 k).2.2.1 = some (tyJ2 k) := by decide +kernel
abbrev cJ2_getChar_3b067 : ByteArray := prog_19_method_5_code
def yJ2_getChar_3b067 : MethodName := ⟨RJ2, "getChar", "([BI)C"⟩
abbrev cJ2_length_9d52b : ByteArray := prog_19_method_6_code
def yJ2_length_9d52b : MethodName := ⟨RJ2, "length", "([B)I"⟩
abbrev cJ2_charAt_3b067 : ByteArray := prog_19_method_83_code
def yJ2_charAt_3b067 : MethodName := ⟨RJ2, "charAt", "([BI)C"⟩
abbrev cJ2_checkIndex_2214a : ByteArray := prog_19_method_91_code
def yJ2_checkIndex_2214a : MethodName := ⟨RJ2, "checkIndex", "(I[B)V"⟩
def RJ10 : String := "java/lang/System"
def TJ10 : u_T := fun k => match k with
  | _ => ("", "", "", false)
def tyJ10 : Nat → FieldType := fun k => match k with
  | _ => .int
abbrev wsJ100 : List Cond := u_ws RJ10 TJ10 0
theorem nmJ10 : ∀ a, a < 0 → ∀ b, b < 0 → a ≠ b → (TJ10 a).2.1 ≠ (TJ10 b).2.1 := by decide +kernel
theorem tyJ10_ok : ∀ k, k < 0 → parseFieldDescriptor (TJ10 k).2.2.1 = some (tyJ10 k) := by decide +kernel
def RJ3 : String := "jdk/internal/util/Preconditions"
def TJ3 : u_T := fun k => match k with
  | _ => ("", "", "", false)
def tyJ3 : Nat → FieldType := fun k => match k with
  | _ => .int
abbrev wsJ30 : List Cond := u_ws RJ3 TJ3 0
theorem nmJ3 : ∀ a, a < 0 → ∀ b, b < 0 → a ≠ b → (TJ3 a).2.1 ≠ (TJ3 b).2.1 := by decide +kernel
theorem tyJ3_ok : ∀ k, k < 0 → parseFieldDescriptor (TJ3 k).2.2.1 = some (tyJ3 k) := by decide +kernel
abbrev cJ3_checkIndex_8e157 : ByteArray := prog_21_method_11_code
def yJ3_checkIndex_8e157 : MethodName := ⟨RJ3, "checkIndex", "(IILjava/util/function/BiFunction;)I"⟩
def RL : String := "ClubReadsLaw"
abbrev cL_law : ByteArray := code
def yL_law : MethodName := ⟨RL, "law", "([I)Z"⟩
abbrev vwCl : List vw_C := [(RX0, TX0, 3), (RX1, TX1, 10), (RX2, TX2, 3), (RX3, TX3, 14), (RX4, TX4, 3), (RX5, TX5, 3), (RX6, TX6, 3), (RX7, TX7, 4), (RX8, TX8, 3), (RX9, TX9, 3), (RX10, TX10, 14), (RX11, TX11, 9), (RX12, TX12, 36)]
end
section
/-! the machine as tables: written by program out of the claim's printed names and words -/
abbrev am_I : Type := Instr × Nat × Nat
def am_ms : List (MethodName × ByteArray × Nat × Option FieldType) := [
  (yL_law, cL_law, 4, (some .boolean)),
  (yX0_init, cX0_init, 4, none),
  (yX0_oddsOf, cX0_oddsOf, 2, (some .int)),
  (yX0_staysAway, cX0_staysAway, 3, (some .boolean)),
  (yX0_readOn, cX0_readOn, 3, (some .int)),
  (yX1_init, cX1_init, 1, none),
  (yX1_parse, cX1_parse, 4, (some .boolean)),
  (yX1_peek, cX1_peek, 1, (some .int)),
  (yX1_take, cX1_take, 2, (some .boolean)),
  (yX1_takeAll, cX1_takeAll, 3, (some .boolean)),
  (yX1_parseClause, cX1_parseClause, 4, (some .boolean)),
  (yX1_parseWord, cX1_parseWord, 1, (some .int)),
  (yX1_parseNumber, cX1_parseNumber, 3, (some .int)),
  (yX1_parseAny, cX1_parseAny, 5, (some .boolean)),
  (yX1_parseOne, cX1_parseOne, 3, (some .boolean)),
  (yX1_parseTest, cX1_parseTest, 4, (some .boolean)),
  (yX1_parseSign, cX1_parseSign, 4, (some .int)),
  (yX1_put, cX1_put, 2, none),
  (yX1_sum, cX1_sum, 5, (some .int)),
  (yX1_holds, cX1_holds, 8, (some .boolean)),
  (yX1_testHolds, cX1_testHolds, 5, (some .boolean)),
  (yX2_init, cX2_init, 4, none),
  (yX2_say, cX2_say, 3, none),
  (yX2_talk, cX2_talk, 3, (some .int)),
  (yX3_init, cX3_init, 3, none),
  (yX3_copyFrom, cX3_copyFrom, 3, none),
  (yX3_addMember, cX3_addMember, 2, none),
  (yX3_addBook, cX3_addBook, 6, none),
  (yX3_measureAll, cX3_measureAll, 3, none),
  (yX3_measure, cX3_measure, 8, none),
  (yX3_attends, cX3_attends, 4, (some .boolean)),
  (yX3_putForward, cX3_putForward, 4, (some .int)),
  (yX4_init, cX4_init, 4, none),
  (yX4_isOfKind, cX4_isOfKind, 2, (some .boolean)),
  (yX4_extraLike, cX4_extraLike, 3, (some .int)),
  (yX4_oddsOf, cX4_oddsOf, 2, (some .int)),
  (yX4_staysAway, cX4_staysAway, 2, (some .boolean)),
  (yX4_say, cX4_say, 3, none),
  (yX4_wish, cX4_wish, 3, (some .int)),
  (yX4_readOn, cX4_readOn, 3, (some .int)),
  (yX4_talk, cX4_talk, 3, (some .int)),
  (yX4_begin, cX4_begin, 2, none),
  (yX5_init, cX5_init, 4, none),
  (yX5_say, cX5_say, 3, none),
  (yX5_wish, cX5_wish, 3, (some .int)),
  (yX6_init, cX6_init, 4, none),
  (yX6_extraLike, cX6_extraLike, 3, (some .int)),
  (yX6_readOn, cX6_readOn, 3, (some .int)),
  (yX7_init, cX7_init, 1, none),
  (yX7_copyFrom, cX7_copyFrom, 2, none),
  (yX7_isHere, cX7_isHere, 2, (some .boolean)),
  (yX7_isHad, cX7_isHad, 2, (some .boolean)),
  (yX7_setHad, cX7_setHad, 3, none),
  (yX7_enter, cX7_enter, 2, none),
  (yX7_passMonth, cX7_passMonth, 5, (some .int)),
  (yX7_countHere, cX7_countHere, 1, (some .int)),
  (yX7_sumGlad, cX7_sumGlad, 3, (some .int)),
  (yX7_isBetter, cX7_isBetter, 4, (some .boolean)),
  (yX8_init, cX8_init, 4, none),
  (yX8_extraLike, cX8_extraLike, 3, (some .int)),
  (yX8_talk, cX8_talk, 3, (some .int)),
  (yX9_init, cX9_init, 4, none),
  (yX9_say, cX9_say, 3, none),
  (yX9_wish, cX9_wish, 3, (some .int)),
  (yX10_init, cX10_init, 2, none),
  (yX10_collect, cX10_collect, 3, none),
  (yX10_speakTrue, cX10_speakTrue, 2, none),
  (yX10_listOpen, cX10_listOpen, 2, none),
  (yX10_sortOpen, cX10_sortOpen, 6, none),
  (yX10_findFavourite, cX10_findFavourite, 6, (some .int)),
  (yX10_speaks, cX10_speaks, 2, (some .boolean)),
  (yX10_isHere, cX10_isHere, 2, (some .boolean)),
  (yX10_putOrder, cX10_putOrder, 3, none),
  (yX10_putLast, cX10_putLast, 4, none),
  (yX10_clearTallies, cX10_clearTallies, 3, none),
  (yX10_hear, cX10_hear, 2, none),
  (yX10_tally, cX10_tally, 6, none),
  (yX10_mostOf, cX10_mostOf, 6, (some .int)),
  (yX10_pick, cX10_pick, 2, (some .int)),
  (yX10_pickRounds, cX10_pickRounds, 4, (some .int)),
  (yX10_pickPairs, cX10_pickPairs, 4, (some .int)),
  (yX10_pickTurns, cX10_pickTurns, 4, (some .int)),
  (yX10_tellOtherwise, cX10_tellOtherwise, 11, (some .int)),
  (yX10_silence, cX10_silence, 2, none),
  (yX10_startRows, cX10_startRows, 1, none),
  (yX10_nextRow, cX10_nextRow, 5, (some .boolean)),
  (yX10_swap, cX10_swap, 4, none),
  (yX11_init, cX11_init, 1, none),
  (yX11_feed, cX11_feed, 2, (some .int)),
  (yX11_club, cX11_club, 2, (some .int)),
  (yX11_member, cX11_member, 3, (some .int)),
  (yX11_newMember, cX11_newMember, 3, (some (.object "ClubReads$Member"))),
  (yX11_book, cX11_book, 5, (some .int)),
  (yX11_of, cX11_of, 3, (some .int)),
  (yX11_at, cX11_at, 3, (some .int)),
  (yX11_told, cX11_told, 2, (some .int)),
  (yX11_had, cX11_had, 4, (some .int)),
  (yX11_like, cX11_like, 3, (some .int)),
  (yX11_order, cX11_order, 4, (some .int)),
  (yX11_chosen, cX11_chosen, 3, (some .int)),
  (yX11_alone, cX11_alone, 4, (some .int)),
  (yX11_gain, cX11_gain, 3, (some .int)),
  (yX11_reads, cX11_reads, 3, (some .int)),
  (yX11_comes, cX11_comes, 3, (some .int)),
  (yX11_enough, cX11_enough, 10, (some .long)),
  (yX11_spreadChances, cX11_spreadChances, 7, (some .long)),
  (yX11_commonDivisor, cX11_commonDivisor, 7, (some .long)),
  (yX11_month, cX11_month, 2, (some .int)),
  (yX11_by, cX11_by, 3, (some .int)),
  (yX11_run, cX11_run, 6, (some .int)),
  (yX11_tryMonths, cX11_tryMonths, 5, (some .int)),
  (yX11_best, cX11_best, 5, (some .int)),
  (yX11_row, cX11_row, 2, (some .int)),
  (yX11_findBestRow, cX11_findBestRow, 6, none),
  (yX11_hand, cX11_hand, 2, (some .int)),
  (yX11_looked, cX11_looked, 3, (some .int)),
  (yX11_act, cX11_act, 4, (some .int)),
  (yX11_trace, cX11_trace, 2, (some .int)),
  (yX11_as, cX11_as, 4, (some .int)),
  (yX11_image, cX11_image, 1, (some .int)),
  (yX11_undo, cX11_undo, 1, (some .int)),
  (yX11_count, cX11_count, 2, (some .int)),
  (yX11_isMember, cX11_isMember, 2, (some .boolean)),
  (yX11_isBook, cX11_isBook, 2, (some .boolean)),
  (yX11_isWay, cX11_isWay, 1, (some .boolean)),
  (yX12_init, cX12_init, 1, none),
  (yX12_in, cX12_in, 3, (some .boolean)),
  (yX12_isMember, cX12_isMember, 2, (some .boolean)),
  (yX12_isBook, cX12_isBook, 2, (some .boolean)),
  (yX12_isWay, cX12_isWay, 1, (some .boolean)),
  (yX12_isHere, cX12_isHere, 2, (some .boolean)),
  (yX12_isOpen, cX12_isOpen, 2, (some .boolean)),
  (yX12_keeps, cX12_keeps, 2, none),
  (yX12_goesBack, cX12_goesBack, 2, none),
  (yX12_feed, cX12_feed, 2, (some .int)),
  (yX12_here, cX12_here, 1, (some .int)),
  (yX12_must, cX12_must, 2, none),
  (yX12_spells, cX12_spells, 3, none),
  (yX12_figures, cX12_figures, 3, (some .int)),
  (yX12_among, cX12_among, 3, (some .int)),
  (yX12_emits, cX12_emits, 2, none),
  (yX12_factor, cX12_factor, 5, none),
  (yX12_every, cX12_every, 1, none),
  (yX12_some, cX12_some, 1, none),
  (yX12_much, cX12_much, 4, none),
  (yX12_clauseOfL, cX12_clauseOfL, 1, none),
  (yX12_clauseHere, cX12_clauseHere, 2, none),
  (yX12_club, cX12_club, 2, (some .int)),
  (yX12_comeNow, cX12_comeNow, 1, (some .int)),
  (yX12_member, cX12_member, 4, (some .int)),
  (yX12_book, cX12_book, 6, (some .int)),
  (yX12_of, cX12_of, 3, (some .int)),
  (yX12_at, cX12_at, 3, (some .int)),
  (yX12_membersHere, cX12_membersHere, 3, (some .int)),
  (yX12_openBooks, cX12_openBooks, 3, (some .int)),
  (yX12_count1, cX12_count1, 3, (some .int)),
  (yX12_told, cX12_told, 2, (some .int)),
  (yX12_had, cX12_had, 4, (some .int)),
  (yX12_looks, cX12_looks, 11, none),
  (yX12_likeOf, cX12_likeOf, 5, (some .int)),
  (yX12_like, cX12_like, 3, (some .int)),
  (yX12_looksForLikes, cX12_looksForLikes, 3, none),
  (yX12_sorts, cX12_sorts, 6, none),
  (yX12_firstOfMost, cX12_firstOfMost, 6, (some .int)),
  (yX12_saysOf, cX12_saysOf, 7, none),
  (yX12_isAwayNow, cX12_isAwayNow, 2, (some .boolean)),
  (yX12_speaks, cX12_speaks, 5, none),
  (yX12_looksForOrders, cX12_looksForOrders, 2, none),
  (yX12_order, cX12_order, 4, (some .int)),
  (yX12_hears, cX12_hears, 4, none),
  (yX12_placeIn, cX12_placeIn, 4, (some .int)),
  (yX12_countOf, cX12_countOf, 6, (some .int)),
  (yX12_mostBy, cX12_mostBy, 7, (some .int)),
  (yX12_aheadBy, cX12_aheadBy, 5, (some .int)),
  (yX12_byRounds, cX12_byRounds, 4, (some .int)),
  (yX12_byPairs, cX12_byPairs, 4, (some .int)),
  (yX12_byTurns, cX12_byTurns, 4, (some .int)),
  (yX12_chooses, cX12_chooses, 2, (some .int)),
  (yX12_chosenBy, cX12_chosenBy, 3, (some .int)),
  (yX12_chosen, cX12_chosen, 3, (some .int)),
  (yX12_ordersFrom, cX12_ordersFrom, 7, none),
  (yX12_tellsOther, cX12_tellsOther, 4, none),
  (yX12_alone, cX12_alone, 4, (some .int)),
  (yX12_gain, cX12_gain, 3, (some .int)),
  (yX12_readsOf, cX12_readsOf, 5, (some .int)),
  (yX12_reads, cX12_reads, 3, (some .int)),
  (yX12_doesCome, cX12_doesCome, 3, (some .boolean)),
  (yX12_comes, cX12_comes, 3, (some .int)),
  (yX12_lowest, cX12_lowest, 11, (some .long)),
  (yX12_enough, cX12_enough, 9, (some .long)),
  (yX12_goes, cX12_goes, 5, (some .int)),
  (yX12_month, cX12_month, 2, (some .int)),
  (yX12_by, cX12_by, 3, (some .int)),
  (yX12_runs, cX12_runs, 4, none),
  (yX12_membersHad, cX12_membersHad, 3, (some .int)),
  (yX12_run, cX12_run, 5, (some .int)),
  (yX12_gladHere, cX12_gladHere, 3, (some .int)),
  (yX12_isBetter, cX12_isBetter, 4, (some .boolean)),
  (yX12_best, cX12_best, 3, (some .int)),
  (yX12_rowsFrom, cX12_rowsFrom, 4, none),
  (yX12_row, cX12_row, 2, (some .int)),
  (yX12_hand, cX12_hand, 2, (some .int)),
  (yX12_looked, cX12_looked, 2, (some .int)),
  (yX12_ranBody, cX12_ranBody, 2, none),
  (yX12_isUnder, cX12_isUnder, 2, (some .boolean)),
  (yX12_plainWishes, cX12_plainWishes, 2, (some .int)),
  (yX12_wishesActs, cX12_wishesActs, 2, (some .int)),
  (yX12_plainReads, cX12_plainReads, 2, (some .int)),
  (yX12_readsActs, cX12_readsActs, 2, (some .int)),
  (yX12_plainTalks, cX12_plainTalks, 2, (some .int)),
  (yX12_talksActs, cX12_talksActs, 3, (some .int)),
  (yX12_act, cX12_act, 4, (some .int)),
  (yX12_trace, cX12_trace, 2, (some .int)),
  (yX12_as, cX12_as, 3, (some .int)),
  (yX12_image, cX12_image, 2, (some .int)),
  (yX12_undo, cX12_undo, 2, (some .int)),
  (yX12_count, cX12_count, 2, (some .int)),
  (yJ6_bitCount_0f7a4, cJ6_bitCount_0f7a4, 1, (some .int)),
  (yJ9_max_7cf53, cJ9_max_7cf53, 2, (some .int)),
  (yJ9_min_7cf53, cJ9_min_7cf53, 2, (some .int)),
  (yJ0_length_8abf5, cJ0_length_8abf5, 1, (some .int)),
  (yJ0_charAt_5068e, cJ0_charAt_5068e, 2, (some .char)),
  (yJ0_coder_7d493, cJ0_coder_7d493, 1, (some .byte)),
  (yJ0_isLatin1_aae02, cJ0_isLatin1_aae02, 1, (some .boolean)),
  (yJ1_charAt_3b067, cJ1_charAt_3b067, 2, (some .char)),
  (yJ0_checkIndex_df160, cJ0_checkIndex_df160, 2, none),
  (yJ3_checkIndex_8e157, cJ3_checkIndex_8e157, 3, (some .int)),
  (objectInit, object_method_1_code, 1, none)]
def am_c0 : List (Option am_I) := [some (.new 7, 3, 11), none, none, some (.dup, 1, 0), some (.invokespecial 9, 3, 0), none, none, some (.astore_n 1, 1, 0), some (.new 10, 3, 12), none, none, some (.dup, 1, 0), some (.invokespecial 12, 3, 1), none, none, some (.astore_n 2, 1, 0), some (.iconst 0, 1, 0), some (.istore_n 3, 1, 0), some (.iload_n 3, 1, 0), some (.aload_n 0, 1, 0), some (.arraylength, 1, 0), some (.iconst 5, 1, 0), some (.isub, 1, 0), some (.if_icmp .gt 991, 3, 1014), none, none, some (.aload_n 0, 1, 0), some (.iload_n 3, 1, 0), some (.iaload, 1, 0), some (.bipush 31, 2, 0), none, some (.iand, 1, 0), some (.tableswitch 976 0 28 #[132, 155, 168, 201, 254, 287, 320, 343, 392, 425, 468, 501, 524, 557, 590, 623, 667, 690, 713, 756, 769, 792, 815, 828, 871, 894, 927, 940, 953], 132, 0), none, none, none, none, none, none, none, none, none, none, none, none, none, none, none, none, none, none, none, none, none, none, none, none, none, none, none, none, none, none, none, none, none, none, none, none, none, none, none, none, none, none, none, none, none, none, none, none, none, none, none, none, none, none, none, none, none, none, none, none, none, none, none, none, none, none, none, none, none, none, none, none, none, none, none, none, none, none, none, none, none, none, none, none, none, none, none, none, none, none, none, none, none, none, none, none, none, none, none, none, none, none, none, none, none, none, none, none, none, none, none, none, none, none, none, none, none, none, none, none, none, none, none, none, none, none, none, none, none, none, none, some (.aload_n 1, 1, 0), some (.aload_n 0, 1, 0), some (.iload_n 3, 1, 0), some (.iconst 1, 1, 0), some (.iadd, 1, 0), some (.iaload, 1, 0), some (.invokevirtual 13, 3, 2), none, none, some (.aload_n 2, 1, 0), some (.aload_n 0, 1, 0), some (.iload_n 3, 1, 0), some (.iconst 1, 1, 0), some (.iadd, 1, 0), some (.iaload, 1, 0), some (.invokevirtual 17, 3, 3), none, none, some (.if_icmp .eq 826, 3, 1008), none, none, some (.iconst 0, 1, 0), some (.ireturn, 1, 0), some (.aload_n 1, 1, 0), some (.invokevirtual 18, 3, 4), none, none, some (.aload_n 2, 1, 0), some (.invokevirtual 22, 3, 5), none, none, some (.if_icmp .eq 813, 3, 1008), none, none, some (.iconst 0, 1, 0), some (.ireturn, 1, 0), some (.aload_n 1, 1, 0), some (.aload_n 0, 1, 0), some (.iload_n 3, 1, 0), some (.iconst 1, 1, 0), some (.iadd, 1, 0), some (.iaload, 1, 0), some (.aload_n 0, 1, 0), some (.iload_n 3, 1, 0), some (.iconst 2, 1, 0), some (.iadd, 1, 0), some (.iaload, 1, 0), some (.invokevirtual 23, 3, 6), none, none, some (.aload_n 2, 1, 0), some (.aload_n 0, 1, 0), some (.iload_n 3, 1, 0), some (.iconst 1, 1, 0), some (.iadd, 1, 0), some (.iaload, 1, 0), some (.aload_n 0, 1, 0), some (.iload_n 3, 1, 0), some (.iconst 2, 1, 0), some (.iadd, 1, 0), some (.iaload, 1, 0), some (.invokevirtual 27, 3, 7), none, none, some (.if_icmp .eq 780, 3, 1008), none, none, some (.iconst 0, 1, 0), some (.ireturn, 1, 0), some (.aload_n 1, 1, 0), some (.aload_n 0, 1, 0), some (.iload_n 3, 1, 0), some (.iconst 1, 1, 0), some (.iadd, 1, 0), some (.iaload, 1, 0), some (.aload_n 0, 1, 0), some (.iload_n 3, 1, 0), some (.iconst 2, 1, 0), some (.iadd, 1, 0), some (.iaload, 1, 0), some (.aload_n 0, 1, 0), some (.iload_n 3, 1, 0), some (.iconst 3, 1, 0), some (.iadd, 1, 0), some (.iaload, 1, 0), some (.aload_n 0, 1, 0), some (.iload_n 3, 1, 0), some (.iconst 4, 1, 0), some (.iadd, 1, 0), some (.iaload, 1, 0), some (.invokevirtual 28, 3, 8), none, none, some (.aload_n 2, 1, 0), some (.aload_n 0, 1, 0), some (.iload_n 3, 1, 0), some (.iconst 1, 1, 0), some (.iadd, 1, 0), some (.iaload, 1, 0), some (.aload_n 0, 1, 0), some (.iload_n 3, 1, 0), some (.iconst 2, 1, 0), some (.iadd, 1, 0), some (.iaload, 1, 0), some (.aload_n 0, 1, 0), some (.iload_n 3, 1, 0), some (.iconst 3, 1, 0), some (.iadd, 1, 0), some (.iaload, 1, 0), some (.aload_n 0, 1, 0), some (.iload_n 3, 1, 0), some (.iconst 4, 1, 0), some (.iadd, 1, 0), some (.iaload, 1, 0), some (.invokevirtual 32, 3, 9), none, none, some (.if_icmp .eq 727, 3, 1008), none, none, some (.iconst 0, 1, 0), some (.ireturn, 1, 0), some (.aload_n 1, 1, 0), some (.aload_n 0, 1, 0), some (.iload_n 3, 1, 0), some (.iconst 1, 1, 0), some (.iadd, 1, 0), some (.iaload, 1, 0), some (.aload_n 0, 1, 0), some (.iload_n 3, 1, 0), some (.iconst 2, 1, 0), some (.iadd, 1, 0), some (.iaload, 1, 0), some (.invokevirtual 33, 3, 10), none, none, some (.aload_n 2, 1, 0), some (.aload_n 0, 1, 0), some (.iload_n 3, 1, 0), some (.iconst 1, 1, 0), some (.iadd, 1, 0), some (.iaload, 1, 0), some (.aload_n 0, 1, 0), some (.iload_n 3, 1, 0), some (.iconst 2, 1, 0), some (.iadd, 1, 0), some (.iaload, 1, 0), some (.invokevirtual 36, 3, 11), none, none, some (.if_icmp .eq 694, 3, 1008), none, none, some (.iconst 0, 1, 0), some (.ireturn, 1, 0), some (.aload_n 1, 1, 0), some (.aload_n 0, 1, 0), some (.iload_n 3, 1, 0), some (.iconst 1, 1, 0), some (.iadd, 1, 0), some (.iaload, 1, 0), some (.aload_n 0, 1, 0), some (.iload_n 3, 1, 0), some (.iconst 2, 1, 0), some (.iadd, 1, 0), some (.iaload, 1, 0), some (.invokevirtual 37, 3, 12), none, none, some (.aload_n 2, 1, 0), some (.aload_n 0, 1, 0), some (.iload_n 3, 1, 0), some (.iconst 1, 1, 0), some (.iadd, 1, 0), some (.iaload, 1, 0), some (.aload_n 0, 1, 0), some (.iload_n 3, 1, 0), some (.iconst 2, 1, 0), some (.iadd, 1, 0), some (.iaload, 1, 0), some (.invokevirtual 40, 3, 13), none, none, some (.if_icmp .eq 661, 3, 1008), none, none, some (.iconst 0, 1, 0), some (.ireturn, 1, 0), some (.aload_n 1, 1, 0), some (.aload_n 0, 1, 0), some (.iload_n 3, 1, 0), some (.iconst 1, 1, 0), some (.iadd, 1, 0), some (.iaload, 1, 0), some (.invokevirtual 41, 3, 14), none, none, some (.aload_n 2, 1, 0), some (.aload_n 0, 1, 0), some (.iload_n 3, 1, 0), some (.iconst 1, 1, 0), some (.iadd, 1, 0), some (.iaload, 1, 0), some (.invokevirtual 44, 3, 15), none, none, some (.if_icmp .eq 638, 3, 1008), none, none, some (.iconst 0, 1, 0), some (.ireturn, 1, 0), some (.aload_n 1, 1, 0), some (.aload_n 0, 1, 0), some (.iload_n 3, 1, 0), some (.iconst 1, 1, 0), some (.iadd, 1, 0), some (.iaload, 1, 0), some (.aload_n 0, 1, 0), some (.iload_n 3, 1, 0), some (.iconst 2, 1, 0), some (.iadd, 1, 0), some (.iaload, 1, 0), some (.ifCond .eq 7, 3, 393), none, none, some (.iconst 1, 1, 0), some (.goto 4, 3, 394), none, none, some (.iconst 0, 1, 0), some (.invokevirtual 45, 3, 16), none, none, some (.aload_n 2, 1, 0), some (.aload_n 0, 1, 0), some (.iload_n 3, 1, 0), some (.iconst 1, 1, 0), some (.iadd, 1, 0), some (.iaload, 1, 0), some (.aload_n 0, 1, 0), some (.iload_n 3, 1, 0), some (.iconst 2, 1, 0), some (.iadd, 1, 0), some (.iaload, 1, 0), some (.ifCond .eq 7, 3, 415), none, none, some (.iconst 1, 1, 0), some (.goto 4, 3, 416), none, none, some (.iconst 0, 1, 0), some (.invokevirtual 49, 3, 17), none, none, some (.if_icmp .eq 589, 3, 1008), none, none, some (.iconst 0, 1, 0), some (.ireturn, 1, 0), some (.aload_n 1, 1, 0), some (.aload_n 0, 1, 0), some (.iload_n 3, 1, 0), some (.iconst 1, 1, 0), some (.iadd, 1, 0), some (.iaload, 1, 0), some (.aload_n 0, 1, 0), some (.iload_n 3, 1, 0), some (.iconst 2, 1, 0), some (.iadd, 1, 0), some (.iaload, 1, 0), some (.invokevirtual 50, 3, 18), none, none, some (.aload_n 2, 1, 0), some (.aload_n 0, 1, 0), some (.iload_n 3, 1, 0), some (.iconst 1, 1, 0), some (.iadd, 1, 0), some (.iaload, 1, 0), some (.aload_n 0, 1, 0), some (.iload_n 3, 1, 0), some (.iconst 2, 1, 0), some (.iadd, 1, 0), some (.iaload, 1, 0), some (.invokevirtual 53, 3, 19), none, none, some (.if_icmp .eq 556, 3, 1008), none, none, some (.iconst 0, 1, 0), some (.ireturn, 1, 0), some (.aload_n 1, 1, 0), some (.aload_n 0, 1, 0), some (.iload_n 3, 1, 0), some (.iconst 1, 1, 0), some (.iadd, 1, 0), some (.iaload, 1, 0), some (.aload_n 0, 1, 0), some (.iload_n 3, 1, 0), some (.iconst 2, 1, 0), some (.iadd, 1, 0), some (.iaload, 1, 0), some (.aload_n 0, 1, 0), some (.iload_n 3, 1, 0), some (.iconst 3, 1, 0), some (.iadd, 1, 0), some (.iaload, 1, 0), some (.invokevirtual 54, 3, 20), none, none, some (.aload_n 2, 1, 0), some (.aload_n 0, 1, 0), some (.iload_n 3, 1, 0), some (.iconst 1, 1, 0), some (.iadd, 1, 0), some (.iaload, 1, 0), some (.aload_n 0, 1, 0), some (.iload_n 3, 1, 0), some (.iconst 2, 1, 0), some (.iadd, 1, 0), some (.iaload, 1, 0), some (.aload_n 0, 1, 0), some (.iload_n 3, 1, 0), some (.iconst 3, 1, 0), some (.iadd, 1, 0), some (.iaload, 1, 0), some (.invokevirtual 58, 3, 21), none, none, some (.if_icmp .eq 513, 3, 1008), none, none, some (.iconst 0, 1, 0), some (.ireturn, 1, 0), some (.aload_n 1, 1, 0), some (.aload_n 0, 1, 0), some (.iload_n 3, 1, 0), some (.iconst 1, 1, 0), some (.iadd, 1, 0), some (.iaload, 1, 0), some (.aload_n 0, 1, 0), some (.iload_n 3, 1, 0), some (.iconst 2, 1, 0), some (.iadd, 1, 0), some (.iaload, 1, 0), some (.invokevirtual 59, 3, 22), none, none, some (.aload_n 2, 1, 0), some (.aload_n 0, 1, 0), some (.iload_n 3, 1, 0), some (.iconst 1, 1, 0), some (.iadd, 1, 0), some (.iaload, 1, 0), some (.aload_n 0, 1, 0), some (.iload_n 3, 1, 0), some (.iconst 2, 1, 0), some (.iadd, 1, 0), some (.iaload, 1, 0), some (.invokevirtual 62, 3, 23), none, none, some (.if_icmp .eq 480, 3, 1008), none, none, some (.iconst 0, 1, 0), some (.ireturn, 1, 0), some (.aload_n 1, 1, 0), some (.aload_n 0, 1, 0), some (.iload_n 3, 1, 0), some (.iconst 1, 1, 0), some (.iadd, 1, 0), some (.iaload, 1, 0), some (.invokevirtual 63, 3, 24), none, none, some (.aload_n 2, 1, 0), some (.aload_n 0, 1, 0), some (.iload_n 3, 1, 0), some (.iconst 1, 1, 0), some (.iadd, 1, 0), some (.iaload, 1, 0), some (.invokevirtual 66, 3, 25), none, none, some (.if_icmp .eq 457, 3, 1008), none, none, some (.iconst 0, 1, 0), some (.ireturn, 1, 0), some (.aload_n 1, 1, 0), some (.aload_n 0, 1, 0), some (.iload_n 3, 1, 0), some (.iconst 1, 1, 0), some (.iadd, 1, 0), some (.iaload, 1, 0), some (.aload_n 0, 1, 0), some (.iload_n 3, 1, 0), some (.iconst 2, 1, 0), some (.iadd, 1, 0), some (.iaload, 1, 0), some (.invokevirtual 67, 3, 26), none, none, some (.aload_n 2, 1, 0), some (.aload_n 0, 1, 0), some (.iload_n 3, 1, 0), some (.iconst 1, 1, 0), some (.iadd, 1, 0), some (.iaload, 1, 0), some (.aload_n 0, 1, 0), some (.iload_n 3, 1, 0), some (.iconst 2, 1, 0), some (.iadd, 1, 0), some (.iaload, 1, 0), some (.invokevirtual 70, 3, 27), none, none, some (.if_icmp .eq 424, 3, 1008), none, none, some (.iconst 0, 1, 0), some (.ireturn, 1, 0), some (.aload_n 1, 1, 0), some (.aload_n 0, 1, 0), some (.iload_n 3, 1, 0), some (.iconst 1, 1, 0), some (.iadd, 1, 0), some (.iaload, 1, 0), some (.aload_n 0, 1, 0), some (.iload_n 3, 1, 0), some (.iconst 2, 1, 0), some (.iadd, 1, 0), some (.iaload, 1, 0), some (.invokevirtual 71, 3, 28), none, none, some (.aload_n 2, 1, 0), some (.aload_n 0, 1, 0), some (.iload_n 3, 1, 0), some (.iconst 1, 1, 0), some (.iadd, 1, 0), some (.iaload, 1, 0), some (.aload_n 0, 1, 0), some (.iload_n 3, 1, 0), some (.iconst 2, 1, 0), some (.iadd, 1, 0), some (.iaload, 1, 0), some (.invokevirtual 74, 3, 29), none, none, some (.if_icmp .eq 391, 3, 1008), none, none, some (.iconst 0, 1, 0), some (.ireturn, 1, 0), some (.aload_n 1, 1, 0), some (.aload_n 0, 1, 0), some (.iload_n 3, 1, 0), some (.iconst 1, 1, 0), some (.iadd, 1, 0), some (.iaload, 1, 0), some (.aload_n 0, 1, 0), some (.iload_n 3, 1, 0), some (.iconst 2, 1, 0), some (.iadd, 1, 0), some (.iaload, 1, 0), some (.invokevirtual 75, 3, 30), none, none, some (.aload_n 2, 1, 0), some (.aload_n 0, 1, 0), some (.iload_n 3, 1, 0), some (.iconst 1, 1, 0), some (.iadd, 1, 0), some (.iaload, 1, 0), some (.aload_n 0, 1, 0), some (.iload_n 3, 1, 0), some (.iconst 2, 1, 0), some (.iadd, 1, 0), some (.iaload, 1, 0), some (.invokevirtual 78, 3, 31), none, none, some (.if_icmp .eq 358, 3, 1008), none, none, some (.iconst 0, 1, 0), some (.ireturn, 1, 0), some (.aload_n 1, 1, 0), some (.aload_n 0, 1, 0), some (.iload_n 3, 1, 0), some (.iconst 1, 1, 0), some (.iadd, 1, 0), some (.iaload, 1, 0), some (.aload_n 0, 1, 0), some (.iload_n 3, 1, 0), some (.iconst 2, 1, 0), some (.iadd, 1, 0), some (.iaload, 1, 0), some (.aload_n 0, 1, 0), some (.iload_n 3, 1, 0), some (.iconst 3, 1, 0), some (.iadd, 1, 0), some (.iaload, 1, 0), some (.invokevirtual 79, 3, 32), none, none, some (.aload_n 2, 1, 0), some (.aload_n 0, 1, 0), some (.iload_n 3, 1, 0), some (.iconst 1, 1, 0), some (.iadd, 1, 0), some (.iaload, 1, 0), some (.aload_n 0, 1, 0), some (.iload_n 3, 1, 0), some (.iconst 2, 1, 0), some (.iadd, 1, 0), some (.iaload, 1, 0), some (.aload_n 0, 1, 0), some (.iload_n 3, 1, 0), some (.iconst 3, 1, 0), some (.iadd, 1, 0), some (.iaload, 1, 0), some (.invokevirtual 83, 3, 33), none, none, some (.lcmp, 1, 0), some (.ifCond .eq 314, 3, 1008), none, none, some (.iconst 0, 1, 0), some (.ireturn, 1, 0), some (.aload_n 1, 1, 0), some (.aload_n 0, 1, 0), some (.iload_n 3, 1, 0), some (.iconst 1, 1, 0), some (.iadd, 1, 0), some (.iaload, 1, 0), some (.invokevirtual 84, 3, 34), none, none, some (.aload_n 2, 1, 0), some (.aload_n 0, 1, 0), some (.iload_n 3, 1, 0), some (.iconst 1, 1, 0), some (.iadd, 1, 0), some (.iaload, 1, 0), some (.invokevirtual 87, 3, 35), none, none, some (.if_icmp .eq 291, 3, 1008), none, none, some (.iconst 0, 1, 0), some (.ireturn, 1, 0), some (.aload_n 1, 1, 0), some (.aload_n 0, 1, 0), some (.iload_n 3, 1, 0), some (.iconst 1, 1, 0), some (.iadd, 1, 0), some (.iaload, 1, 0), some (.invokevirtual 88, 3, 36), none, none, some (.aload_n 2, 1, 0), some (.aload_n 0, 1, 0), some (.iload_n 3, 1, 0), some (.iconst 1, 1, 0), some (.iadd, 1, 0), some (.iaload, 1, 0), some (.invokevirtual 91, 3, 37), none, none, some (.if_icmp .eq 268, 3, 1008), none, none, some (.iconst 0, 1, 0), some (.ireturn, 1, 0), some (.aload_n 1, 1, 0), some (.aload_n 0, 1, 0), some (.iload_n 3, 1, 0), some (.iconst 1, 1, 0), some (.iadd, 1, 0), some (.iaload, 1, 0), some (.aload_n 0, 1, 0), some (.iload_n 3, 1, 0), some (.iconst 2, 1, 0), some (.iadd, 1, 0), some (.iaload, 1, 0), some (.aload_n 0, 1, 0), some (.iload_n 3, 1, 0), some (.iconst 3, 1, 0), some (.iadd, 1, 0), some (.iaload, 1, 0), some (.invokevirtual 92, 3, 38), none, none, some (.aload_n 2, 1, 0), some (.aload_n 0, 1, 0), some (.iload_n 3, 1, 0), some (.iconst 1, 1, 0), some (.iadd, 1, 0), some (.iaload, 1, 0), some (.aload_n 0, 1, 0), some (.iload_n 3, 1, 0), some (.iconst 2, 1, 0), some (.iadd, 1, 0), some (.iaload, 1, 0), some (.aload_n 0, 1, 0), some (.iload_n 3, 1, 0), some (.iconst 3, 1, 0), some (.iadd, 1, 0), some (.iaload, 1, 0), some (.invokevirtual 95, 3, 39), none, none, some (.if_icmp .eq 225, 3, 1008), none, none, some (.iconst 0, 1, 0), some (.ireturn, 1, 0), some (.aload_n 1, 1, 0), some (.invokevirtual 96, 3, 40), none, none, some (.aload_n 2, 1, 0), some (.invokevirtual 99, 3, 41), none, none, some (.if_icmp .eq 212, 3, 1008), none, none, some (.iconst 0, 1, 0), some (.ireturn, 1, 0), some (.aload_n 1, 1, 0), some (.aload_n 0, 1, 0), some (.iload_n 3, 1, 0), some (.iconst 1, 1, 0), some (.iadd, 1, 0), some (.iaload, 1, 0), some (.invokevirtual 100, 3, 42), none, none, some (.aload_n 2, 1, 0), some (.aload_n 0, 1, 0), some (.iload_n 3, 1, 0), some (.iconst 1, 1, 0), some (.iadd, 1, 0), some (.iaload, 1, 0), some (.invokevirtual 103, 3, 43), none, none, some (.if_icmp .eq 189, 3, 1008), none, none, some (.iconst 0, 1, 0), some (.ireturn, 1, 0), some (.aload_n 1, 1, 0), some (.aload_n 0, 1, 0), some (.iload_n 3, 1, 0), some (.iconst 1, 1, 0), some (.iadd, 1, 0), some (.iaload, 1, 0), some (.invokevirtual 104, 3, 44), none, none, some (.aload_n 2, 1, 0), some (.aload_n 0, 1, 0), some (.iload_n 3, 1, 0), some (.iconst 1, 1, 0), some (.iadd, 1, 0), some (.iaload, 1, 0), some (.invokevirtual 107, 3, 45), none, none, some (.if_icmp .eq 166, 3, 1008), none, none, some (.iconst 0, 1, 0), some (.ireturn, 1, 0), some (.aload_n 1, 1, 0), some (.invokevirtual 108, 3, 46), none, none, some (.aload_n 2, 1, 0), some (.invokevirtual 111, 3, 47), none, none, some (.if_icmp .eq 153, 3, 1008), none, none, some (.iconst 0, 1, 0), some (.ireturn, 1, 0), some (.aload_n 1, 1, 0), some (.aload_n 0, 1, 0), some (.iload_n 3, 1, 0), some (.iconst 1, 1, 0), some (.iadd, 1, 0), some (.iaload, 1, 0), some (.aload_n 0, 1, 0), some (.iload_n 3, 1, 0), some (.iconst 2, 1, 0), some (.iadd, 1, 0), some (.iaload, 1, 0), some (.aload_n 0, 1, 0), some (.iload_n 3, 1, 0), some (.iconst 3, 1, 0), some (.iadd, 1, 0), some (.iaload, 1, 0), some (.invokevirtual 112, 3, 48), none, none, some (.aload_n 2, 1, 0), some (.aload_n 0, 1, 0), some (.iload_n 3, 1, 0), some (.iconst 1, 1, 0), some (.iadd, 1, 0), some (.iaload, 1, 0), some (.aload_n 0, 1, 0), some (.iload_n 3, 1, 0), some (.iconst 2, 1, 0), some (.iadd, 1, 0), some (.iaload, 1, 0), some (.aload_n 0, 1, 0), some (.iload_n 3, 1, 0), some (.iconst 3, 1, 0), some (.iadd, 1, 0), some (.iaload, 1, 0), some (.invokevirtual 115, 3, 49), none, none, some (.if_icmp .eq 110, 3, 1008), none, none, some (.iconst 0, 1, 0), some (.ireturn, 1, 0), some (.aload_n 1, 1, 0), some (.aload_n 0, 1, 0), some (.iload_n 3, 1, 0), some (.iconst 1, 1, 0), some (.iadd, 1, 0), some (.iaload, 1, 0), some (.invokevirtual 116, 3, 50), none, none, some (.aload_n 2, 1, 0), some (.aload_n 0, 1, 0), some (.iload_n 3, 1, 0), some (.iconst 1, 1, 0), some (.iadd, 1, 0), some (.iaload, 1, 0), some (.invokevirtual 119, 3, 51), none, none, some (.if_icmp .eq 87, 3, 1008), none, none, some (.iconst 0, 1, 0), some (.ireturn, 1, 0), some (.aload_n 1, 1, 0), some (.aload_n 0, 1, 0), some (.iload_n 3, 1, 0), some (.iconst 1, 1, 0), some (.iadd, 1, 0), some (.iaload, 1, 0), some (.aload_n 0, 1, 0), some (.iload_n 3, 1, 0), some (.iconst 2, 1, 0), some (.iadd, 1, 0), some (.iaload, 1, 0), some (.invokevirtual 120, 3, 52), none, none, some (.aload_n 2, 1, 0), some (.aload_n 0, 1, 0), some (.iload_n 3, 1, 0), some (.iconst 1, 1, 0), some (.iadd, 1, 0), some (.iaload, 1, 0), some (.aload_n 0, 1, 0), some (.iload_n 3, 1, 0), some (.iconst 2, 1, 0), some (.iadd, 1, 0), some (.iaload, 1, 0), some (.invokevirtual 123, 3, 53), none, none, some (.if_icmp .eq 54, 3, 1008), none, none, some (.iconst 0, 1, 0), some (.ireturn, 1, 0), some (.aload_n 1, 1, 0), some (.invokevirtual 124, 3, 54), none, none, some (.aload_n 2, 1, 0), some (.invokevirtual 127, 3, 55), none, none, some (.if_icmp .eq 41, 3, 1008), none, none, some (.iconst 0, 1, 0), some (.ireturn, 1, 0), some (.aload_n 1, 1, 0), some (.invokevirtual 128, 3, 56), none, none, some (.aload_n 2, 1, 0), some (.invokevirtual 131, 3, 57), none, none, some (.if_icmp .eq 28, 3, 1008), none, none, some (.iconst 0, 1, 0), some (.ireturn, 1, 0), some (.aload_n 1, 1, 0), some (.aload_n 0, 1, 0), some (.iload_n 3, 1, 0), some (.iconst 1, 1, 0), some (.iadd, 1, 0), some (.iaload, 1, 0), some (.invokevirtual 132, 3, 58), none, none, some (.aload_n 2, 1, 0), some (.aload_n 0, 1, 0), some (.iload_n 3, 1, 0), some (.iconst 1, 1, 0), some (.iadd, 1, 0), some (.iaload, 1, 0), some (.invokevirtual 135, 3, 59), none, none, some (.if_icmp .eq 5, 3, 1008), none, none, some (.iconst 0, 1, 0), some (.ireturn, 1, 0), some (.iinc 3 5, 3, 0), none, none, some (.goto (-993), 3, 18), none, none, some (.iconst 1, 1, 0), some (.ireturn, 1, 0)]
def am_c1 : List (Option am_I) := [some (.aload_n 0, 1, 0), some (.iload_n 1, 1, 0), some (.iload_n 2, 1, 0), some (.iload_n 3, 1, 0), some (.invokespecial 1, 3, 60), none, none, some (.return_, 1, 0)]
def am_c2 : List (Option am_I) := [some (.iload_n 1, 1, 0), some (.iconst 2, 1, 0), some (.idiv, 1, 0), some (.ireturn, 1, 0)]
def am_c3 : List (Option am_I) := [some (.aload_n 0, 1, 0), some (.getfield 7, 3, 0), none, none, some (.iconst 2, 1, 0), some (.iadd, 1, 0), some (.istore_n 2, 1, 0), some (.iload_n 2, 1, 0), some (.ifCond .le 13, 3, 21), none, none, some (.iload_n 1, 1, 0), some (.iload_n 2, 1, 0), some (.irem, 1, 0), some (.ifCond .ne 7, 3, 21), none, none, some (.iconst 1, 1, 0), some (.goto 4, 3, 22), none, none, some (.iconst 0, 1, 0), some (.ireturn, 1, 0)]
def am_c4 : List (Option am_I) := [some (.bipush 61, 2, 0), none, some (.aload_n 2, 1, 0), some (.invokestatic 13, 3, 61), none, none, some (.aload_n 0, 1, 0), some (.iload_n 1, 1, 0), some (.aload_n 2, 1, 0), some (.invokespecial 17, 3, 62), none, none, some (.aload_n 0, 1, 0), some (.getfield 7, 3, 0), none, none, some (.iadd, 1, 0), some (.ireturn, 1, 0)]
def am_c5 : List (Option am_I) := [some (.aload_n 0, 1, 0), some (.invokespecial 3, 3, 63), none, none, some (.aload_n 0, 1, 0), some (.iconst 5, 1, 0), some (.putfield 9, 3, 1), none, none, some (.aload_n 0, 1, 0), some (.iconst 0, 1, 0), some (.putfield 15, 3, 2), none, none, some (.aload_n 0, 1, 0), some (.iconst 0, 1, 0), some (.putfield 18, 3, 3), none, none, some (.aload_n 0, 1, 0), some (.iconst 0, 1, 0), some (.putfield 21, 3, 4), none, none, some (.aload_n 0, 1, 0), some (.bipush 10, 2, 0), none, some (.newarray .int, 2, 0), none, some (.putfield 24, 3, 5), none, none, some (.aload_n 0, 1, 0), some (.bipush 10, 2, 0), none, some (.newarray .int, 2, 0), none, some (.putfield 28, 3, 6), none, none, some (.aload_n 0, 1, 0), some (.bipush 10, 2, 0), none, some (.newarray .int, 2, 0), none, some (.putfield 31, 3, 7), none, none, some (.aload_n 0, 1, 0), some (.bipush 100, 2, 0), none, some (.newarray .int, 2, 0), none, some (.putfield 34, 3, 8), none, none, some (.aload_n 0, 1, 0), some (.aload_n 0, 1, 0), some (.getfield 34, 3, 8), none, none, some (.putfield 37, 3, 9), none, none, some (.aload_n 0, 1, 0), some (.iconst 0, 1, 0), some (.putfield 40, 3, 10), none, none, some (.return_, 1, 0)]
def am_c6 : List (Option am_I) := [some (.aload_n 0, 1, 0), some (.aload_n 1, 1, 0), some (.putfield 37, 3, 9), none, none, some (.aload_n 0, 1, 0), some (.iload_n 2, 1, 0), some (.aload_n 1, 1, 0), some (.arraylength, 1, 0), some (.invokestatic 43, 3, 64), none, none, some (.putfield 40, 3, 10), none, none, some (.aload_n 0, 1, 0), some (.iconst 0, 1, 0), some (.putfield 15, 3, 2), none, none, some (.aload_n 0, 1, 0), some (.iconst 5, 1, 0), some (.putfield 9, 3, 1), none, none, some (.aload_n 0, 1, 0), some (.iconst 0, 1, 0), some (.putfield 18, 3, 3), none, none, some (.aload_n 0, 1, 0), some (.iconst 0, 1, 0), some (.putfield 21, 3, 4), none, none, some (.iconst 0, 1, 0), some (.istore_n 3, 1, 0), some (.iload_n 3, 1, 0), some (.bipush 10, 2, 0), none, some (.if_icmp .ge 56, 3, 96), none, none, some (.aload_n 0, 1, 0), some (.iload_n 3, 1, 0), some (.invokevirtual 49, 3, 65), none, none, some (.ifCond .ne 5, 3, 53), none, none, some (.iconst 0, 1, 0), some (.ireturn, 1, 0), some (.aload_n 0, 1, 0), some (.iload_n 3, 1, 0), some (.iconst 1, 1, 0), some (.iadd, 1, 0), some (.putfield 18, 3, 3), none, none, some (.aload_n 0, 1, 0), some (.getfield 15, 3, 2), none, none, some (.aload_n 0, 1, 0), some (.getfield 40, 3, 10), none, none, some (.if_icmp .ne 5, 3, 73), none, none, some (.iconst 1, 1, 0), some (.ireturn, 1, 0), some (.iload_n 3, 1, 0), some (.bipush 9, 2, 0), none, some (.if_icmp .eq 12, 3, 88), none, none, some (.aload_n 0, 1, 0), some (.bipush 59, 2, 0), none, some (.invokevirtual 53, 3, 66), none, none, some (.ifCond .ne 5, 3, 90), none, none, some (.iconst 0, 1, 0), some (.ireturn, 1, 0), some (.iinc 3 1, 3, 0), none, none, some (.goto (-56), 3, 37), none, none, some (.iconst 0, 1, 0), some (.ireturn, 1, 0)]
def am_c7 : List (Option am_I) := [some (.aload_n 0, 1, 0), some (.getfield 15, 3, 2), none, none, some (.aload_n 0, 1, 0), some (.getfield 40, 3, 10), none, none, some (.if_icmp .ge 15, 3, 23), none, none, some (.aload_n 0, 1, 0), some (.getfield 37, 3, 9), none, none, some (.aload_n 0, 1, 0), some (.getfield 15, 3, 2), none, none, some (.iaload, 1, 0), some (.goto 4, 3, 24), none, none, some (.iconst (-1), 1, 0), some (.ireturn, 1, 0)]
def am_c8 : List (Option am_I) := [some (.aload_n 0, 1, 0), some (.invokevirtual 56, 3, 67), none, none, some (.iload_n 1, 1, 0), some (.if_icmp .eq 5, 3, 10), none, none, some (.iconst 0, 1, 0), some (.ireturn, 1, 0), some (.aload_n 0, 1, 0), some (.dup, 1, 0), some (.getfield 15, 3, 2), none, none, some (.iconst 1, 1, 0), some (.iadd, 1, 0), some (.putfield 15, 3, 2), none, none, some (.iconst 1, 1, 0), some (.ireturn, 1, 0)]
def am_c9 : List (Option am_I) := [some (.iconst 0, 1, 0), some (.istore_n 2, 1, 0), some (.iload_n 2, 1, 0), some (.aload_n 1, 1, 0), some (.invokevirtual 60, 3, 68), none, none, some (.if_icmp .ge 23, 3, 30), none, none, some (.aload_n 0, 1, 0), some (.aload_n 1, 1, 0), some (.iload_n 2, 1, 0), some (.invokevirtual 65, 3, 69), none, none, some (.invokevirtual 53, 3, 66), none, none, some (.ifCond .ne 5, 3, 24), none, none, some (.iconst 0, 1, 0), some (.ireturn, 1, 0), some (.iinc 2 1, 3, 0), none, none, some (.goto (-25), 3, 2), none, none, some (.iconst 1, 1, 0), some (.ireturn, 1, 0)]
def am_c10 : List (Option am_I) := [some (.aload_n 0, 1, 0), some (.invokevirtual 69, 3, 70), none, none, some (.istore_n 2, 1, 0), some (.iload_n 2, 1, 0), some (.ifCond .lt 12, 3, 18), none, none, some (.aload_n 0, 1, 0), some (.bipush 32, 2, 0), none, some (.invokevirtual 53, 3, 66), none, none, some (.ifCond .ne 5, 3, 20), none, none, some (.iconst 0, 1, 0), some (.ireturn, 1, 0), some (.aload_n 0, 1, 0), some (.invokevirtual 72, 3, 71), none, none, some (.istore_n 3, 1, 0), some (.iload_n 3, 1, 0), some (.ifCond .ge 5, 3, 31), none, none, some (.iconst 0, 1, 0), some (.ireturn, 1, 0), some (.iload_n 2, 1, 0), some (.iconst 3, 1, 0), some (.if_icmp .ne 11, 3, 44), none, none, some (.aload_n 0, 1, 0), some (.iload_n 3, 1, 0), some (.putfield 9, 3, 1), none, none, some (.goto 22, 3, 63), none, none, some (.aload_n 0, 1, 0), some (.bipush 32, 2, 0), none, some (.invokevirtual 53, 3, 66), none, none, some (.ifCond .eq 11, 3, 61), none, none, some (.aload_n 0, 1, 0), some (.iconst 0, 1, 0), some (.invokevirtual 75, 3, 72), none, none, some (.ifCond .ne 5, 3, 63), none, none, some (.iconst 0, 1, 0), some (.ireturn, 1, 0), some (.aload_n 0, 1, 0), some (.getfield 24, 3, 5), none, none, some (.iload_n 1, 1, 0), some (.iload_n 2, 1, 0), some (.iastore, 1, 0), some (.aload_n 0, 1, 0), some (.getfield 28, 3, 6), none, none, some (.iload_n 1, 1, 0), some (.iload_n 3, 1, 0), some (.iastore, 1, 0), some (.aload_n 0, 1, 0), some (.getfield 31, 3, 7), none, none, some (.iload_n 1, 1, 0), some (.aload_n 0, 1, 0), some (.getfield 21, 3, 4), none, none, some (.iastore, 1, 0), some (.iconst 1, 1, 0), some (.ireturn, 1, 0)]
def am_c11 : List (Option am_I) := [some (.aload_n 0, 1, 0), some (.invokevirtual 56, 3, 67), none, none, some (.lookupswitch 115 #[(99, 51), (108, 66), (114, 36)], 36, 0), none, none, none, none, none, none, none, none, none, none, none, none, none, none, none, none, none, none, none, none, none, none, none, none, none, none, none, none, none, none, none, none, none, none, none, some (.aload_n 0, 1, 0), some (.ldc 78, 2, 1), none, some (.invokevirtual 80, 3, 73), none, none, some (.ifCond .eq 7, 3, 53), none, none, some (.iconst 2, 1, 0), some (.goto 4, 3, 54), none, none, some (.iconst (-1), 1, 0), some (.ireturn, 1, 0), some (.aload_n 0, 1, 0), some (.ldc 84, 2, 3), none, some (.invokevirtual 80, 3, 73), none, none, some (.ifCond .eq 7, 3, 68), none, none, some (.iconst 3, 1, 0), some (.goto 4, 3, 69), none, none, some (.iconst (-1), 1, 0), some (.ireturn, 1, 0), some (.aload_n 0, 1, 0), some (.dup, 1, 0), some (.getfield 15, 3, 2), none, none, some (.iconst 1, 1, 0), some (.iadd, 1, 0), some (.putfield 15, 3, 2), none, none, some (.aload_n 0, 1, 0), some (.invokevirtual 56, 3, 67), none, none, some (.bipush 105, 2, 0), none, some (.if_icmp .ne 18, 3, 104), none, none, some (.aload_n 0, 1, 0), some (.ldc 85, 2, 5), none, some (.invokevirtual 80, 3, 73), none, none, some (.ifCond .eq 7, 3, 102), none, none, some (.iconst 0, 1, 0), some (.goto 4, 3, 103), none, none, some (.iconst (-1), 1, 0), some (.ireturn, 1, 0), some (.aload_n 0, 1, 0), some (.ldc 87, 2, 7), none, some (.invokevirtual 80, 3, 73), none, none, some (.ifCond .eq 7, 3, 117), none, none, some (.iconst 1, 1, 0), some (.goto 4, 3, 118), none, none, some (.iconst (-1), 1, 0), some (.ireturn, 1, 0), some (.iconst (-1), 1, 0), some (.ireturn, 1, 0)]
def am_c12 : List (Option am_I) := [some (.aload_n 0, 1, 0), some (.invokevirtual 56, 3, 67), none, none, some (.bipush 48, 2, 0), none, some (.isub, 1, 0), some (.istore_n 1, 1, 0), some (.iload_n 1, 1, 0), some (.ifCond .lt 9, 3, 18), none, none, some (.iload_n 1, 1, 0), some (.bipush 9, 2, 0), none, some (.if_icmp .le 5, 3, 20), none, none, some (.iconst (-1), 1, 0), some (.ireturn, 1, 0), some (.aload_n 0, 1, 0), some (.dup, 1, 0), some (.getfield 15, 3, 2), none, none, some (.iconst 1, 1, 0), some (.iadd, 1, 0), some (.putfield 15, 3, 2), none, none, some (.aload_n 0, 1, 0), some (.invokevirtual 56, 3, 67), none, none, some (.bipush 48, 2, 0), none, some (.isub, 1, 0), some (.istore_n 2, 1, 0), some (.iload_n 1, 1, 0), some (.ifCond .eq 13, 3, 52), none, none, some (.iload_n 2, 1, 0), some (.ifCond .lt 9, 3, 52), none, none, some (.iload_n 2, 1, 0), some (.bipush 9, 2, 0), none, some (.if_icmp .le 5, 3, 54), none, none, some (.iload_n 1, 1, 0), some (.ireturn, 1, 0), some (.aload_n 0, 1, 0), some (.dup, 1, 0), some (.getfield 15, 3, 2), none, none, some (.iconst 1, 1, 0), some (.iadd, 1, 0), some (.putfield 15, 3, 2), none, none, some (.iload_n 1, 1, 0), some (.bipush 10, 2, 0), none, some (.imul, 1, 0), some (.iload_n 2, 1, 0), some (.iadd, 1, 0), some (.ireturn, 1, 0)]
def am_c13 : List (Option am_I) := [some (.iconst 0, 1, 0), some (.istore_n 2, 1, 0), some (.iconst 0, 1, 0), some (.istore_n 3, 1, 0), some (.iconst 0, 1, 0), some (.istore 4, 2, 0), none, some (.iload 4, 2, 0), none, some (.bipush 100, 2, 0), none, some (.if_icmp .ge 63, 3, 74), none, none, some (.aload_n 0, 1, 0), some (.iload_n 1, 1, 0), some (.invokevirtual 89, 3, 74), none, none, some (.ifCond .ne 5, 3, 24), none, none, some (.iconst 0, 1, 0), some (.ireturn, 1, 0), some (.iload_n 2, 1, 0), some (.ifCond .eq 9, 3, 34), none, none, some (.aload_n 0, 1, 0), some (.bipush (-2), 2, 0), none, some (.invokevirtual 92, 3, 75), none, none, some (.aload_n 0, 1, 0), some (.bipush 38, 2, 0), none, some (.invokevirtual 53, 3, 66), none, none, some (.istore_n 2, 1, 0), some (.iload_n 2, 1, 0), some (.ifCond .ne 26, 3, 68), none, none, some (.iload_n 3, 1, 0), some (.ifCond .eq 9, 3, 55), none, none, some (.aload_n 0, 1, 0), some (.bipush (-3), 2, 0), none, some (.invokevirtual 92, 3, 75), none, none, some (.aload_n 0, 1, 0), some (.bipush 124, 2, 0), none, some (.invokevirtual 53, 3, 66), none, none, some (.istore_n 3, 1, 0), some (.iload_n 3, 1, 0), some (.ifCond .ne 5, 3, 68), none, none, some (.iconst 1, 1, 0), some (.ireturn, 1, 0), some (.iinc 4 1, 3, 0), none, none, some (.goto (-64), 3, 7), none, none, some (.iconst 0, 1, 0), some (.ireturn, 1, 0)]
def am_c14 : List (Option am_I) := [some (.aload_n 0, 1, 0), some (.invokevirtual 56, 3, 67), none, none, some (.istore_n 2, 1, 0), some (.iload_n 2, 1, 0), some (.bipush 33, 2, 0), none, some (.if_icmp .eq 14, 3, 22), none, none, some (.iload_n 2, 1, 0), some (.bipush 40, 2, 0), none, some (.if_icmp .eq 8, 3, 22), none, none, some (.aload_n 0, 1, 0), some (.invokevirtual 96, 3, 76), none, none, some (.ireturn, 1, 0), some (.iload_n 1, 1, 0), some (.iconst 5, 1, 0), some (.if_icmp .lt 5, 3, 29), none, none, some (.iconst 0, 1, 0), some (.ireturn, 1, 0), some (.aload_n 0, 1, 0), some (.dup, 1, 0), some (.getfield 15, 3, 2), none, none, some (.iconst 1, 1, 0), some (.iadd, 1, 0), some (.putfield 15, 3, 2), none, none, some (.iload_n 2, 1, 0), some (.bipush 40, 2, 0), none, some (.if_icmp .ne 28, 3, 70), none, none, some (.aload_n 0, 1, 0), some (.iload_n 1, 1, 0), some (.iconst 1, 1, 0), some (.iadd, 1, 0), some (.invokevirtual 75, 3, 72), none, none, some (.ifCond .eq 16, 3, 68), none, none, some (.aload_n 0, 1, 0), some (.bipush 41, 2, 0), none, some (.invokevirtual 53, 3, 66), none, none, some (.ifCond .eq 7, 3, 68), none, none, some (.iconst 1, 1, 0), some (.goto 4, 3, 69), none, none, some (.iconst 0, 1, 0), some (.ireturn, 1, 0), some (.aload_n 0, 1, 0), some (.iload_n 1, 1, 0), some (.iconst 1, 1, 0), some (.iadd, 1, 0), some (.invokevirtual 89, 3, 74), none, none, some (.ifCond .ne 5, 3, 82), none, none, some (.iconst 0, 1, 0), some (.ireturn, 1, 0), some (.aload_n 0, 1, 0), some (.iconst (-1), 1, 0), some (.invokevirtual 92, 3, 75), none, none, some (.iconst 1, 1, 0), some (.ireturn, 1, 0)]
def am_c15 : List (Option am_I) := [some (.aload_n 0, 1, 0), some (.ldc 100, 2, 9), none, some (.invokevirtual 102, 3, 77), none, none, some (.istore_n 1, 1, 0), some (.iload_n 1, 1, 0), some (.ifCond .ge 5, 3, 13), none, none, some (.iconst 0, 1, 0), some (.ireturn, 1, 0), some (.aload_n 0, 1, 0), some (.ldc 106, 2, 11), none, some (.invokevirtual 102, 3, 77), none, none, some (.istore_n 2, 1, 0), some (.iload_n 2, 1, 0), some (.ifCond .ge 5, 3, 26), none, none, some (.iconst 0, 1, 0), some (.ireturn, 1, 0), some (.aload_n 0, 1, 0), some (.invokevirtual 72, 3, 71), none, none, some (.istore_n 3, 1, 0), some (.iload_n 3, 1, 0), some (.ifCond .ge 5, 3, 37), none, none, some (.iconst 0, 1, 0), some (.ireturn, 1, 0), some (.aload_n 0, 1, 0), some (.iload_n 1, 1, 0), some (.iconst 3, 1, 0), some (.imul, 1, 0), some (.iload_n 2, 1, 0), some (.iadd, 1, 0), some (.bipush 100, 2, 0), none, some (.imul, 1, 0), some (.iload_n 3, 1, 0), some (.iadd, 1, 0), some (.invokevirtual 92, 3, 75), none, none, some (.iconst 1, 1, 0), some (.ireturn, 1, 0)]
def am_c16 : List (Option am_I) := [some (.aload_n 0, 1, 0), some (.invokevirtual 56, 3, 67), none, none, some (.istore_n 2, 1, 0), some (.iconst 0, 1, 0), some (.istore_n 3, 1, 0), some (.iload_n 3, 1, 0), some (.aload_n 1, 1, 0), some (.invokevirtual 60, 3, 68), none, none, some (.if_icmp .ge 30, 3, 42), none, none, some (.aload_n 1, 1, 0), some (.iload_n 3, 1, 0), some (.invokevirtual 65, 3, 69), none, none, some (.iload_n 2, 1, 0), some (.if_icmp .ne 15, 3, 36), none, none, some (.aload_n 0, 1, 0), some (.dup, 1, 0), some (.getfield 15, 3, 2), none, none, some (.iconst 1, 1, 0), some (.iadd, 1, 0), some (.putfield 15, 3, 2), none, none, some (.iload_n 3, 1, 0), some (.ireturn, 1, 0), some (.iinc 3 1, 3, 0), none, none, some (.goto (-32), 3, 7), none, none, some (.iconst (-1), 1, 0), some (.ireturn, 1, 0)]
def am_c17 : List (Option am_I) := [some (.aload_n 0, 1, 0), some (.getfield 21, 3, 4), none, none, some (.aload_n 0, 1, 0), some (.getfield 34, 3, 8), none, none, some (.arraylength, 1, 0), some (.if_icmp .ge 23, 3, 32), none, none, some (.aload_n 0, 1, 0), some (.getfield 34, 3, 8), none, none, some (.aload_n 0, 1, 0), some (.getfield 21, 3, 4), none, none, some (.iload_n 1, 1, 0), some (.iastore, 1, 0), some (.aload_n 0, 1, 0), some (.dup, 1, 0), some (.getfield 21, 3, 4), none, none, some (.iconst 1, 1, 0), some (.iadd, 1, 0), some (.putfield 21, 3, 4), none, none, some (.return_, 1, 0)]
def am_c18 : List (Option am_I) := [some (.iconst 0, 1, 0), some (.istore_n 3, 1, 0), some (.iconst 0, 1, 0), some (.istore 4, 2, 0), none, some (.iload 4, 2, 0), none, some (.aload_n 0, 1, 0), some (.getfield 18, 3, 3), none, none, some (.if_icmp .ge 63, 3, 74), none, none, some (.aload_n 0, 1, 0), some (.getfield 24, 3, 5), none, none, some (.iload 4, 2, 0), none, some (.iaload, 1, 0), some (.iload_n 1, 1, 0), some (.if_icmp .ne 46, 3, 68), none, none, some (.aload_n 0, 1, 0), some (.iload 4, 2, 0), none, some (.ifCond .ne 7, 3, 35), none, none, some (.iconst 0, 1, 0), some (.goto 12, 3, 44), none, none, some (.aload_n 0, 1, 0), some (.getfield 31, 3, 7), none, none, some (.iload 4, 2, 0), none, some (.iconst 1, 1, 0), some (.isub, 1, 0), some (.iaload, 1, 0), some (.aload_n 0, 1, 0), some (.getfield 31, 3, 7), none, none, some (.iload 4, 2, 0), none, some (.iaload, 1, 0), some (.aload_n 2, 1, 0), some (.invokevirtual 108, 3, 78), none, none, some (.ifCond .eq 13, 3, 68), none, none, some (.iload_n 3, 1, 0), some (.aload_n 0, 1, 0), some (.getfield 28, 3, 6), none, none, some (.iload 4, 2, 0), none, some (.iaload, 1, 0), some (.iadd, 1, 0), some (.istore_n 3, 1, 0), some (.iinc 4 1, 3, 0), none, none, some (.goto (-66), 3, 5), none, none, some (.iload_n 3, 1, 0), some (.ireturn, 1, 0)]
def am_c19 : List (Option am_I) := [some (.iconst 0, 1, 0), some (.istore 4, 2, 0), none, some (.iload_n 1, 1, 0), some (.istore 5, 2, 0), none, some (.iload 5, 2, 0), none, some (.iload_n 2, 1, 0), some (.if_icmp .ge 99, 3, 108), none, none, some (.aload_n 0, 1, 0), some (.getfield 34, 3, 8), none, none, some (.iload 5, 2, 0), none, some (.iaload, 1, 0), some (.istore 6, 2, 0), none, some (.iload 6, 2, 0), none, some (.ifCond .lt 27, 3, 50), none, none, some (.iload 4, 2, 0), none, some (.iconst 1, 1, 0), some (.ishl, 1, 0), some (.iload 6, 2, 0), none, some (.aload_n 3, 1, 0), some (.invokestatic 112, 3, 79), none, none, some (.ifCond .eq 7, 3, 43), none, none, some (.iconst 1, 1, 0), some (.goto 4, 3, 44), none, none, some (.iconst 0, 1, 0), some (.ior, 1, 0), some (.istore 4, 2, 0), none, some (.goto 55, 3, 102), none, none, some (.iload 6, 2, 0), none, some (.iconst (-1), 1, 0), some (.if_icmp .ne 12, 3, 65), none, none, some (.iload 4, 2, 0), none, some (.iconst 1, 1, 0), some (.ixor, 1, 0), some (.istore 4, 2, 0), none, some (.goto 40, 3, 102), none, none, some (.iload 4, 2, 0), none, some (.iconst 1, 1, 0), some (.iand, 1, 0), some (.istore 7, 2, 0), none, some (.iload 4, 2, 0), none, some (.iconst 1, 1, 0), some (.ishr, 1, 0), some (.istore 4, 2, 0), none, some (.iload 6, 2, 0), none, some (.bipush (-2), 2, 0), none, some (.if_icmp .ne 14, 3, 95), none, none, some (.iload 4, 2, 0), none, some (.bipush (-2), 2, 0), none, some (.iload 7, 2, 0), none, some (.ior, 1, 0), some (.iand, 1, 0), some (.goto 8, 3, 100), none, none, some (.iload 4, 2, 0), none, some (.iload 7, 2, 0), none, some (.ior, 1, 0), some (.istore 4, 2, 0), none, some (.iinc 5 1, 3, 0), none, none, some (.goto (-99), 3, 6), none, none, some (.iload 4, 2, 0), none, some (.iconst 1, 1, 0), some (.iand, 1, 0), some (.ifCond .eq 7, 3, 119), none, none, some (.iconst 1, 1, 0), some (.goto 4, 3, 120), none, none, some (.iconst 0, 1, 0), some (.ireturn, 1, 0)]
def am_c20 : List (Option am_I) := [some (.iload_n 0, 1, 0), some (.sipush 300, 3, 0), none, none, some (.idiv, 1, 0), some (.istore_n 2, 1, 0), some (.iload_n 2, 1, 0), some (.ifCond .lt 9, 3, 16), none, none, some (.iload_n 2, 1, 0), some (.aload_n 1, 1, 0), some (.arraylength, 1, 0), some (.if_icmp .lt 5, 3, 18), none, none, some (.iconst 0, 1, 0), some (.ireturn, 1, 0), some (.aload_n 1, 1, 0), some (.iload_n 2, 1, 0), some (.iaload, 1, 0), some (.istore_n 3, 1, 0), some (.iload_n 0, 1, 0), some (.bipush 100, 2, 0), none, some (.irem, 1, 0), some (.istore 4, 2, 0), none, some (.iload_n 0, 1, 0), some (.bipush 100, 2, 0), none, some (.idiv, 1, 0), some (.iconst 3, 1, 0), some (.irem, 1, 0), some (.lookupswitch 50 #[(0, 26), (1, 38)], 26, 0), none, none, none, none, none, none, none, none, none, none, none, none, none, none, none, none, none, none, none, none, none, none, none, none, none, some (.iload_n 3, 1, 0), some (.iload 4, 2, 0), none, some (.if_icmp .ge 7, 3, 70), none, none, some (.iconst 1, 1, 0), some (.goto 4, 3, 71), none, none, some (.iconst 0, 1, 0), some (.ireturn, 1, 0), some (.iload_n 3, 1, 0), some (.iload 4, 2, 0), none, some (.if_icmp .ne 7, 3, 82), none, none, some (.iconst 1, 1, 0), some (.goto 4, 3, 83), none, none, some (.iconst 0, 1, 0), some (.ireturn, 1, 0), some (.iload_n 3, 1, 0), some (.iload 4, 2, 0), none, some (.if_icmp .le 7, 3, 94), none, none, some (.iconst 1, 1, 0), some (.goto 4, 3, 95), none, none, some (.iconst 0, 1, 0), some (.ireturn, 1, 0)]
def am_c21 : List (Option am_I) := [some (.aload_n 0, 1, 0), some (.iload_n 1, 1, 0), some (.iload_n 2, 1, 0), some (.iload_n 3, 1, 0), some (.invokespecial 1, 3, 80), none, none, some (.return_, 1, 0)]
def am_c22 : List (Option am_I) := [some (.aload_n 0, 1, 0), some (.getfield 7, 3, 11), none, none, some (.aload_n 0, 1, 0), some (.getfield 13, 3, 12), none, none, some (.if_icmp .eq 26, 3, 34), none, none, some (.aload_n 1, 1, 0), some (.aload_n 0, 1, 0), some (.getfield 7, 3, 11), none, none, some (.invokevirtual 16, 3, 81), none, none, some (.ifCond .eq 15, 3, 34), none, none, some (.aload_n 1, 1, 0), some (.aload_n 0, 1, 0), some (.getfield 7, 3, 11), none, none, some (.aload_n 2, 1, 0), some (.invokevirtual 22, 3, 82), none, none, some (.goto 9, 3, 40), none, none, some (.aload_n 0, 1, 0), some (.aload_n 1, 1, 0), some (.aload_n 2, 1, 0), some (.invokespecial 26, 3, 83), none, none, some (.return_, 1, 0)]
def am_c23 : List (Option am_I) := [some (.bipush 41, 2, 0), none, some (.aload_n 2, 1, 0), some (.invokestatic 30, 3, 84), none, none, some (.aload_n 0, 1, 0), some (.iload_n 1, 1, 0), some (.iconst 1, 1, 0), some (.isub, 1, 0), some (.aload_n 2, 1, 0), some (.invokespecial 33, 3, 85), none, none, some (.aload_n 0, 1, 0), some (.iconst 2, 1, 0), some (.aload_n 2, 1, 0), some (.invokevirtual 37, 3, 86), none, none, some (.iadd, 1, 0), some (.ireturn, 1, 0)]
def am_c24 : List (Option am_I) := [some (.aload_n 0, 1, 0), some (.invokespecial 3, 3, 87), none, none, some (.aload_n 0, 1, 0), some (.new 9, 3, 7), none, none, some (.dup, 1, 0), some (.invokespecial 11, 3, 88), none, none, some (.putfield 12, 3, 13), none, none, some (.aload_n 0, 1, 0), some (.bipush 6, 2, 0), none, some (.anewarray 18, 3, 0), none, none, some (.putfield 20, 3, 14), none, none, some (.aload_n 0, 1, 0), some (.iconst 0, 1, 0), some (.putfield 24, 3, 15), none, none, some (.aload_n 0, 1, 0), some (.bipush 6, 2, 0), none, some (.iconst 4, 1, 0), some (.multianewarray 28 2, 4, 0), none, none, none, some (.putfield 30, 3, 16), none, none, some (.aload_n 0, 1, 0), some (.iconst 0, 1, 0), some (.putfield 33, 3, 17), none, none, some (.aload_n 0, 1, 0), some (.new 36, 3, 1), none, none, some (.dup, 1, 0), some (.invokespecial 38, 3, 89), none, none, some (.putfield 39, 3, 18), none, none, some (.aload_n 0, 1, 0), some (.iconst 0, 1, 0), some (.putfield 43, 3, 19), none, none, some (.aload_n 0, 1, 0), some (.bipush 100, 2, 0), none, some (.newarray .int, 2, 0), none, some (.putfield 46, 3, 20), none, none, some (.aload_n 0, 1, 0), some (.iconst 0, 1, 0), some (.putfield 50, 3, 21), none, none, some (.aload_n 0, 1, 0), some (.bipush 6, 2, 0), none, some (.newarray .int, 2, 0), none, some (.putfield 53, 3, 22), none, none, some (.aload_n 0, 1, 0), some (.iconst 0, 1, 0), some (.putfield 56, 3, 23), none, none, some (.aload_n 0, 1, 0), some (.bipush 6, 2, 0), none, some (.bipush 6, 2, 0), none, some (.multianewarray 28 2, 4, 0), none, none, none, some (.putfield 59, 3, 24), none, none, some (.aload_n 0, 1, 0), some (.bipush 6, 2, 0), none, some (.bipush 6, 2, 0), none, some (.multianewarray 28 2, 4, 0), none, none, none, some (.putfield 62, 3, 25), none, none, some (.aload_n 0, 1, 0), some (.bipush 6, 2, 0), none, some (.newarray .int, 2, 0), none, some (.putfield 65, 3, 26), none, none, some (.new 18, 3, 4), none, none, some (.dup, 1, 0), some (.iconst 0, 1, 0), some (.iconst 0, 1, 0), some (.iconst 0, 1, 0), some (.invokespecial 68, 3, 90), none, none, some (.astore_n 1, 1, 0), some (.iconst 0, 1, 0), some (.istore_n 2, 1, 0), some (.iload_n 2, 1, 0), some (.bipush 6, 2, 0), none, some (.if_icmp .ge 16, 3, 151), none, none, some (.aload_n 0, 1, 0), some (.getfield 20, 3, 14), none, none, some (.iload_n 2, 1, 0), some (.aload_n 1, 1, 0), some (.aastore, 1, 0), some (.iinc 2 1, 3, 0), none, none, some (.goto (-16), 3, 132), none, none, some (.return_, 1, 0)]
def am_c25 : List (Option am_I) := [some (.aload_n 0, 1, 0), some (.getfield 12, 3, 13), none, none, some (.aload_n 1, 1, 0), some (.getfield 12, 3, 13), none, none, some (.invokevirtual 71, 3, 91), none, none, some (.iconst 0, 1, 0), some (.istore_n 2, 1, 0), some (.iload_n 2, 1, 0), some (.bipush 6, 2, 0), none, some (.if_icmp .ge 77, 3, 93), none, none, some (.aload_n 0, 1, 0), some (.getfield 20, 3, 14), none, none, some (.iload_n 2, 1, 0), some (.aload_n 1, 1, 0), some (.getfield 20, 3, 14), none, none, some (.iload_n 2, 1, 0), some (.aaload, 1, 0), some (.aastore, 1, 0), some (.aload_n 1, 1, 0), some (.getfield 30, 3, 16), none, none, some (.iload_n 2, 1, 0), some (.aaload, 1, 0), some (.iconst 0, 1, 0), some (.aload_n 0, 1, 0), some (.getfield 30, 3, 16), none, none, some (.iload_n 2, 1, 0), some (.aaload, 1, 0), some (.iconst 0, 1, 0), some (.iconst 4, 1, 0), some (.invokestatic 75, 3, 92), none, none, some (.aload_n 1, 1, 0), some (.getfield 59, 3, 24), none, none, some (.iload_n 2, 1, 0), some (.aaload, 1, 0), some (.iconst 0, 1, 0), some (.aload_n 0, 1, 0), some (.getfield 59, 3, 24), none, none, some (.iload_n 2, 1, 0), some (.aaload, 1, 0), some (.iconst 0, 1, 0), some (.bipush 6, 2, 0), none, some (.invokestatic 75, 3, 92), none, none, some (.aload_n 1, 1, 0), some (.getfield 62, 3, 25), none, none, some (.iload_n 2, 1, 0), some (.aaload, 1, 0), some (.iconst 0, 1, 0), some (.aload_n 0, 1, 0), some (.getfield 62, 3, 25), none, none, some (.iload_n 2, 1, 0), some (.aaload, 1, 0), some (.iconst 0, 1, 0), some (.bipush 6, 2, 0), none, some (.invokestatic 75, 3, 92), none, none, some (.iinc 2 1, 3, 0), none, none, some (.goto (-77), 3, 13), none, none, some (.aload_n 0, 1, 0), some (.aload_n 1, 1, 0), some (.getfield 24, 3, 15), none, none, some (.putfield 24, 3, 15), none, none, some (.aload_n 0, 1, 0), some (.aload_n 1, 1, 0), some (.getfield 33, 3, 17), none, none, some (.putfield 33, 3, 17), none, none, some (.aload_n 0, 1, 0), some (.aload_n 1, 1, 0), some (.getfield 39, 3, 18), none, none, some (.putfield 39, 3, 18), none, none, some (.aload_n 0, 1, 0), some (.aload_n 1, 1, 0), some (.getfield 43, 3, 19), none, none, some (.putfield 43, 3, 19), none, none, some (.aload_n 1, 1, 0), some (.getfield 46, 3, 20), none, none, some (.iconst 0, 1, 0), some (.aload_n 0, 1, 0), some (.getfield 46, 3, 20), none, none, some (.iconst 0, 1, 0), some (.bipush 100, 2, 0), none, some (.invokestatic 75, 3, 92), none, none, some (.aload_n 0, 1, 0), some (.aload_n 1, 1, 0), some (.getfield 50, 3, 21), none, none, some (.putfield 50, 3, 21), none, none, some (.aload_n 1, 1, 0), some (.getfield 53, 3, 22), none, none, some (.iconst 0, 1, 0), some (.aload_n 0, 1, 0), some (.getfield 53, 3, 22), none, none, some (.iconst 0, 1, 0), some (.bipush 6, 2, 0), none, some (.invokestatic 75, 3, 92), none, none, some (.aload_n 0, 1, 0), some (.aload_n 1, 1, 0), some (.getfield 56, 3, 23), none, none, some (.putfield 56, 3, 23), none, none, some (.return_, 1, 0)]
def am_c26 : List (Option am_I) := [some (.aload_n 0, 1, 0), some (.getfield 20, 3, 14), none, none, some (.aload_n 0, 1, 0), some (.getfield 24, 3, 15), none, none, some (.aload_n 1, 1, 0), some (.aastore, 1, 0), some (.aload_n 0, 1, 0), some (.getfield 12, 3, 13), none, none, some (.aload_n 0, 1, 0), some (.getfield 24, 3, 15), none, none, some (.invokevirtual 81, 3, 93), none, none, some (.aload_n 0, 1, 0), some (.dup, 1, 0), some (.getfield 24, 3, 15), none, none, some (.iconst 1, 1, 0), some (.iadd, 1, 0), some (.putfield 24, 3, 15), none, none, some (.aload_n 0, 1, 0), some (.invokevirtual 85, 3, 94), none, none, some (.return_, 1, 0)]
def am_c27 : List (Option am_I) := [some (.aload_n 0, 1, 0), some (.getfield 30, 3, 16), none, none, some (.aload_n 0, 1, 0), some (.getfield 33, 3, 17), none, none, some (.aaload, 1, 0), some (.astore 5, 2, 0), none, some (.aload 5, 2, 0), none, some (.iconst 0, 1, 0), some (.iload_n 1, 1, 0), some (.iastore, 1, 0), some (.aload 5, 2, 0), none, some (.iconst 1, 1, 0), some (.iload_n 2, 1, 0), some (.iastore, 1, 0), some (.aload 5, 2, 0), none, some (.iconst 2, 1, 0), some (.iload_n 3, 1, 0), some (.iastore, 1, 0), some (.aload 5, 2, 0), none, some (.iconst 3, 1, 0), some (.iload 4, 2, 0), none, some (.iastore, 1, 0), some (.aload_n 0, 1, 0), some (.getfield 12, 3, 13), none, none, some (.aload_n 0, 1, 0), some (.getfield 33, 3, 17), none, none, some (.iconst 0, 1, 0), some (.invokevirtual 88, 3, 95), none, none, some (.aload_n 0, 1, 0), some (.dup, 1, 0), some (.getfield 33, 3, 17), none, none, some (.iconst 1, 1, 0), some (.iadd, 1, 0), some (.putfield 33, 3, 17), none, none, some (.aload_n 0, 1, 0), some (.invokevirtual 85, 3, 94), none, none, some (.return_, 1, 0)]
def am_c28 : List (Option am_I) := [some (.iconst 0, 1, 0), some (.istore_n 1, 1, 0), some (.iload_n 1, 1, 0), some (.aload_n 0, 1, 0), some (.getfield 24, 3, 15), none, none, some (.if_icmp .ge 31, 3, 38), none, none, some (.iconst 0, 1, 0), some (.istore_n 2, 1, 0), some (.iload_n 2, 1, 0), some (.aload_n 0, 1, 0), some (.getfield 33, 3, 17), none, none, some (.if_icmp .ge 15, 3, 32), none, none, some (.aload_n 0, 1, 0), some (.iload_n 1, 1, 0), some (.iload_n 2, 1, 0), some (.invokevirtual 92, 3, 96), none, none, some (.iinc 2 1, 3, 0), none, none, some (.goto (-17), 3, 12), none, none, some (.iinc 1 1, 3, 0), none, none, some (.goto (-33), 3, 2), none, none, some (.return_, 1, 0)]
def am_c29 : List (Option am_I) := [some (.aload_n 0, 1, 0), some (.getfield 20, 3, 14), none, none, some (.iload_n 1, 1, 0), some (.aaload, 1, 0), some (.astore_n 3, 1, 0), some (.aload_n 0, 1, 0), some (.getfield 30, 3, 16), none, none, some (.iload_n 2, 1, 0), some (.aaload, 1, 0), some (.iconst 0, 1, 0), some (.iaload, 1, 0), some (.istore 4, 2, 0), none, some (.aload_n 0, 1, 0), some (.getfield 30, 3, 16), none, none, some (.iload_n 2, 1, 0), some (.aaload, 1, 0), some (.iconst 3, 1, 0), some (.iaload, 1, 0), some (.iload_n 1, 1, 0), some (.if_icmp .ne 7, 3, 33), none, none, some (.iconst 1, 1, 0), some (.goto 4, 3, 34), none, none, some (.iconst 0, 1, 0), some (.istore 5, 2, 0), none, some (.aload_n 0, 1, 0), some (.getfield 65, 3, 26), none, none, some (.iconst 0, 1, 0), some (.iload_n 1, 1, 0), some (.iastore, 1, 0), some (.aload_n 0, 1, 0), some (.getfield 65, 3, 26), none, none, some (.iconst 1, 1, 0), some (.aload_n 3, 1, 0), some (.getfield 96, 3, 27), none, none, some (.iastore, 1, 0), some (.aload_n 0, 1, 0), some (.getfield 65, 3, 26), none, none, some (.iconst 2, 1, 0), some (.iload_n 2, 1, 0), some (.iastore, 1, 0), some (.aload_n 0, 1, 0), some (.getfield 65, 3, 26), none, none, some (.iconst 3, 1, 0), some (.iload 4, 2, 0), none, some (.bipush 10, 2, 0), none, some (.idiv, 1, 0), some (.iastore, 1, 0), some (.aload_n 0, 1, 0), some (.getfield 65, 3, 26), none, none, some (.iconst 4, 1, 0), some (.aload_n 0, 1, 0), some (.getfield 30, 3, 16), none, none, some (.iload_n 2, 1, 0), some (.aaload, 1, 0), some (.iconst 1, 1, 0), some (.iaload, 1, 0), some (.iastore, 1, 0), some (.aload_n 0, 1, 0), some (.getfield 65, 3, 26), none, none, some (.iconst 5, 1, 0), some (.aload_n 0, 1, 0), some (.getfield 30, 3, 16), none, none, some (.iload_n 2, 1, 0), some (.aaload, 1, 0), some (.iconst 2, 1, 0), some (.iaload, 1, 0), some (.iastore, 1, 0), some (.bipush 50, 2, 0), none, some (.aload_n 0, 1, 0), some (.getfield 39, 3, 18), none, none, some (.iconst 0, 1, 0), some (.aload_n 0, 1, 0), some (.getfield 65, 3, 26), none, none, some (.invokevirtual 99, 3, 97), none, none, some (.iadd, 1, 0), some (.aload_n 0, 1, 0), some (.getfield 39, 3, 18), none, none, some (.iconst 1, 1, 0), some (.aload_n 0, 1, 0), some (.getfield 65, 3, 26), none, none, some (.invokevirtual 99, 3, 97), none, none, some (.isub, 1, 0), some (.aload_n 3, 1, 0), some (.iload 5, 2, 0), none, some (.iload 4, 2, 0), none, some (.invokevirtual 103, 3, 98), none, none, some (.iadd, 1, 0), some (.istore 6, 2, 0), none, some (.iconst 3, 1, 0), some (.iload 6, 2, 0), none, some (.bipush 20, 2, 0), none, some (.idiv, 1, 0), some (.iadd, 1, 0), some (.aload_n 0, 1, 0), some (.getfield 39, 3, 18), none, none, some (.iconst 2, 1, 0), some (.aload_n 0, 1, 0), some (.getfield 65, 3, 26), none, none, some (.invokevirtual 99, 3, 97), none, none, some (.iadd, 1, 0), some (.istore 7, 2, 0), none, some (.aload_n 0, 1, 0), some (.getfield 59, 3, 24), none, none, some (.iload_n 1, 1, 0), some (.aaload, 1, 0), some (.iload_n 2, 1, 0), some (.iload 6, 2, 0), none, some (.iastore, 1, 0), some (.aload_n 0, 1, 0), some (.getfield 62, 3, 25), none, none, some (.iload_n 1, 1, 0), some (.aaload, 1, 0), some (.iload_n 2, 1, 0), some (.iload 5, 2, 0), none, some (.ifCond .eq 8, 3, 187), none, none, some (.bipush 10, 2, 0), none, some (.goto 18, 3, 202), none, none, some (.iconst 0, 1, 0), some (.bipush 10, 2, 0), none, some (.aload_n 3, 1, 0), some (.iload 7, 2, 0), none, some (.invokevirtual 107, 3, 99), none, none, some (.invokestatic 111, 3, 100), none, none, some (.invokestatic 117, 3, 101), none, none, some (.iastore, 1, 0), some (.return_, 1, 0)]
def am_c30 : List (Option am_I) := [some (.aload_n 0, 1, 0), some (.getfield 62, 3, 25), none, none, some (.iload_n 1, 1, 0), some (.aaload, 1, 0), some (.iload_n 2, 1, 0), some (.iaload, 1, 0), some (.aload_n 0, 1, 0), some (.getfield 39, 3, 18), none, none, some (.getfield 120, 3, 28), none, none, some (.if_icmp .lt 20, 3, 35), none, none, some (.aload_n 0, 1, 0), some (.getfield 20, 3, 14), none, none, some (.iload_n 1, 1, 0), some (.aaload, 1, 0), some (.iload_n 3, 1, 0), some (.invokevirtual 123, 3, 102), none, none, some (.ifCond .ne 7, 3, 35), none, none, some (.iconst 1, 1, 0), some (.goto 4, 3, 36), none, none, some (.iconst 0, 1, 0), some (.ireturn, 1, 0)]
def am_c31 : List (Option am_I) := [some (.iconst 0, 1, 0), some (.istore_n 2, 1, 0), some (.iconst 0, 1, 0), some (.istore_n 3, 1, 0), some (.iload_n 3, 1, 0), some (.aload_n 0, 1, 0), some (.getfield 33, 3, 17), none, none, some (.if_icmp .ge 30, 3, 39), none, none, some (.aload_n 1, 1, 0), some (.iload_n 3, 1, 0), some (.invokevirtual 127, 3, 103), none, none, some (.ifCond .eq 16, 3, 33), none, none, some (.iload_n 2, 1, 0), some (.iconst 1, 1, 0), some (.aload_n 0, 1, 0), some (.getfield 30, 3, 16), none, none, some (.iload_n 3, 1, 0), some (.aaload, 1, 0), some (.iconst 3, 1, 0), some (.iaload, 1, 0), some (.ishl, 1, 0), some (.ior, 1, 0), some (.istore_n 2, 1, 0), some (.iinc 3 1, 3, 0), none, none, some (.goto (-32), 3, 4), none, none, some (.iload_n 2, 1, 0), some (.ireturn, 1, 0)]
def am_c32 : List (Option am_I) := [some (.aload_n 0, 1, 0), some (.invokespecial 1, 3, 104), none, none, some (.aload_n 0, 1, 0), some (.iload_n 1, 1, 0), some (.putfield 7, 3, 29), none, none, some (.aload_n 0, 1, 0), some (.iload_n 2, 1, 0), some (.putfield 13, 3, 30), none, none, some (.aload_n 0, 1, 0), some (.iload_n 3, 1, 0), some (.putfield 16, 3, 31), none, none, some (.return_, 1, 0)]
def am_c33 : List (Option am_I) := [some (.iload_n 1, 1, 0), some (.tableswitch 48 0 3 #[31, 33, 38, 43], 31, 0), none, none, none, none, none, none, none, none, none, none, none, none, none, none, none, none, none, none, none, none, none, none, none, none, none, none, none, none, none, none, some (.iconst 1, 1, 0), some (.ireturn, 1, 0), some (.aload_n 0, 1, 0), some (.instanceof 19, 3, 5), none, none, some (.ireturn, 1, 0), some (.aload_n 0, 1, 0), some (.instanceof 21, 3, 6), none, none, some (.ireturn, 1, 0), some (.aload_n 0, 1, 0), some (.instanceof 23, 3, 8), none, none, some (.ireturn, 1, 0), some (.aload_n 0, 1, 0), some (.getfield 7, 3, 29), none, none, some (.iload_n 1, 1, 0), some (.if_icmp .ne 7, 3, 61), none, none, some (.iconst 1, 1, 0), some (.goto 4, 3, 62), none, none, some (.iconst 0, 1, 0), some (.ireturn, 1, 0)]
def am_c34 : List (Option am_I) := [some (.iconst 0, 1, 0), some (.ireturn, 1, 0)]
def am_c35 : List (Option am_I) := [some (.iload_n 1, 1, 0), some (.ireturn, 1, 0)]
def am_c36 : List (Option am_I) := [some (.iconst 0, 1, 0), some (.ireturn, 1, 0)]
def am_c37 : List (Option am_I) := [some (.aload_n 1, 1, 0), some (.aload_n 0, 1, 0), some (.getfield 13, 3, 30), none, none, some (.aload_n 2, 1, 0), some (.invokevirtual 25, 3, 105), none, none, some (.return_, 1, 0)]
def am_c38 : List (Option am_I) := [some (.iconst 1, 1, 0), some (.aload_n 2, 1, 0), some (.invokestatic 31, 3, 106), none, none, some (.iload_n 1, 1, 0), some (.aload_n 0, 1, 0), some (.getfield 13, 3, 30), none, none, some (.iadd, 1, 0), some (.ireturn, 1, 0)]
def am_c39 : List (Option am_I) := [some (.iconst 2, 1, 0), some (.aload_n 2, 1, 0), some (.invokestatic 31, 3, 106), none, none, some (.aload_n 0, 1, 0), some (.iload_n 1, 1, 0), some (.aload_n 2, 1, 0), some (.invokevirtual 34, 3, 107), none, none, some (.aload_n 0, 1, 0), some (.getfield 16, 3, 31), none, none, some (.isub, 1, 0), some (.ireturn, 1, 0)]
def am_c40 : List (Option am_I) := [some (.iconst 3, 1, 0), some (.aload_n 2, 1, 0), some (.invokestatic 31, 3, 106), none, none, some (.aload_n 0, 1, 0), some (.iload_n 1, 1, 0), some (.aload_n 2, 1, 0), some (.invokevirtual 38, 3, 108), none, none, some (.iconst 2, 1, 0), some (.imul, 1, 0), some (.ireturn, 1, 0)]
def am_c41 : List (Option am_I) := [some (.aload_n 1, 1, 0), some (.iconst 0, 1, 0), some (.dup2, 1, 0), some (.iaload, 1, 0), some (.iconst 1, 1, 0), some (.iadd, 1, 0), some (.iastore, 1, 0), some (.aload_n 1, 1, 0), some (.iconst 0, 1, 0), some (.iaload, 1, 0), some (.aload_n 1, 1, 0), some (.arraylength, 1, 0), some (.if_icmp .ge 9, 3, 21), none, none, some (.aload_n 1, 1, 0), some (.aload_n 1, 1, 0), some (.iconst 0, 1, 0), some (.iaload, 1, 0), some (.iload_n 0, 1, 0), some (.iastore, 1, 0), some (.return_, 1, 0)]
def am_c42 : List (Option am_I) := [some (.aload_n 0, 1, 0), some (.iload_n 1, 1, 0), some (.iload_n 2, 1, 0), some (.iload_n 3, 1, 0), some (.invokespecial 1, 3, 109), none, none, some (.return_, 1, 0)]
def am_c43 : List (Option am_I) := [some (.aload_n 1, 1, 0), some (.aload_n 0, 1, 0), some (.getfield 7, 3, 32), none, none, some (.aload_n 2, 1, 0), some (.invokevirtual 13, 3, 110), none, none, some (.aload_n 2, 1, 0), some (.iconst 0, 1, 0), some (.iaload, 1, 0), some (.aload_n 1, 1, 0), some (.getfield 19, 3, 33), none, none, some (.if_icmp .eq 12, 3, 28), none, none, some (.aload_n 1, 1, 0), some (.aload_n 1, 1, 0), some (.getfield 19, 3, 33), none, none, some (.aload_n 2, 1, 0), some (.invokevirtual 22, 3, 111), none, none, some (.return_, 1, 0)]
def am_c44 : List (Option am_I) := [some (.bipush 11, 2, 0), none, some (.aload_n 2, 1, 0), some (.invokestatic 25, 3, 112), none, none, some (.aload_n 0, 1, 0), some (.iload_n 1, 1, 0), some (.iconst 3, 1, 0), some (.imul, 1, 0), some (.aload_n 2, 1, 0), some (.invokespecial 28, 3, 113), none, none, some (.ireturn, 1, 0)]
def am_c45 : List (Option am_I) := [some (.aload_n 0, 1, 0), some (.iload_n 1, 1, 0), some (.iload_n 2, 1, 0), some (.iload_n 3, 1, 0), some (.invokespecial 1, 3, 114), none, none, some (.return_, 1, 0)]
def am_c46 : List (Option am_I) := [some (.iload_n 1, 1, 0), some (.ifCond .eq 12, 3, 13), none, none, some (.iconst 5, 1, 0), some (.aload_n 0, 1, 0), some (.getfield 7, 3, 34), none, none, some (.imul, 1, 0), some (.goto 4, 3, 14), none, none, some (.iconst 0, 1, 0), some (.ireturn, 1, 0)]
def am_c47 : List (Option am_I) := [some (.bipush 21, 2, 0), none, some (.aload_n 2, 1, 0), some (.invokestatic 13, 3, 115), none, none, some (.aload_n 0, 1, 0), some (.iload_n 1, 1, 0), some (.aload_n 2, 1, 0), some (.invokespecial 17, 3, 116), none, none, some (.ineg, 1, 0), some (.ireturn, 1, 0)]
def am_c48 : List (Option am_I) := [some (.aload_n 0, 1, 0), some (.invokespecial 3, 3, 117), none, none, some (.aload_n 0, 1, 0), some (.iconst 0, 1, 0), some (.putfield 9, 3, 35), none, none, some (.aload_n 0, 1, 0), some (.iconst 0, 1, 0), some (.putfield 15, 3, 36), none, none, some (.aload_n 0, 1, 0), some (.iconst 0, 1, 0), some (.putfield 18, 3, 37), none, none, some (.aload_n 0, 1, 0), some (.bipush 6, 2, 0), none, some (.newarray .int, 2, 0), none, some (.putfield 21, 3, 38), none, none, some (.return_, 1, 0)]
def am_c49 : List (Option am_I) := [some (.aload_n 0, 1, 0), some (.aload_n 1, 1, 0), some (.getfield 9, 3, 35), none, none, some (.putfield 9, 3, 35), none, none, some (.aload_n 0, 1, 0), some (.aload_n 1, 1, 0), some (.getfield 15, 3, 36), none, none, some (.putfield 15, 3, 36), none, none, some (.aload_n 0, 1, 0), some (.aload_n 1, 1, 0), some (.getfield 18, 3, 37), none, none, some (.putfield 18, 3, 37), none, none, some (.aload_n 1, 1, 0), some (.getfield 21, 3, 38), none, none, some (.iconst 0, 1, 0), some (.aload_n 0, 1, 0), some (.getfield 21, 3, 38), none, none, some (.iconst 0, 1, 0), some (.bipush 6, 2, 0), none, some (.invokestatic 25, 3, 118), none, none, some (.return_, 1, 0)]
def am_c50 : List (Option am_I) := [some (.aload_n 0, 1, 0), some (.getfield 15, 3, 36), none, none, some (.iload_n 1, 1, 0), some (.ishr, 1, 0), some (.iconst 1, 1, 0), some (.iand, 1, 0), some (.ifCond .eq 7, 3, 15), none, none, some (.iconst 1, 1, 0), some (.goto 4, 3, 16), none, none, some (.iconst 0, 1, 0), some (.ireturn, 1, 0)]
def am_c51 : List (Option am_I) := [some (.aload_n 0, 1, 0), some (.getfield 18, 3, 37), none, none, some (.iload_n 1, 1, 0), some (.ishr, 1, 0), some (.iconst 1, 1, 0), some (.iand, 1, 0), some (.ifCond .eq 7, 3, 15), none, none, some (.iconst 1, 1, 0), some (.goto 4, 3, 16), none, none, some (.iconst 0, 1, 0), some (.ireturn, 1, 0)]
def am_c52 : List (Option am_I) := [some (.aload_n 0, 1, 0), some (.iload_n 2, 1, 0), some (.ifCond .eq 14, 3, 16), none, none, some (.aload_n 0, 1, 0), some (.getfield 18, 3, 37), none, none, some (.iconst 1, 1, 0), some (.iload_n 1, 1, 0), some (.ishl, 1, 0), some (.ior, 1, 0), some (.goto 13, 3, 26), none, none, some (.aload_n 0, 1, 0), some (.getfield 18, 3, 37), none, none, some (.iconst 1, 1, 0), some (.iload_n 1, 1, 0), some (.ishl, 1, 0), some (.iconst (-1), 1, 0), some (.ixor, 1, 0), some (.iand, 1, 0), some (.putfield 18, 3, 37), none, none, some (.return_, 1, 0)]
def am_c53 : List (Option am_I) := [some (.aload_n 0, 1, 0), some (.getfield 21, 3, 38), none, none, some (.iload_n 1, 1, 0), some (.iconst 0, 1, 0), some (.iastore, 1, 0), some (.aload_n 0, 1, 0), some (.dup, 1, 0), some (.getfield 15, 3, 36), none, none, some (.iconst 1, 1, 0), some (.iload_n 1, 1, 0), some (.ishl, 1, 0), some (.ior, 1, 0), some (.putfield 15, 3, 36), none, none, some (.return_, 1, 0)]
def am_c54 : List (Option am_I) := [some (.iconst 0, 1, 0), some (.istore_n 3, 1, 0), some (.aload_n 0, 1, 0), some (.iload_n 2, 1, 0), some (.iconst 1, 1, 0), some (.invokevirtual 31, 3, 119), none, none, some (.iconst 0, 1, 0), some (.istore 4, 2, 0), none, some (.iload 4, 2, 0), none, some (.aload_n 1, 1, 0), some (.getfield 35, 3, 39), none, none, some (.if_icmp .ge 99, 3, 116), none, none, some (.aload_n 0, 1, 0), some (.iload 4, 2, 0), none, some (.invokevirtual 40, 3, 120), none, none, some (.ifCond .eq 84, 3, 110), none, none, some (.aload_n 1, 1, 0), some (.iload 4, 2, 0), none, some (.iload_n 2, 1, 0), some (.aload_n 0, 1, 0), some (.getfield 9, 3, 35), none, none, some (.invokevirtual 44, 3, 121), none, none, some (.ifCond .eq 31, 3, 71), none, none, some (.iinc 3 1, 3, 0), none, none, some (.aload_n 0, 1, 0), some (.getfield 21, 3, 38), none, none, some (.iload 4, 2, 0), none, some (.dup2, 1, 0), some (.iaload, 1, 0), some (.aload_n 1, 1, 0), some (.getfield 48, 3, 40), none, none, some (.iload 4, 2, 0), none, some (.aaload, 1, 0), some (.iload_n 2, 1, 0), some (.iaload, 1, 0), some (.bipush 50, 2, 0), none, some (.isub, 1, 0), some (.iadd, 1, 0), some (.iastore, 1, 0), some (.goto 15, 3, 83), none, none, some (.aload_n 0, 1, 0), some (.getfield 21, 3, 38), none, none, some (.iload 4, 2, 0), none, some (.dup2, 1, 0), some (.iaload, 1, 0), some (.bipush 10, 2, 0), none, some (.isub, 1, 0), some (.iastore, 1, 0), some (.aload_n 0, 1, 0), some (.getfield 21, 3, 38), none, none, some (.iload 4, 2, 0), none, some (.iaload, 1, 0), some (.bipush (-50), 2, 0), none, some (.if_icmp .ge 18, 3, 110), none, none, some (.aload_n 0, 1, 0), some (.dup, 1, 0), some (.getfield 15, 3, 36), none, none, some (.iconst 1, 1, 0), some (.iload 4, 2, 0), none, some (.ishl, 1, 0), some (.iconst (-1), 1, 0), some (.ixor, 1, 0), some (.iand, 1, 0), some (.putfield 15, 3, 36), none, none, some (.iinc 4 1, 3, 0), none, none, some (.goto (-102), 3, 11), none, none, some (.aload_n 0, 1, 0), some (.dup, 1, 0), some (.getfield 9, 3, 35), none, none, some (.iconst 1, 1, 0), some (.iadd, 1, 0), some (.putfield 9, 3, 35), none, none, some (.iload_n 3, 1, 0), some (.ireturn, 1, 0)]
def am_c55 : List (Option am_I) := [some (.aload_n 0, 1, 0), some (.getfield 15, 3, 36), none, none, some (.invokestatic 52, 3, 122), none, none, some (.ireturn, 1, 0)]
def am_c56 : List (Option am_I) := [some (.iconst 0, 1, 0), some (.istore_n 1, 1, 0), some (.iconst 0, 1, 0), some (.istore_n 2, 1, 0), some (.iload_n 2, 1, 0), some (.bipush 6, 2, 0), none, some (.if_icmp .ge 26, 3, 33), none, none, some (.aload_n 0, 1, 0), some (.iload_n 2, 1, 0), some (.invokevirtual 40, 3, 120), none, none, some (.ifCond .eq 12, 3, 27), none, none, some (.iload_n 1, 1, 0), some (.aload_n 0, 1, 0), some (.getfield 21, 3, 38), none, none, some (.iload_n 2, 1, 0), some (.iaload, 1, 0), some (.iadd, 1, 0), some (.istore_n 1, 1, 0), some (.iinc 2 1, 3, 0), none, none, some (.goto (-26), 3, 4), none, none, some (.iload_n 1, 1, 0), some (.ireturn, 1, 0)]
def am_c57 : List (Option am_I) := [some (.aload_n 0, 1, 0), some (.invokevirtual 58, 3, 123), none, none, some (.istore_n 3, 1, 0), some (.iload_n 3, 1, 0), some (.iload_n 1, 1, 0), some (.if_icmp .gt 16, 3, 23), none, none, some (.iload_n 3, 1, 0), some (.iload_n 1, 1, 0), some (.if_icmp .ne 15, 3, 27), none, none, some (.aload_n 0, 1, 0), some (.invokevirtual 62, 3, 124), none, none, some (.iload_n 2, 1, 0), some (.if_icmp .le 7, 3, 27), none, none, some (.iconst 1, 1, 0), some (.goto 4, 3, 28), none, none, some (.iconst 0, 1, 0), some (.ireturn, 1, 0)]
def am_c58 : List (Option am_I) := [some (.aload_n 0, 1, 0), some (.iload_n 1, 1, 0), some (.iload_n 2, 1, 0), some (.iload_n 3, 1, 0), some (.invokespecial 1, 3, 125), none, none, some (.return_, 1, 0)]
def am_c59 : List (Option am_I) := [some (.iload_n 2, 1, 0), some (.iconst 2, 1, 0), some (.idiv, 1, 0), some (.ineg, 1, 0), some (.ireturn, 1, 0)]
def am_c60 : List (Option am_I) := [some (.bipush 31, 2, 0), none, some (.aload_n 2, 1, 0), some (.invokestatic 7, 3, 126), none, none, some (.aload_n 0, 1, 0), some (.iload_n 1, 1, 0), some (.aload_n 2, 1, 0), some (.invokespecial 13, 3, 127), none, none, some (.bipush 7, 2, 0), none, some (.ixor, 1, 0), some (.ireturn, 1, 0)]
def am_c61 : List (Option am_I) := [some (.aload_n 0, 1, 0), some (.iload_n 1, 1, 0), some (.iload_n 2, 1, 0), some (.iload_n 3, 1, 0), some (.invokespecial 1, 3, 128), none, none, some (.return_, 1, 0)]
def am_c62 : List (Option am_I) := [some (.aload_n 1, 1, 0), some (.aload_n 0, 1, 0), some (.getfield 7, 3, 41), none, none, some (.aload_n 2, 1, 0), some (.invokevirtual 13, 3, 129), none, none, some (.aload_n 1, 1, 0), some (.aload_n 0, 1, 0), some (.getfield 19, 3, 42), none, none, some (.aload_n 2, 1, 0), some (.invokevirtual 22, 3, 130), none, none, some (.return_, 1, 0)]
def am_c63 : List (Option am_I) := [some (.bipush 51, 2, 0), none, some (.aload_n 2, 1, 0), some (.invokestatic 25, 3, 131), none, none, some (.aload_n 0, 1, 0), some (.iload_n 1, 1, 0), some (.aload_n 2, 1, 0), some (.invokespecial 28, 3, 132), none, none, some (.aload_n 0, 1, 0), some (.getfield 7, 3, 41), none, none, some (.ixor, 1, 0), some (.ireturn, 1, 0)]
def am_c64 : List (Option am_I) := [some (.aload_n 0, 1, 0), some (.invokespecial 3, 3, 133), none, none, some (.aload_n 0, 1, 0), some (.bipush 6, 2, 0), none, some (.newarray .int, 2, 0), none, some (.putfield 9, 3, 43), none, none, some (.aload_n 0, 1, 0), some (.iconst 0, 1, 0), some (.putfield 15, 3, 44), none, none, some (.aload_n 0, 1, 0), some (.bipush 6, 2, 0), none, some (.bipush 6, 2, 0), none, some (.multianewarray 19 2, 4, 0), none, none, none, some (.putfield 21, 3, 45), none, none, some (.aload_n 0, 1, 0), some (.bipush 6, 2, 0), none, some (.bipush 6, 2, 0), none, some (.multianewarray 19 2, 4, 0), none, none, none, some (.putfield 24, 3, 46), none, none, some (.aload_n 0, 1, 0), some (.iconst 0, 1, 0), some (.putfield 27, 3, 47), none, none, some (.aload_n 0, 1, 0), some (.bipush (-5), 2, 0), none, some (.putfield 30, 3, 48), none, none, some (.aload_n 0, 1, 0), some (.bipush 6, 2, 0), none, some (.newarray .int, 2, 0), none, some (.putfield 33, 3, 49), none, none, some (.aload_n 0, 1, 0), some (.bipush 6, 2, 0), none, some (.newarray .int, 2, 0), none, some (.putfield 36, 3, 50), none, none, some (.aload_n 0, 1, 0), some (.bipush 6, 2, 0), none, some (.newarray .int, 2, 0), none, some (.putfield 39, 3, 51), none, none, some (.aload_n 0, 1, 0), some (.bipush 6, 2, 0), none, some (.bipush 6, 2, 0), none, some (.multianewarray 19 2, 4, 0), none, none, none, some (.putfield 42, 3, 52), none, none, some (.aload_n 0, 1, 0), some (.bipush 6, 2, 0), none, some (.newarray .int, 2, 0), none, some (.putfield 45, 3, 53), none, none, some (.aload_n 0, 1, 0), some (.bipush 6, 2, 0), none, some (.newarray .int, 2, 0), none, some (.putfield 48, 3, 54), none, none, some (.aload_n 0, 1, 0), some (.aload_n 1, 1, 0), some (.putfield 51, 3, 55), none, none, some (.aload_n 0, 1, 0), some (.aload_n 1, 1, 0), some (.getfield 55, 3, 56), none, none, some (.putfield 61, 3, 57), none, none, some (.return_, 1, 0)]
def am_c65 : List (Option am_I) := [some (.aload_n 0, 1, 0), some (.aload_n 1, 1, 0), some (.putfield 61, 3, 57), none, none, some (.aload_n 0, 1, 0), some (.invokevirtual 62, 3, 134), none, none, some (.iconst 0, 1, 0), some (.istore_n 2, 1, 0), some (.iload_n 2, 1, 0), some (.aload_n 0, 1, 0), some (.getfield 51, 3, 55), none, none, some (.getfield 65, 3, 58), none, none, some (.if_icmp .ge 28, 3, 47), none, none, some (.aload_n 0, 1, 0), some (.aload_n 0, 1, 0), some (.getfield 51, 3, 55), none, none, some (.getfield 68, 3, 59), none, none, some (.iload_n 2, 1, 0), some (.aaload, 1, 0), some (.aload_n 0, 1, 0), some (.getfield 21, 3, 45), none, none, some (.iload_n 2, 1, 0), some (.aaload, 1, 0), some (.invokevirtual 71, 3, 135), none, none, some (.iinc 2 1, 3, 0), none, none, some (.goto (-33), 3, 11), none, none, some (.aload_n 0, 1, 0), some (.aload_n 0, 1, 0), some (.invokevirtual 75, 3, 136), none, none, some (.putfield 30, 3, 48), none, none, some (.aload_n 0, 1, 0), some (.invokevirtual 79, 3, 137), none, none, some (.aload_n 0, 1, 0), some (.getfield 15, 3, 44), none, none, some (.ifCond .ne 4, 3, 67), none, none, some (.return_, 1, 0), some (.iconst 0, 1, 0), some (.istore_n 2, 1, 0), some (.iload_n 2, 1, 0), some (.aload_n 0, 1, 0), some (.getfield 51, 3, 55), none, none, some (.getfield 65, 3, 58), none, none, some (.if_icmp .ge 66, 3, 143), none, none, some (.aload_n 0, 1, 0), some (.getfield 61, 3, 57), none, none, some (.iload_n 2, 1, 0), some (.invokevirtual 82, 3, 138), none, none, some (.ifCond .eq 49, 3, 137), none, none, some (.aload_n 0, 1, 0), some (.getfield 51, 3, 55), none, none, some (.getfield 88, 3, 60), none, none, some (.iload_n 2, 1, 0), some (.aaload, 1, 0), some (.aload_n 0, 1, 0), some (.getfield 61, 3, 57), none, none, some (.getfield 92, 3, 61), none, none, some (.invokevirtual 95, 3, 139), none, none, some (.ifCond .ne 27, 3, 137), none, none, some (.aload_n 0, 1, 0), some (.getfield 51, 3, 55), none, none, some (.getfield 88, 3, 60), none, none, some (.iload_n 2, 1, 0), some (.aaload, 1, 0), some (.aload_n 0, 1, 0), some (.aload_n 0, 1, 0), some (.getfield 24, 3, 46), none, none, some (.iload_n 2, 1, 0), some (.aaload, 1, 0), some (.invokevirtual 100, 3, 140), none, none, some (.aload_n 0, 1, 0), some (.iload_n 2, 1, 0), some (.invokevirtual 104, 3, 141), none, none, some (.iinc 2 1, 3, 0), none, none, some (.goto (-71), 3, 69), none, none, some (.return_, 1, 0)]
def am_c66 : List (Option am_I) := [some (.aload_n 0, 1, 0), some (.invokevirtual 79, 3, 137), none, none, some (.iconst 0, 1, 0), some (.istore_n 1, 1, 0), some (.iload_n 1, 1, 0), some (.aload_n 0, 1, 0), some (.getfield 51, 3, 55), none, none, some (.getfield 65, 3, 58), none, none, some (.if_icmp .ge 36, 3, 50), none, none, some (.aload_n 0, 1, 0), some (.getfield 61, 3, 57), none, none, some (.iload_n 1, 1, 0), some (.invokevirtual 82, 3, 138), none, none, some (.ifCond .eq 19, 3, 44), none, none, some (.aload_n 0, 1, 0), some (.iload_n 1, 1, 0), some (.aload_n 0, 1, 0), some (.getfield 24, 3, 46), none, none, some (.iload_n 1, 1, 0), some (.aaload, 1, 0), some (.invokevirtual 108, 3, 142), none, none, some (.aload_n 0, 1, 0), some (.iload_n 1, 1, 0), some (.invokevirtual 104, 3, 141), none, none, some (.iinc 1 1, 3, 0), none, none, some (.goto (-41), 3, 6), none, none, some (.return_, 1, 0)]
def am_c67 : List (Option am_I) := [some (.aload_n 0, 1, 0), some (.iconst 0, 1, 0), some (.putfield 15, 3, 44), none, none, some (.iconst 0, 1, 0), some (.istore_n 1, 1, 0), some (.iload_n 1, 1, 0), some (.aload_n 0, 1, 0), some (.getfield 51, 3, 55), none, none, some (.getfield 112, 3, 62), none, none, some (.if_icmp .ge 40, 3, 55), none, none, some (.aload_n 0, 1, 0), some (.getfield 61, 3, 57), none, none, some (.iload_n 1, 1, 0), some (.invokevirtual 115, 3, 143), none, none, some (.ifCond .ne 23, 3, 49), none, none, some (.aload_n 0, 1, 0), some (.getfield 9, 3, 43), none, none, some (.aload_n 0, 1, 0), some (.getfield 15, 3, 44), none, none, some (.iload_n 1, 1, 0), some (.iastore, 1, 0), some (.aload_n 0, 1, 0), some (.dup, 1, 0), some (.getfield 15, 3, 44), none, none, some (.iconst 1, 1, 0), some (.iadd, 1, 0), some (.putfield 15, 3, 44), none, none, some (.iinc 1 1, 3, 0), none, none, some (.goto (-45), 3, 7), none, none, some (.return_, 1, 0)]
def am_c68 : List (Option am_I) := [some (.iconst 0, 1, 0), some (.istore_n 3, 1, 0), some (.iload_n 3, 1, 0), some (.aload_n 0, 1, 0), some (.getfield 15, 3, 44), none, none, some (.if_icmp .ge 62, 3, 69), none, none, some (.aload_n 0, 1, 0), some (.getfield 9, 3, 43), none, none, some (.iload_n 3, 1, 0), some (.iaload, 1, 0), some (.istore 4, 2, 0), none, some (.iload_n 3, 1, 0), some (.istore 5, 2, 0), none, some (.iload 5, 2, 0), none, some (.ifCond .le 34, 3, 57), none, none, some (.aload_n 1, 1, 0), some (.aload_n 2, 1, 0), some (.iload 5, 2, 0), none, some (.iconst 1, 1, 0), some (.isub, 1, 0), some (.iaload, 1, 0), some (.iaload, 1, 0), some (.aload_n 1, 1, 0), some (.iload 4, 2, 0), none, some (.iaload, 1, 0), some (.if_icmp .ge 19, 3, 57), none, none, some (.aload_n 2, 1, 0), some (.iload 5, 2, 0), none, some (.aload_n 2, 1, 0), some (.iload 5, 2, 0), none, some (.iconst 1, 1, 0), some (.isub, 1, 0), some (.iaload, 1, 0), some (.iastore, 1, 0), some (.iinc 5 (-1), 3, 0), none, none, some (.goto (-33), 3, 21), none, none, some (.aload_n 2, 1, 0), some (.iload 5, 2, 0), none, some (.iload 4, 2, 0), none, some (.iastore, 1, 0), some (.iinc 3 1, 3, 0), none, none, some (.goto (-64), 3, 2), none, none, some (.return_, 1, 0)]
def am_c69 : List (Option am_I) := [some (.bipush (-5), 2, 0), none, some (.istore_n 1, 1, 0), some (.iconst (-1), 1, 0), some (.istore_n 2, 1, 0), some (.iconst 0, 1, 0), some (.istore_n 3, 1, 0), some (.iload_n 3, 1, 0), some (.aload_n 0, 1, 0), some (.getfield 15, 3, 44), none, none, some (.if_icmp .ge 82, 3, 94), none, none, some (.iconst 0, 1, 0), some (.istore 4, 2, 0), none, some (.iconst 0, 1, 0), some (.istore 5, 2, 0), none, some (.iload 5, 2, 0), none, some (.aload_n 0, 1, 0), some (.getfield 51, 3, 55), none, none, some (.getfield 65, 3, 58), none, none, some (.if_icmp .ge 42, 3, 72), none, none, some (.aload_n 0, 1, 0), some (.getfield 61, 3, 57), none, none, some (.iload 5, 2, 0), none, some (.invokevirtual 82, 3, 138), none, none, some (.ifCond .eq 24, 3, 66), none, none, some (.aload_n 0, 1, 0), some (.getfield 21, 3, 45), none, none, some (.iload 5, 2, 0), none, some (.aaload, 1, 0), some (.iconst 0, 1, 0), some (.iaload, 1, 0), some (.aload_n 0, 1, 0), some (.getfield 9, 3, 43), none, none, some (.iload_n 3, 1, 0), some (.iaload, 1, 0), some (.if_icmp .ne 6, 3, 66), none, none, some (.iinc 4 1, 3, 0), none, none, some (.iinc 5 1, 3, 0), none, none, some (.goto (-48), 3, 21), none, none, some (.iload 4, 2, 0), none, some (.iload_n 2, 1, 0), some (.if_icmp .le 13, 3, 88), none, none, some (.iload 4, 2, 0), none, some (.istore_n 2, 1, 0), some (.aload_n 0, 1, 0), some (.getfield 9, 3, 43), none, none, some (.iload_n 3, 1, 0), some (.iaload, 1, 0), some (.istore_n 1, 1, 0), some (.iinc 3 1, 3, 0), none, none, some (.goto (-84), 3, 7), none, none, some (.iload_n 1, 1, 0), some (.ireturn, 1, 0)]
def am_c70 : List (Option am_I) := [some (.aload_n 0, 1, 0), some (.getfield 27, 3, 47), none, none, some (.iload_n 1, 1, 0), some (.ishr, 1, 0), some (.iconst 1, 1, 0), some (.iand, 1, 0), some (.ifCond .eq 7, 3, 15), none, none, some (.iconst 1, 1, 0), some (.goto 4, 3, 16), none, none, some (.iconst 0, 1, 0), some (.ireturn, 1, 0)]
def am_c71 : List (Option am_I) := [some (.iload_n 1, 1, 0), some (.ifCond .lt 29, 3, 30), none, none, some (.iload_n 1, 1, 0), some (.aload_n 0, 1, 0), some (.getfield 51, 3, 55), none, none, some (.getfield 65, 3, 58), none, none, some (.if_icmp .ge 18, 3, 30), none, none, some (.aload_n 0, 1, 0), some (.getfield 61, 3, 57), none, none, some (.iload_n 1, 1, 0), some (.invokevirtual 82, 3, 138), none, none, some (.ifCond .eq 7, 3, 30), none, none, some (.iconst 1, 1, 0), some (.goto 4, 3, 31), none, none, some (.iconst 0, 1, 0), some (.ireturn, 1, 0)]
def am_c72 : List (Option am_I) := [some (.aload_n 0, 1, 0), some (.getfield 21, 3, 45), none, none, some (.iload_n 1, 1, 0), some (.aaload, 1, 0), some (.iconst 0, 1, 0), some (.aload_n 2, 1, 0), some (.iconst 0, 1, 0), some (.bipush 6, 2, 0), none, some (.invokestatic 118, 3, 144), none, none, some (.return_, 1, 0)]
def am_c73 : List (Option am_I) := [some (.iconst 0, 1, 0), some (.istore_n 3, 1, 0), some (.iload_n 3, 1, 0), some (.iconst 1, 1, 0), some (.iadd, 1, 0), some (.aload_n 0, 1, 0), some (.getfield 15, 3, 44), none, none, some (.if_icmp .ge 30, 3, 39), none, none, some (.aload_n 2, 1, 0), some (.iload_n 3, 1, 0), some (.iaload, 1, 0), some (.iload_n 1, 1, 0), some (.if_icmp .ne 17, 3, 33), none, none, some (.aload_n 2, 1, 0), some (.iload_n 3, 1, 0), some (.aload_n 2, 1, 0), some (.iload_n 3, 1, 0), some (.iconst 1, 1, 0), some (.iadd, 1, 0), some (.iaload, 1, 0), some (.iastore, 1, 0), some (.aload_n 2, 1, 0), some (.iload_n 3, 1, 0), some (.iconst 1, 1, 0), some (.iadd, 1, 0), some (.iload_n 1, 1, 0), some (.iastore, 1, 0), some (.iinc 3 1, 3, 0), none, none, some (.goto (-34), 3, 2), none, none, some (.return_, 1, 0)]
def am_c74 : List (Option am_I) := [some (.aload_n 0, 1, 0), some (.iconst 0, 1, 0), some (.putfield 27, 3, 47), none, none, some (.iconst 0, 1, 0), some (.istore_n 1, 1, 0), some (.iload_n 1, 1, 0), some (.bipush 6, 2, 0), none, some (.if_icmp .ge 53, 3, 63), none, none, some (.aload_n 0, 1, 0), some (.getfield 33, 3, 49), none, none, some (.iload_n 1, 1, 0), some (.iconst 0, 1, 0), some (.iastore, 1, 0), some (.aload_n 0, 1, 0), some (.getfield 36, 3, 50), none, none, some (.iload_n 1, 1, 0), some (.iconst 0, 1, 0), some (.iastore, 1, 0), some (.aload_n 0, 1, 0), some (.getfield 39, 3, 51), none, none, some (.iload_n 1, 1, 0), some (.iconst 0, 1, 0), some (.iastore, 1, 0), some (.iconst 0, 1, 0), some (.istore_n 2, 1, 0), some (.iload_n 2, 1, 0), some (.bipush 6, 2, 0), none, some (.if_icmp .ge 18, 3, 57), none, none, some (.aload_n 0, 1, 0), some (.getfield 42, 3, 52), none, none, some (.iload_n 1, 1, 0), some (.aaload, 1, 0), some (.iload_n 2, 1, 0), some (.iconst 0, 1, 0), some (.iastore, 1, 0), some (.iinc 2 1, 3, 0), none, none, some (.goto (-18), 3, 36), none, none, some (.iinc 1 1, 3, 0), none, none, some (.goto (-53), 3, 7), none, none, some (.return_, 1, 0)]
def am_c75 : List (Option am_I) := [some (.aload_n 0, 1, 0), some (.dup, 1, 0), some (.getfield 27, 3, 47), none, none, some (.iconst 1, 1, 0), some (.iload_n 1, 1, 0), some (.ishl, 1, 0), some (.ior, 1, 0), some (.putfield 27, 3, 47), none, none, some (.aload_n 0, 1, 0), some (.aload_n 0, 1, 0), some (.getfield 24, 3, 46), none, none, some (.iload_n 1, 1, 0), some (.aaload, 1, 0), some (.iconst 1, 1, 0), some (.invokevirtual 124, 3, 145), none, none, some (.return_, 1, 0)]
def am_c76 : List (Option am_I) := [some (.iconst 0, 1, 0), some (.istore_n 3, 1, 0), some (.iload_n 3, 1, 0), some (.aload_n 0, 1, 0), some (.getfield 15, 3, 44), none, none, some (.if_icmp .ge 117, 3, 124), none, none, some (.aload_n 1, 1, 0), some (.iload_n 3, 1, 0), some (.iaload, 1, 0), some (.istore 4, 2, 0), none, some (.aload_n 0, 1, 0), some (.getfield 36, 3, 50), none, none, some (.iload 4, 2, 0), none, some (.dup2, 1, 0), some (.iaload, 1, 0), some (.iload_n 2, 1, 0), some (.aload_n 0, 1, 0), some (.getfield 15, 3, 44), none, none, some (.iconst 1, 1, 0), some (.isub, 1, 0), some (.iload_n 3, 1, 0), some (.isub, 1, 0), some (.imul, 1, 0), some (.iadd, 1, 0), some (.iastore, 1, 0), some (.iload_n 3, 1, 0), some (.ifCond .ne 14, 3, 50), none, none, some (.aload_n 0, 1, 0), some (.getfield 39, 3, 51), none, none, some (.iload 4, 2, 0), none, some (.dup2, 1, 0), some (.iaload, 1, 0), some (.iload_n 2, 1, 0), some (.iadd, 1, 0), some (.iastore, 1, 0), some (.iload_n 3, 1, 0), some (.iconst 2, 1, 0), some (.if_icmp .ge 14, 3, 66), none, none, some (.aload_n 0, 1, 0), some (.getfield 33, 3, 49), none, none, some (.iload 4, 2, 0), none, some (.dup2, 1, 0), some (.iaload, 1, 0), some (.iload_n 2, 1, 0), some (.iadd, 1, 0), some (.iastore, 1, 0), some (.iload_n 3, 1, 0), some (.iconst 1, 1, 0), some (.iadd, 1, 0), some (.istore 5, 2, 0), none, some (.iload 5, 2, 0), none, some (.aload_n 0, 1, 0), some (.getfield 15, 3, 44), none, none, some (.if_icmp .ge 41, 3, 118), none, none, some (.aload_n 0, 1, 0), some (.getfield 42, 3, 52), none, none, some (.iload 4, 2, 0), none, some (.aaload, 1, 0), some (.aload_n 1, 1, 0), some (.iload 5, 2, 0), none, some (.iaload, 1, 0), some (.dup2, 1, 0), some (.iaload, 1, 0), some (.iload_n 2, 1, 0), some (.iadd, 1, 0), some (.iastore, 1, 0), some (.aload_n 0, 1, 0), some (.getfield 42, 3, 52), none, none, some (.aload_n 1, 1, 0), some (.iload 5, 2, 0), none, some (.iaload, 1, 0), some (.aaload, 1, 0), some (.iload 4, 2, 0), none, some (.dup2, 1, 0), some (.iaload, 1, 0), some (.iload_n 2, 1, 0), some (.isub, 1, 0), some (.iastore, 1, 0), some (.iinc 5 1, 3, 0), none, none, some (.goto (-44), 3, 71), none, none, some (.iinc 3 1, 3, 0), none, none, some (.goto (-119), 3, 2), none, none, some (.return_, 1, 0)]
def am_c77 : List (Option am_I) := [some (.bipush (-5), 2, 0), none, some (.istore_n 3, 1, 0), some (.iconst 0, 1, 0), some (.istore 4, 2, 0), none, some (.iload 4, 2, 0), none, some (.aload_n 0, 1, 0), some (.getfield 15, 3, 44), none, none, some (.if_icmp .ge 41, 3, 53), none, none, some (.aload_n 0, 1, 0), some (.getfield 9, 3, 43), none, none, some (.iload 4, 2, 0), none, some (.iaload, 1, 0), some (.istore 5, 2, 0), none, some (.iload 5, 2, 0), none, some (.iload_n 2, 1, 0), some (.if_icmp .eq 20, 3, 47), none, none, some (.iload_n 3, 1, 0), some (.ifCond .lt 13, 3, 44), none, none, some (.aload_n 1, 1, 0), some (.iload 5, 2, 0), none, some (.iaload, 1, 0), some (.aload_n 1, 1, 0), some (.iload_n 3, 1, 0), some (.iaload, 1, 0), some (.if_icmp .le 6, 3, 47), none, none, some (.iload 5, 2, 0), none, some (.istore_n 3, 1, 0), some (.iinc 4 1, 3, 0), none, none, some (.goto (-44), 3, 6), none, none, some (.iload_n 3, 1, 0), some (.ireturn, 1, 0)]
def am_c78 : List (Option am_I) := [some (.aload_n 0, 1, 0), some (.getfield 15, 3, 44), none, none, some (.ifCond .ne 6, 3, 10), none, none, some (.bipush (-5), 2, 0), none, some (.ireturn, 1, 0), some (.iload_n 1, 1, 0), some (.tableswitch 76 0 4 #[33, 44, 55, 66, 71], 33, 0), none, none, none, none, none, none, none, none, none, none, none, none, none, none, none, none, none, none, none, none, none, none, none, none, none, none, none, none, none, none, none, none, some (.aload_n 0, 1, 0), some (.aload_n 0, 1, 0), some (.getfield 33, 3, 49), none, none, some (.bipush (-5), 2, 0), none, some (.invokevirtual 128, 3, 146), none, none, some (.ireturn, 1, 0), some (.aload_n 0, 1, 0), some (.aload_n 0, 1, 0), some (.getfield 36, 3, 50), none, none, some (.bipush (-5), 2, 0), none, some (.invokevirtual 128, 3, 146), none, none, some (.ireturn, 1, 0), some (.aload_n 0, 1, 0), some (.aload_n 0, 1, 0), some (.getfield 39, 3, 51), none, none, some (.bipush (-5), 2, 0), none, some (.invokevirtual 128, 3, 146), none, none, some (.ireturn, 1, 0), some (.aload_n 0, 1, 0), some (.invokevirtual 132, 3, 147), none, none, some (.ireturn, 1, 0), some (.aload_n 0, 1, 0), some (.invokevirtual 135, 3, 148), none, none, some (.ireturn, 1, 0), some (.aload_n 0, 1, 0), some (.invokevirtual 138, 3, 149), none, none, some (.ireturn, 1, 0)]
def am_c79 : List (Option am_I) := [some (.aload_n 0, 1, 0), some (.aload_n 0, 1, 0), some (.getfield 39, 3, 51), none, none, some (.bipush (-5), 2, 0), none, some (.invokevirtual 128, 3, 146), none, none, some (.istore_n 1, 1, 0), some (.aload_n 0, 1, 0), some (.aload_n 0, 1, 0), some (.getfield 39, 3, 51), none, none, some (.iload_n 1, 1, 0), some (.invokevirtual 128, 3, 146), none, none, some (.istore_n 2, 1, 0), some (.iload_n 1, 1, 0), some (.ifCond .lt 7, 3, 29), none, none, some (.iload_n 2, 1, 0), some (.ifCond .ge 5, 3, 31), none, none, some (.iload_n 1, 1, 0), some (.ireturn, 1, 0), some (.aload_n 0, 1, 0), some (.getfield 42, 3, 52), none, none, some (.iload_n 1, 1, 0), some (.aaload, 1, 0), some (.iload_n 2, 1, 0), some (.iaload, 1, 0), some (.istore_n 3, 1, 0), some (.iload_n 3, 1, 0), some (.ifCond .ne 9, 3, 50), none, none, some (.iload_n 1, 1, 0), some (.iload_n 2, 1, 0), some (.invokestatic 141, 3, 150), none, none, some (.ireturn, 1, 0), some (.iload_n 3, 1, 0), some (.ifCond .le 7, 3, 58), none, none, some (.iload_n 1, 1, 0), some (.goto 4, 3, 59), none, none, some (.iload_n 2, 1, 0), some (.ireturn, 1, 0)]
def am_c80 : List (Option am_I) := [some (.iconst 0, 1, 0), some (.istore_n 1, 1, 0), some (.iload_n 1, 1, 0), some (.aload_n 0, 1, 0), some (.getfield 15, 3, 44), none, none, some (.if_icmp .ge 74, 3, 81), none, none, some (.iconst 1, 1, 0), some (.istore_n 2, 1, 0), some (.iconst 0, 1, 0), some (.istore_n 3, 1, 0), some (.iload_n 3, 1, 0), some (.aload_n 0, 1, 0), some (.getfield 15, 3, 44), none, none, some (.if_icmp .ge 45, 3, 64), none, none, some (.iload_n 2, 1, 0), some (.ifCond .eq 41, 3, 64), none, none, some (.iload_n 3, 1, 0), some (.iload_n 1, 1, 0), some (.if_icmp .eq 24, 3, 52), none, none, some (.aload_n 0, 1, 0), some (.getfield 42, 3, 52), none, none, some (.aload_n 0, 1, 0), some (.getfield 9, 3, 43), none, none, some (.iload_n 1, 1, 0), some (.iaload, 1, 0), some (.aaload, 1, 0), some (.aload_n 0, 1, 0), some (.getfield 9, 3, 43), none, none, some (.iload_n 3, 1, 0), some (.iaload, 1, 0), some (.iaload, 1, 0), some (.ifCond .le 7, 3, 56), none, none, some (.iconst 1, 1, 0), some (.goto 4, 3, 57), none, none, some (.iconst 0, 1, 0), some (.istore_n 2, 1, 0), some (.iinc 3 1, 3, 0), none, none, some (.goto (-47), 3, 14), none, none, some (.iload_n 2, 1, 0), some (.ifCond .eq 10, 3, 75), none, none, some (.aload_n 0, 1, 0), some (.getfield 9, 3, 43), none, none, some (.iload_n 1, 1, 0), some (.iaload, 1, 0), some (.ireturn, 1, 0), some (.iinc 1 1, 3, 0), none, none, some (.goto (-76), 3, 2), none, none, some (.aload_n 0, 1, 0), some (.aload_n 0, 1, 0), some (.getfield 36, 3, 50), none, none, some (.bipush (-5), 2, 0), none, some (.invokevirtual 128, 3, 146), none, none, some (.ireturn, 1, 0)]
def am_c81 : List (Option am_I) := [some (.aload_n 0, 1, 0), some (.getfield 61, 3, 57), none, none, some (.invokevirtual 147, 3, 151), none, none, some (.istore_n 1, 1, 0), some (.iload_n 1, 1, 0), some (.ifCond .gt 10, 3, 19), none, none, some (.aload_n 0, 1, 0), some (.getfield 9, 3, 43), none, none, some (.iconst 0, 1, 0), some (.iaload, 1, 0), some (.ireturn, 1, 0), some (.aload_n 0, 1, 0), some (.getfield 61, 3, 57), none, none, some (.getfield 92, 3, 61), none, none, some (.iload_n 1, 1, 0), some (.irem, 1, 0), some (.istore_n 2, 1, 0), some (.iconst 0, 1, 0), some (.istore_n 3, 1, 0), some (.iload_n 3, 1, 0), some (.aload_n 0, 1, 0), some (.getfield 51, 3, 55), none, none, some (.getfield 65, 3, 58), none, none, some (.if_icmp .ge 55, 3, 94), none, none, some (.aload_n 0, 1, 0), some (.getfield 61, 3, 57), none, none, some (.iload_n 3, 1, 0), some (.invokevirtual 82, 3, 138), none, none, some (.ifCond .eq 38, 3, 88), none, none, some (.iload_n 2, 1, 0), some (.ifCond .ne 31, 3, 85), none, none, some (.aload_n 0, 1, 0), some (.iload_n 3, 1, 0), some (.invokevirtual 150, 3, 152), none, none, some (.ifCond .eq 14, 3, 76), none, none, some (.aload_n 0, 1, 0), some (.getfield 24, 3, 46), none, none, some (.iload_n 3, 1, 0), some (.aaload, 1, 0), some (.iconst 0, 1, 0), some (.iaload, 1, 0), some (.goto 11, 3, 84), none, none, some (.aload_n 0, 1, 0), some (.getfield 21, 3, 45), none, none, some (.iload_n 3, 1, 0), some (.aaload, 1, 0), some (.iconst 0, 1, 0), some (.iaload, 1, 0), some (.ireturn, 1, 0), some (.iinc 2 (-1), 3, 0), none, none, some (.iinc 3 1, 3, 0), none, none, some (.goto (-60), 3, 31), none, none, some (.aload_n 0, 1, 0), some (.getfield 9, 3, 43), none, none, some (.iconst 0, 1, 0), some (.iaload, 1, 0), some (.ireturn, 1, 0)]
def am_c82 : List (Option am_I) := [some (.aload_n 0, 1, 0), some (.iload_n 2, 1, 0), some (.invokevirtual 153, 3, 153), none, none, some (.istore 4, 2, 0), none, some (.iload 4, 2, 0), none, some (.ifCond .ge 6, 3, 15), none, none, some (.bipush (-5), 2, 0), none, some (.ireturn, 1, 0), some (.aload_n 0, 1, 0), some (.iload_n 1, 1, 0), some (.invokevirtual 150, 3, 152), none, none, some (.istore 5, 2, 0), none, some (.aload_n 0, 1, 0), some (.iload_n 1, 1, 0), some (.invokevirtual 157, 3, 154), none, none, some (.aload_n 0, 1, 0), some (.dup, 1, 0), some (.getfield 27, 3, 47), none, none, some (.iconst 1, 1, 0), some (.iload_n 1, 1, 0), some (.ishl, 1, 0), some (.ior, 1, 0), some (.putfield 27, 3, 47), none, none, some (.aload_n 0, 1, 0), some (.getfield 51, 3, 55), none, none, some (.getfield 68, 3, 59), none, none, some (.iload_n 1, 1, 0), some (.aaload, 1, 0), some (.astore 6, 2, 0), none, some (.bipush (-5), 2, 0), none, some (.istore 7, 2, 0), none, some (.iconst 1, 1, 0), some (.istore 8, 2, 0), none, some (.aload_n 0, 1, 0), some (.invokevirtual 160, 3, 155), none, none, some (.iconst 0, 1, 0), some (.istore 9, 2, 0), none, some (.iload 9, 2, 0), none, some (.bipush 120, 2, 0), none, some (.if_icmp .ge 105, 3, 173), none, none, some (.iload 8, 2, 0), none, some (.ifCond .eq 100, 3, 173), none, none, some (.iload 7, 2, 0), none, some (.bipush (-5), 2, 0), none, some (.if_icmp .ne 93, 3, 173), none, none, some (.aload_n 0, 1, 0), some (.getfield 45, 3, 53), none, none, some (.iconst 0, 1, 0), some (.aload_n 0, 1, 0), some (.getfield 24, 3, 46), none, none, some (.iload_n 1, 1, 0), some (.aaload, 1, 0), some (.iconst 0, 1, 0), some (.bipush 6, 2, 0), none, some (.invokestatic 118, 3, 144), none, none, some (.aload_n 0, 1, 0), some (.aload_n 0, 1, 0), some (.getfield 45, 3, 53), none, none, some (.iconst 1, 1, 0), some (.invokevirtual 124, 3, 145), none, none, some (.aload_n 0, 1, 0), some (.iload_n 2, 1, 0), some (.invokevirtual 153, 3, 153), none, none, some (.istore 10, 2, 0), none, some (.aload_n 0, 1, 0), some (.aload_n 0, 1, 0), some (.getfield 45, 3, 53), none, none, some (.iconst (-1), 1, 0), some (.invokevirtual 124, 3, 145), none, none, some (.iload 10, 2, 0), none, some (.ifCond .lt 34, 3, 161), none, none, some (.iload_n 3, 1, 0), some (.ifCond .eq 19, 3, 150), none, none, some (.aload 6, 2, 0), none, some (.iload 10, 2, 0), none, some (.iaload, 1, 0), some (.aload 6, 2, 0), none, some (.iload 4, 2, 0), none, some (.iaload, 1, 0), some (.if_icmp .le 17, 3, 161), none, none, some (.goto 10, 3, 157), none, none, some (.iload 10, 2, 0), none, some (.iload 4, 2, 0), none, some (.if_icmp .eq 7, 3, 161), none, none, some (.iload 10, 2, 0), none, some (.istore 7, 2, 0), none, some (.aload_n 0, 1, 0), some (.invokevirtual 163, 3, 156), none, none, some (.istore 8, 2, 0), none, some (.iinc 9 1, 3, 0), none, none, some (.goto (-106), 3, 64), none, none, some (.aload_n 0, 1, 0), some (.dup, 1, 0), some (.getfield 27, 3, 47), none, none, some (.iconst 1, 1, 0), some (.iload_n 1, 1, 0), some (.ishl, 1, 0), some (.iconst (-1), 1, 0), some (.ixor, 1, 0), some (.iand, 1, 0), some (.putfield 27, 3, 47), none, none, some (.aload_n 0, 1, 0), some (.getfield 48, 3, 54), none, none, some (.iconst 0, 1, 0), some (.aload_n 0, 1, 0), some (.getfield 24, 3, 46), none, none, some (.iload_n 1, 1, 0), some (.aaload, 1, 0), some (.iconst 0, 1, 0), some (.bipush 6, 2, 0), none, some (.invokestatic 118, 3, 144), none, none, some (.iload 5, 2, 0), none, some (.ifCond .eq 8, 3, 214), none, none, some (.aload_n 0, 1, 0), some (.iload_n 1, 1, 0), some (.invokevirtual 104, 3, 141), none, none, some (.iload 7, 2, 0), none, some (.ireturn, 1, 0)]
def am_c83 : List (Option am_I) := [some (.aload_n 0, 1, 0), some (.getfield 24, 3, 46), none, none, some (.iload_n 1, 1, 0), some (.aaload, 1, 0), some (.iconst 0, 1, 0), some (.aload_n 0, 1, 0), some (.getfield 48, 3, 54), none, none, some (.iconst 0, 1, 0), some (.bipush 6, 2, 0), none, some (.invokestatic 118, 3, 144), none, none, some (.aload_n 0, 1, 0), some (.iload_n 1, 1, 0), some (.invokevirtual 150, 3, 152), none, none, some (.ifCond .eq 28, 3, 50), none, none, some (.aload_n 0, 1, 0), some (.dup, 1, 0), some (.getfield 27, 3, 47), none, none, some (.iconst 1, 1, 0), some (.iload_n 1, 1, 0), some (.ishl, 1, 0), some (.iconst (-1), 1, 0), some (.ixor, 1, 0), some (.iand, 1, 0), some (.putfield 27, 3, 47), none, none, some (.aload_n 0, 1, 0), some (.aload_n 0, 1, 0), some (.getfield 24, 3, 46), none, none, some (.iload_n 1, 1, 0), some (.aaload, 1, 0), some (.iconst (-1), 1, 0), some (.invokevirtual 124, 3, 145), none, none, some (.return_, 1, 0)]
def am_c84 : List (Option am_I) := [some (.aload_n 0, 1, 0), some (.getfield 9, 3, 43), none, none, some (.iconst 0, 1, 0), some (.aload_n 0, 1, 0), some (.getfield 45, 3, 53), none, none, some (.iconst 0, 1, 0), some (.bipush 6, 2, 0), none, some (.invokestatic 118, 3, 144), none, none, some (.return_, 1, 0)]
def am_c85 : List (Option am_I) := [some (.aload_n 0, 1, 0), some (.getfield 15, 3, 44), none, none, some (.iconst 2, 1, 0), some (.isub, 1, 0), some (.istore_n 1, 1, 0), some (.iload_n 1, 1, 0), some (.ifCond .lt 26, 3, 34), none, none, some (.aload_n 0, 1, 0), some (.getfield 45, 3, 53), none, none, some (.iload_n 1, 1, 0), some (.iaload, 1, 0), some (.aload_n 0, 1, 0), some (.getfield 45, 3, 53), none, none, some (.iload_n 1, 1, 0), some (.iconst 1, 1, 0), some (.iadd, 1, 0), some (.iaload, 1, 0), some (.if_icmp .le 9, 3, 34), none, none, some (.iinc 1 (-1), 3, 0), none, none, some (.goto (-24), 3, 7), none, none, some (.iload_n 1, 1, 0), some (.ifCond .ge 5, 3, 40), none, none, some (.iconst 0, 1, 0), some (.ireturn, 1, 0), some (.aload_n 0, 1, 0), some (.getfield 15, 3, 44), none, none, some (.iconst 1, 1, 0), some (.isub, 1, 0), some (.istore_n 2, 1, 0), some (.iload_n 2, 1, 0), some (.iload_n 1, 1, 0), some (.if_icmp .le 24, 3, 73), none, none, some (.aload_n 0, 1, 0), some (.getfield 45, 3, 53), none, none, some (.iload_n 2, 1, 0), some (.iaload, 1, 0), some (.aload_n 0, 1, 0), some (.getfield 45, 3, 53), none, none, some (.iload_n 1, 1, 0), some (.iaload, 1, 0), some (.if_icmp .ge 9, 3, 73), none, none, some (.iinc 2 (-1), 3, 0), none, none, some (.goto (-23), 3, 47), none, none, some (.aload_n 0, 1, 0), some (.iload_n 1, 1, 0), some (.iload_n 2, 1, 0), some (.invokevirtual 167, 3, 157), none, none, some (.iload_n 1, 1, 0), some (.iconst 1, 1, 0), some (.iadd, 1, 0), some (.istore_n 3, 1, 0), some (.aload_n 0, 1, 0), some (.getfield 15, 3, 44), none, none, some (.iconst 1, 1, 0), some (.isub, 1, 0), some (.istore 4, 2, 0), none, some (.iload_n 3, 1, 0), some (.iload 4, 2, 0), none, some (.if_icmp .ge 19, 3, 113), none, none, some (.aload_n 0, 1, 0), some (.iload_n 3, 1, 0), some (.iload 4, 2, 0), none, some (.invokevirtual 167, 3, 157), none, none, some (.iinc 3 1, 3, 0), none, none, some (.iinc 4 (-1), 3, 0), none, none, some (.goto (-19), 3, 91), none, none, some (.iconst 1, 1, 0), some (.ireturn, 1, 0)]
def am_c86 : List (Option am_I) := [some (.aload_n 0, 1, 0), some (.getfield 45, 3, 53), none, none, some (.iload_n 1, 1, 0), some (.iaload, 1, 0), some (.istore_n 3, 1, 0), some (.aload_n 0, 1, 0), some (.getfield 45, 3, 53), none, none, some (.iload_n 1, 1, 0), some (.aload_n 0, 1, 0), some (.getfield 45, 3, 53), none, none, some (.iload_n 2, 1, 0), some (.iaload, 1, 0), some (.iastore, 1, 0), some (.aload_n 0, 1, 0), some (.getfield 45, 3, 53), none, none, some (.iload_n 2, 1, 0), some (.iload_n 3, 1, 0), some (.iastore, 1, 0), some (.return_, 1, 0)]
def am_c87 : List (Option am_I) := [some (.aload_n 0, 1, 0), some (.invokespecial 3, 3, 158), none, none, some (.aload_n 0, 1, 0), some (.new 9, 3, 3), none, none, some (.dup, 1, 0), some (.invokespecial 11, 3, 159), none, none, some (.putfield 12, 3, 63), none, none, some (.aload_n 0, 1, 0), some (.new 9, 3, 3), none, none, some (.dup, 1, 0), some (.invokespecial 11, 3, 159), none, none, some (.putfield 18, 3, 64), none, none, some (.aload_n 0, 1, 0), some (.new 21, 3, 7), none, none, some (.dup, 1, 0), some (.invokespecial 23, 3, 160), none, none, some (.putfield 24, 3, 65), none, none, some (.aload_n 0, 1, 0), some (.new 28, 3, 10), none, none, some (.dup, 1, 0), some (.aload_n 0, 1, 0), some (.getfield 12, 3, 63), none, none, some (.invokespecial 30, 3, 161), none, none, some (.putfield 33, 3, 66), none, none, some (.aload_n 0, 1, 0), some (.bipush 21, 2, 0), none, some (.newarray .int, 2, 0), none, some (.putfield 37, 3, 67), none, none, some (.aload_n 0, 1, 0), some (.bipush 7, 2, 0), none, some (.newarray .long, 2, 0), none, some (.putfield 41, 3, 68), none, none, some (.aload_n 0, 1, 0), some (.bipush 6, 2, 0), none, some (.newarray .int, 2, 0), none, some (.putfield 45, 3, 69), none, none, some (.aload_n 0, 1, 0), some (.new 48, 3, 1), none, none, some (.dup, 1, 0), some (.invokespecial 50, 3, 162), none, none, some (.putfield 51, 3, 70), none, none, some (.aload_n 0, 1, 0), some (.iconst 0, 1, 0), some (.putfield 55, 3, 71), none, none, some (.return_, 1, 0)]
def am_c88 : List (Option am_I) := [some (.iload_n 1, 1, 0), some (.ifCond .lt 9, 3, 10), none, none, some (.iload_n 1, 1, 0), some (.bipush 127, 2, 0), none, some (.if_icmp .le 6, 3, 13), none, none, some (.bipush (-2), 2, 0), none, some (.ireturn, 1, 0), some (.aload_n 0, 1, 0), some (.getfield 12, 3, 63), none, none, some (.getfield 59, 3, 72), none, none, some (.bipush 100, 2, 0), none, some (.if_icmp .lt 6, 3, 28), none, none, some (.bipush (-4), 2, 0), none, some (.ireturn, 1, 0), some (.aload_n 0, 1, 0), some (.getfield 12, 3, 63), none, none, some (.getfield 63, 3, 73), none, none, some (.aload_n 0, 1, 0), some (.getfield 12, 3, 63), none, none, some (.getfield 59, 3, 72), none, none, some (.iload_n 1, 1, 0), some (.iastore, 1, 0), some (.aload_n 0, 1, 0), some (.getfield 12, 3, 63), none, none, some (.dup, 1, 0), some (.getfield 59, 3, 72), none, none, some (.iconst 1, 1, 0), some (.iadd, 1, 0), some (.putfield 59, 3, 72), none, none, some (.aload_n 0, 1, 0), some (.getfield 12, 3, 63), none, none, some (.getfield 59, 3, 72), none, none, some (.ireturn, 1, 0)]
def am_c89 : List (Option am_I) := [some (.aload_n 0, 1, 0), some (.getfield 12, 3, 63), none, none, some (.getfield 66, 3, 74), none, none, some (.iconst 5, 1, 0), some (.if_icmp .lt 6, 3, 14), none, none, some (.bipush (-4), 2, 0), none, some (.ireturn, 1, 0), some (.aload_n 0, 1, 0), some (.getfield 51, 3, 70), none, none, some (.aload_n 0, 1, 0), some (.getfield 12, 3, 63), none, none, some (.getfield 63, 3, 73), none, none, some (.aload_n 0, 1, 0), some (.getfield 12, 3, 63), none, none, some (.getfield 59, 3, 72), none, none, some (.invokevirtual 69, 3, 163), none, none, some (.istore_n 1, 1, 0), some (.aload_n 0, 1, 0), some (.getfield 12, 3, 63), none, none, some (.iconst 0, 1, 0), some (.putfield 59, 3, 72), none, none, some (.iload_n 1, 1, 0), some (.ifCond .ne 14, 3, 59), none, none, some (.bipush (-10), 2, 0), none, some (.aload_n 0, 1, 0), some (.getfield 51, 3, 70), none, none, some (.getfield 73, 3, 75), none, none, some (.isub, 1, 0), some (.ireturn, 1, 0), some (.aload_n 0, 1, 0), some (.getfield 12, 3, 63), none, none, some (.aload_n 0, 1, 0), some (.getfield 51, 3, 70), none, none, some (.putfield 76, 3, 76), none, none, some (.aload_n 0, 1, 0), some (.new 48, 3, 1), none, none, some (.dup, 1, 0), some (.invokespecial 50, 3, 162), none, none, some (.putfield 51, 3, 70), none, none, some (.aload_n 0, 1, 0), some (.getfield 12, 3, 63), none, none, some (.dup, 1, 0), some (.getfield 66, 3, 74), none, none, some (.iconst 1, 1, 0), some (.iadd, 1, 0), some (.putfield 66, 3, 74), none, none, some (.aload_n 0, 1, 0), some (.getfield 12, 3, 63), none, none, some (.invokevirtual 79, 3, 164), none, none, some (.aload_n 0, 1, 0), some (.getfield 12, 3, 63), none, none, some (.getfield 66, 3, 74), none, none, some (.iconst 1, 1, 0), some (.isub, 1, 0), some (.ireturn, 1, 0)]
def am_c90 : List (Option am_I) := [some (.iload_n 1, 1, 0), some (.ifCond .lt 9, 3, 10), none, none, some (.iload_n 1, 1, 0), some (.bipush 7, 2, 0), none, some (.if_icmp .lt 5, 3, 12), none, none, some (.iconst (-1), 1, 0), some (.ireturn, 1, 0), some (.iload_n 2, 1, 0), some (.ifCond .lt 9, 3, 22), none, none, some (.iload_n 2, 1, 0), some (.bipush 9, 2, 0), none, some (.if_icmp .le 6, 3, 25), none, none, some (.bipush (-2), 2, 0), none, some (.ireturn, 1, 0), some (.aload_n 0, 1, 0), some (.getfield 12, 3, 63), none, none, some (.getfield 82, 3, 77), none, none, some (.bipush 6, 2, 0), none, some (.if_icmp .lt 6, 3, 40), none, none, some (.bipush (-4), 2, 0), none, some (.ireturn, 1, 0), some (.aload_n 0, 1, 0), some (.getfield 12, 3, 63), none, none, some (.iload_n 1, 1, 0), some (.aload_n 0, 1, 0), some (.getfield 12, 3, 63), none, none, some (.getfield 82, 3, 77), none, none, some (.iload_n 2, 1, 0), some (.invokestatic 85, 3, 165), none, none, some (.invokevirtual 89, 3, 166), none, none, some (.aload_n 0, 1, 0), some (.getfield 12, 3, 63), none, none, some (.getfield 82, 3, 77), none, none, some (.iconst 1, 1, 0), some (.isub, 1, 0), some (.ireturn, 1, 0)]
def am_c91 : List (Option am_I) := [some (.iload_n 0, 1, 0), some (.tableswitch 105 1 6 #[39, 50, 61, 72, 83, 94], 39, 0), none, none, none, none, none, none, none, none, none, none, none, none, none, none, none, none, none, none, none, none, none, none, none, none, none, none, none, none, none, none, none, none, none, none, none, none, none, none, some (.new 93, 3, 5), none, none, some (.dup, 1, 0), some (.iload_n 0, 1, 0), some (.iload_n 1, 1, 0), some (.iload_n 2, 1, 0), some (.invokespecial 95, 3, 167), none, none, some (.areturn, 1, 0), some (.new 98, 3, 6), none, none, some (.dup, 1, 0), some (.iload_n 0, 1, 0), some (.iload_n 1, 1, 0), some (.iload_n 2, 1, 0), some (.invokespecial 100, 3, 168), none, none, some (.areturn, 1, 0), some (.new 101, 3, 8), none, none, some (.dup, 1, 0), some (.iload_n 0, 1, 0), some (.iload_n 1, 1, 0), some (.iload_n 2, 1, 0), some (.invokespecial 103, 3, 169), none, none, some (.areturn, 1, 0), some (.new 104, 3, 2), none, none, some (.dup, 1, 0), some (.iload_n 0, 1, 0), some (.iload_n 1, 1, 0), some (.iload_n 2, 1, 0), some (.invokespecial 106, 3, 170), none, none, some (.areturn, 1, 0), some (.new 107, 3, 9), none, none, some (.dup, 1, 0), some (.iload_n 0, 1, 0), some (.iload_n 1, 1, 0), some (.iload_n 2, 1, 0), some (.invokespecial 109, 3, 171), none, none, some (.areturn, 1, 0), some (.new 110, 3, 0), none, none, some (.dup, 1, 0), some (.iload_n 0, 1, 0), some (.iload_n 1, 1, 0), some (.iload_n 2, 1, 0), some (.invokespecial 112, 3, 172), none, none, some (.areturn, 1, 0), some (.new 113, 3, 4), none, none, some (.dup, 1, 0), some (.iload_n 0, 1, 0), some (.iload_n 1, 1, 0), some (.iload_n 2, 1, 0), some (.invokespecial 115, 3, 173), none, none, some (.areturn, 1, 0)]
def am_c92 : List (Option am_I) := [some (.aload_n 0, 1, 0), some (.iload 4, 2, 0), none, some (.invokevirtual 116, 3, 174), none, none, some (.ifCond .ne 5, 3, 11), none, none, some (.iconst (-1), 1, 0), some (.ireturn, 1, 0), some (.iload_n 1, 1, 0), some (.ifCond .lt 28, 3, 40), none, none, some (.iload_n 1, 1, 0), some (.bipush 99, 2, 0), none, some (.if_icmp .gt 22, 3, 40), none, none, some (.iload_n 2, 1, 0), some (.ifCond .lt 18, 3, 40), none, none, some (.iload_n 2, 1, 0), some (.bipush 9, 2, 0), none, some (.if_icmp .gt 12, 3, 40), none, none, some (.iload_n 3, 1, 0), some (.ifCond .lt 8, 3, 40), none, none, some (.iload_n 3, 1, 0), some (.iconst 3, 1, 0), some (.if_icmp .le 6, 3, 43), none, none, some (.bipush (-2), 2, 0), none, some (.ireturn, 1, 0), some (.aload_n 0, 1, 0), some (.getfield 12, 3, 63), none, none, some (.getfield 120, 3, 78), none, none, some (.bipush 6, 2, 0), none, some (.if_icmp .lt 6, 3, 58), none, none, some (.bipush (-4), 2, 0), none, some (.ireturn, 1, 0), some (.aload_n 0, 1, 0), some (.getfield 12, 3, 63), none, none, some (.iload_n 1, 1, 0), some (.iload_n 2, 1, 0), some (.iload_n 3, 1, 0), some (.iload 4, 2, 0), none, some (.invokevirtual 123, 3, 175), none, none, some (.aload_n 0, 1, 0), some (.getfield 12, 3, 63), none, none, some (.getfield 120, 3, 78), none, none, some (.iconst 1, 1, 0), some (.isub, 1, 0), some (.ireturn, 1, 0)]
def am_c93 : List (Option am_I) := [some (.aload_n 0, 1, 0), some (.iload_n 1, 1, 0), some (.invokevirtual 116, 3, 174), none, none, some (.ifCond .ne 7, 3, 12), none, none, some (.sipush (-10001), 3, 0), none, none, some (.ireturn, 1, 0), some (.iload_n 2, 1, 0), some (.tableswitch 90 0 3 #[31, 44, 57, 70], 31, 0), none, none, none, none, none, none, none, none, none, none, none, none, none, none, none, none, none, none, none, none, none, none, none, none, none, none, none, none, none, none, some (.aload_n 0, 1, 0), some (.getfield 12, 3, 63), none, none, some (.getfield 127, 3, 79), none, none, some (.iload_n 1, 1, 0), some (.aaload, 1, 0), some (.getfield 131, 3, 80), none, none, some (.ireturn, 1, 0), some (.aload_n 0, 1, 0), some (.getfield 12, 3, 63), none, none, some (.getfield 127, 3, 79), none, none, some (.iload_n 1, 1, 0), some (.aaload, 1, 0), some (.getfield 134, 3, 81), none, none, some (.ireturn, 1, 0), some (.aload_n 0, 1, 0), some (.getfield 12, 3, 63), none, none, some (.getfield 137, 3, 82), none, none, some (.getfield 140, 3, 83), none, none, some (.iload_n 1, 1, 0), some (.iaload, 1, 0), some (.ireturn, 1, 0), some (.aload_n 0, 1, 0), some (.getfield 12, 3, 63), none, none, some (.getfield 137, 3, 82), none, none, some (.iload_n 1, 1, 0), some (.invokevirtual 143, 3, 176), none, none, some (.ifCond .eq 7, 3, 101), none, none, some (.iconst 1, 1, 0), some (.goto 4, 3, 102), none, none, some (.iconst 0, 1, 0), some (.ireturn, 1, 0), some (.sipush (-10001), 3, 0), none, none, some (.ireturn, 1, 0)]
def am_c94 : List (Option am_I) := [some (.aload_n 0, 1, 0), some (.iload_n 1, 1, 0), some (.invokevirtual 146, 3, 177), none, none, some (.ifCond .eq 12, 3, 17), none, none, some (.iload_n 2, 1, 0), some (.ifCond .lt 8, 3, 17), none, none, some (.iload_n 2, 1, 0), some (.iconst 4, 1, 0), some (.if_icmp .le 5, 3, 19), none, none, some (.iconst (-1), 1, 0), some (.ireturn, 1, 0), some (.iload_n 2, 1, 0), some (.iconst 4, 1, 0), some (.if_icmp .ne 23, 3, 44), none, none, some (.aload_n 0, 1, 0), some (.getfield 12, 3, 63), none, none, some (.getfield 137, 3, 82), none, none, some (.iload_n 1, 1, 0), some (.invokevirtual 149, 3, 178), none, none, some (.ifCond .eq 7, 3, 42), none, none, some (.iconst 1, 1, 0), some (.goto 4, 3, 43), none, none, some (.iconst 0, 1, 0), some (.ireturn, 1, 0), some (.aload_n 0, 1, 0), some (.getfield 12, 3, 63), none, none, some (.getfield 152, 3, 84), none, none, some (.iload_n 1, 1, 0), some (.aaload, 1, 0), some (.iload_n 2, 1, 0), some (.iaload, 1, 0), some (.ireturn, 1, 0)]
def am_c95 : List (Option am_I) := [some (.iload_n 1, 1, 0), some (.tableswitch 89 0 3 #[31, 42, 53, 64], 31, 0), none, none, none, none, none, none, none, none, none, none, none, none, none, none, none, none, none, none, none, none, none, none, none, none, none, none, none, none, none, none, some (.aload_n 0, 1, 0), some (.getfield 12, 3, 63), none, none, some (.getfield 137, 3, 82), none, none, some (.getfield 156, 3, 85), none, none, some (.ireturn, 1, 0), some (.aload_n 0, 1, 0), some (.getfield 12, 3, 63), none, none, some (.getfield 76, 3, 76), none, none, some (.getfield 159, 3, 86), none, none, some (.ireturn, 1, 0), some (.aload_n 0, 1, 0), some (.getfield 12, 3, 63), none, none, some (.getfield 137, 3, 82), none, none, some (.getfield 162, 3, 87), none, none, some (.ireturn, 1, 0), some (.iconst 1, 1, 0), some (.aload_n 0, 1, 0), some (.getfield 12, 3, 63), none, none, some (.getfield 120, 3, 78), none, none, some (.ishl, 1, 0), some (.iconst 1, 1, 0), some (.isub, 1, 0), some (.aload_n 0, 1, 0), some (.getfield 12, 3, 63), none, none, some (.getfield 137, 3, 82), none, none, some (.getfield 165, 3, 88), none, none, some (.iconst (-1), 1, 0), some (.ixor, 1, 0), some (.iand, 1, 0), some (.ireturn, 1, 0), some (.iconst (-1), 1, 0), some (.ireturn, 1, 0)]
def am_c96 : List (Option am_I) := [some (.aload_n 0, 1, 0), some (.iload_n 1, 1, 0), some (.invokevirtual 146, 3, 177), none, none, some (.ifCond .ne 5, 3, 10), none, none, some (.iconst (-1), 1, 0), some (.ireturn, 1, 0), some (.aload_n 0, 1, 0), some (.getfield 12, 3, 63), none, none, some (.getfield 137, 3, 82), none, none, some (.iload_n 1, 1, 0), some (.invokevirtual 149, 3, 178), none, none, some (.istore_n 3, 1, 0), some (.aload_n 0, 1, 0), some (.getfield 12, 3, 63), none, none, some (.getfield 137, 3, 82), none, none, some (.iload_n 1, 1, 0), some (.iload_n 2, 1, 0), some (.invokevirtual 168, 3, 179), none, none, some (.iload_n 3, 1, 0), some (.ifCond .eq 7, 3, 42), none, none, some (.iconst 1, 1, 0), some (.goto 4, 3, 43), none, none, some (.iconst 0, 1, 0), some (.ireturn, 1, 0)]
def am_c97 : List (Option am_I) := [some (.aload_n 0, 1, 0), some (.iload_n 1, 1, 0), some (.invokevirtual 116, 3, 174), none, none, some (.ifCond .eq 11, 3, 16), none, none, some (.aload_n 0, 1, 0), some (.iload_n 2, 1, 0), some (.invokevirtual 146, 3, 177), none, none, some (.ifCond .ne 7, 3, 20), none, none, some (.sipush (-10001), 3, 0), none, none, some (.ireturn, 1, 0), some (.aload_n 0, 1, 0), some (.getfield 12, 3, 63), none, none, some (.getfield 172, 3, 89), none, none, some (.iload_n 1, 1, 0), some (.aaload, 1, 0), some (.iload_n 2, 1, 0), some (.iaload, 1, 0), some (.ireturn, 1, 0)]
def am_c98 : List (Option am_I) := [some (.aload_n 0, 1, 0), some (.iload_n 1, 1, 0), some (.invokevirtual 116, 3, 174), none, none, some (.ifCond .eq 22, 3, 27), none, none, some (.iload_n 2, 1, 0), some (.ifCond .lt 18, 3, 27), none, none, some (.iload_n 2, 1, 0), some (.iconst 1, 1, 0), some (.if_icmp .gt 13, 3, 27), none, none, some (.iload_n 3, 1, 0), some (.ifCond .lt 9, 3, 27), none, none, some (.iload_n 3, 1, 0), some (.bipush 6, 2, 0), none, some (.if_icmp .lt 5, 3, 29), none, none, some (.iconst (-1), 1, 0), some (.ireturn, 1, 0), some (.aload_n 0, 1, 0), some (.getfield 33, 3, 66), none, none, some (.aload_n 0, 1, 0), some (.getfield 12, 3, 63), none, none, some (.getfield 137, 3, 82), none, none, some (.invokevirtual 175, 3, 180), none, none, some (.iload_n 3, 1, 0), some (.aload_n 0, 1, 0), some (.getfield 33, 3, 66), none, none, some (.getfield 179, 3, 90), none, none, some (.if_icmp .ge 19, 3, 70), none, none, some (.iload_n 2, 1, 0), some (.iconst 1, 1, 0), some (.if_icmp .ne 17, 3, 73), none, none, some (.aload_n 0, 1, 0), some (.getfield 33, 3, 66), none, none, some (.iload_n 1, 1, 0), some (.invokevirtual 182, 3, 181), none, none, some (.ifCond .ne 6, 3, 73), none, none, some (.bipush (-5), 2, 0), none, some (.ireturn, 1, 0), some (.iload_n 2, 1, 0), some (.ifCond .ne 17, 3, 91), none, none, some (.aload_n 0, 1, 0), some (.getfield 33, 3, 66), none, none, some (.getfield 185, 3, 91), none, none, some (.iload_n 1, 1, 0), some (.aaload, 1, 0), some (.iload_n 3, 1, 0), some (.iaload, 1, 0), some (.goto 14, 3, 102), none, none, some (.aload_n 0, 1, 0), some (.getfield 33, 3, 66), none, none, some (.getfield 188, 3, 92), none, none, some (.iload_n 1, 1, 0), some (.aaload, 1, 0), some (.iload_n 3, 1, 0), some (.iaload, 1, 0), some (.ireturn, 1, 0)]
def am_c99 : List (Option am_I) := [some (.iload_n 1, 1, 0), some (.invokestatic 191, 3, 182), none, none, some (.ifCond .eq 12, 3, 16), none, none, some (.iload_n 2, 1, 0), some (.ifCond .lt 8, 3, 16), none, none, some (.iload_n 2, 1, 0), some (.iconst 1, 1, 0), some (.if_icmp .le 5, 3, 18), none, none, some (.iconst (-1), 1, 0), some (.ireturn, 1, 0), some (.aload_n 0, 1, 0), some (.getfield 33, 3, 66), none, none, some (.aload_n 0, 1, 0), some (.getfield 12, 3, 63), none, none, some (.getfield 137, 3, 82), none, none, some (.invokevirtual 175, 3, 180), none, none, some (.iload_n 2, 1, 0), some (.iconst 1, 1, 0), some (.if_icmp .ne 10, 3, 44), none, none, some (.aload_n 0, 1, 0), some (.getfield 33, 3, 66), none, none, some (.invokevirtual 194, 3, 183), none, none, some (.aload_n 0, 1, 0), some (.getfield 33, 3, 66), none, none, some (.iload_n 1, 1, 0), some (.invokevirtual 197, 3, 184), none, none, some (.ireturn, 1, 0)]
def am_c100 : List (Option am_I) := [some (.iload_n 1, 1, 0), some (.invokestatic 191, 3, 182), none, none, some (.ifCond .ne 5, 3, 9), none, none, some (.iconst (-1), 1, 0), some (.ireturn, 1, 0), some (.aload_n 0, 1, 0), some (.getfield 33, 3, 66), none, none, some (.aload_n 0, 1, 0), some (.getfield 12, 3, 63), none, none, some (.getfield 137, 3, 82), none, none, some (.invokevirtual 175, 3, 180), none, none, some (.aload_n 0, 1, 0), some (.getfield 33, 3, 66), none, none, some (.getfield 179, 3, 90), none, none, some (.iconst 5, 1, 0), some (.if_icmp .le 6, 3, 37), none, none, some (.bipush (-9), 2, 0), none, some (.ireturn, 1, 0), some (.iconst 0, 1, 0), some (.istore_n 2, 1, 0), some (.iconst 0, 1, 0), some (.istore_n 3, 1, 0), some (.iload_n 3, 1, 0), some (.aload_n 0, 1, 0), some (.getfield 12, 3, 63), none, none, some (.getfield 82, 3, 77), none, none, some (.if_icmp .ge 44, 3, 93), none, none, some (.aload_n 0, 1, 0), some (.getfield 12, 3, 63), none, none, some (.getfield 137, 3, 82), none, none, some (.iload_n 3, 1, 0), some (.invokevirtual 143, 3, 176), none, none, some (.ifCond .eq 24, 3, 87), none, none, some (.aload_n 0, 1, 0), some (.getfield 33, 3, 66), none, none, some (.iload_n 3, 1, 0), some (.iload_n 1, 1, 0), some (.iconst 0, 1, 0), some (.invokevirtual 201, 3, 185), none, none, some (.bipush (-5), 2, 0), none, some (.if_icmp .eq 9, 3, 87), none, none, some (.iload_n 2, 1, 0), some (.iconst 1, 1, 0), some (.iload_n 3, 1, 0), some (.ishl, 1, 0), some (.ior, 1, 0), some (.istore_n 2, 1, 0), some (.iinc 3 1, 3, 0), none, none, some (.goto (-49), 3, 41), none, none, some (.iload_n 2, 1, 0), some (.ireturn, 1, 0)]
def am_c101 : List (Option am_I) := [some (.aload_n 0, 1, 0), some (.iload_n 1, 1, 0), some (.invokevirtual 116, 3, 174), none, none, some (.ifCond .eq 10, 3, 15), none, none, some (.iload_n 2, 1, 0), some (.invokestatic 191, 3, 182), none, none, some (.ifCond .ne 5, 3, 17), none, none, some (.iconst (-1), 1, 0), some (.ireturn, 1, 0), some (.aload_n 0, 1, 0), some (.getfield 12, 3, 63), none, none, some (.getfield 137, 3, 82), none, none, some (.iload_n 1, 1, 0), some (.invokevirtual 143, 3, 176), none, none, some (.ifCond .ne 6, 3, 34), none, none, some (.bipush (-3), 2, 0), none, some (.ireturn, 1, 0), some (.aload_n 0, 1, 0), some (.getfield 33, 3, 66), none, none, some (.aload_n 0, 1, 0), some (.getfield 12, 3, 63), none, none, some (.getfield 137, 3, 82), none, none, some (.invokevirtual 175, 3, 180), none, none, some (.aload_n 0, 1, 0), some (.getfield 33, 3, 66), none, none, some (.getfield 179, 3, 90), none, none, some (.iconst 5, 1, 0), some (.if_icmp .le 6, 3, 62), none, none, some (.bipush (-9), 2, 0), none, some (.ireturn, 1, 0), some (.aload_n 0, 1, 0), some (.getfield 33, 3, 66), none, none, some (.iload_n 1, 1, 0), some (.iload_n 2, 1, 0), some (.iconst 1, 1, 0), some (.invokevirtual 201, 3, 185), none, none, some (.ireturn, 1, 0)]
def am_c102 : List (Option am_I) := [some (.aload_n 0, 1, 0), some (.iload_n 1, 1, 0), some (.invokevirtual 116, 3, 174), none, none, some (.ifCond .eq 11, 3, 16), none, none, some (.aload_n 0, 1, 0), some (.iload_n 2, 1, 0), some (.invokevirtual 146, 3, 177), none, none, some (.ifCond .ne 5, 3, 18), none, none, some (.iconst (-1), 1, 0), some (.ireturn, 1, 0), some (.aload_n 0, 1, 0), some (.getfield 12, 3, 63), none, none, some (.getfield 205, 3, 93), none, none, some (.iload_n 1, 1, 0), some (.aaload, 1, 0), some (.iload_n 2, 1, 0), some (.iaload, 1, 0), some (.ireturn, 1, 0)]
def am_c103 : List (Option am_I) := [some (.aload_n 0, 1, 0), some (.iload_n 1, 1, 0), some (.invokevirtual 116, 3, 174), none, none, some (.ifCond .eq 11, 3, 16), none, none, some (.aload_n 0, 1, 0), some (.iload_n 2, 1, 0), some (.invokevirtual 146, 3, 177), none, none, some (.ifCond .ne 5, 3, 18), none, none, some (.iconst (-1), 1, 0), some (.ireturn, 1, 0), some (.aload_n 0, 1, 0), some (.getfield 12, 3, 63), none, none, some (.iload_n 1, 1, 0), some (.iload_n 2, 1, 0), some (.aload_n 0, 1, 0), some (.getfield 12, 3, 63), none, none, some (.getfield 137, 3, 82), none, none, some (.getfield 156, 3, 85), none, none, some (.invokevirtual 208, 3, 186), none, none, some (.ifCond .eq 7, 3, 44), none, none, some (.iconst 1, 1, 0), some (.goto 4, 3, 45), none, none, some (.iconst 0, 1, 0), some (.ireturn, 1, 0)]
def am_c104 : List (Option am_I) := [some (.aload_n 0, 1, 0), some (.iload_n 1, 1, 0), some (.invokevirtual 146, 3, 177), none, none, some (.ifCond .eq 22, 3, 27), none, none, some (.iload_n 2, 1, 0), some (.ifCond .lt 18, 3, 27), none, none, some (.iload_n 2, 1, 0), some (.bipush 6, 2, 0), none, some (.if_icmp .gt 12, 3, 27), none, none, some (.iload_n 3, 1, 0), some (.ifCond .lt 8, 3, 27), none, none, some (.iload_n 3, 1, 0), some (.iconst 1, 1, 0), some (.if_icmp .le 7, 3, 31), none, none, some (.ldc2_w 212, 3, 0), none, none, some (.lreturn, 1, 0), some (.aload_n 0, 1, 0), some (.iload_n 1, 1, 0), some (.invokevirtual 214, 3, 187), none, none, some (.lstore 4, 2, 0), none, some (.lconst 0, 1, 0), some (.lstore 6, 2, 0), none, some (.iload_n 2, 1, 0), some (.istore 8, 2, 0), none, some (.iload 8, 2, 0), none, some (.bipush 6, 2, 0), none, some (.if_icmp .gt 21, 3, 69), none, none, some (.lload 6, 2, 0), none, some (.aload_n 0, 1, 0), some (.getfield 41, 3, 68), none, none, some (.iload 8, 2, 0), none, some (.laload, 1, 0), some (.ladd, 1, 0), some (.lstore 6, 2, 0), none, some (.iinc 8 1, 3, 0), none, none, some (.goto (-22), 3, 44), none, none, some (.lload 6, 2, 0), none, some (.lload 4, 2, 0), none, some (.invokestatic 218, 3, 188), none, none, some (.lstore 8, 2, 0), none, some (.lload 8, 2, 0), none, some (.lconst 0, 1, 0), some (.lcmp, 1, 0), some (.ifCond .gt 7, 3, 89), none, none, some (.ldc2_w 212, 3, 0), none, none, some (.lreturn, 1, 0), some (.iload_n 3, 1, 0), some (.ifCond .ne 8, 3, 98), none, none, some (.lload 6, 2, 0), none, some (.goto 5, 3, 100), none, none, some (.lload 4, 2, 0), none, some (.lload 8, 2, 0), none, some (.ldiv, 1, 0), some (.lreturn, 1, 0)]
def am_c105 : List (Option am_I) := [some (.iconst 0, 1, 0), some (.istore_n 2, 1, 0), some (.iload_n 2, 1, 0), some (.bipush 6, 2, 0), none, some (.if_icmp .gt 24, 3, 29), none, none, some (.aload_n 0, 1, 0), some (.getfield 41, 3, 68), none, none, some (.iload_n 2, 1, 0), some (.iload_n 2, 1, 0), some (.ifCond .ne 7, 3, 21), none, none, some (.lconst 1, 1, 0), some (.goto 4, 3, 22), none, none, some (.lconst 0, 1, 0), some (.lastore, 1, 0), some (.iinc 2 1, 3, 0), none, none, some (.goto (-24), 3, 2), none, none, some (.lconst 1, 1, 0), some (.lstore_n 2, 1, 0), some (.iconst 0, 1, 0), some (.istore 4, 2, 0), none, some (.iload 4, 2, 0), none, some (.aload_n 0, 1, 0), some (.getfield 12, 3, 63), none, none, some (.getfield 82, 3, 77), none, none, some (.if_icmp .ge 109, 3, 152), none, none, some (.aload_n 0, 1, 0), some (.getfield 12, 3, 63), none, none, some (.getfield 137, 3, 82), none, none, some (.iload 4, 2, 0), none, some (.invokevirtual 143, 3, 176), none, none, some (.ifCond .eq 88, 3, 146), none, none, some (.aload_n 0, 1, 0), some (.getfield 12, 3, 63), none, none, some (.getfield 205, 3, 93), none, none, some (.iload 4, 2, 0), none, some (.aaload, 1, 0), some (.iload_n 1, 1, 0), some (.iaload, 1, 0), some (.istore 5, 2, 0), none, some (.bipush 6, 2, 0), none, some (.istore 6, 2, 0), none, some (.iload 6, 2, 0), none, some (.ifCond .le 44, 3, 125), none, none, some (.aload_n 0, 1, 0), some (.getfield 41, 3, 68), none, none, some (.iload 6, 2, 0), none, some (.aload_n 0, 1, 0), some (.getfield 41, 3, 68), none, none, some (.iload 6, 2, 0), none, some (.laload, 1, 0), some (.bipush 10, 2, 0), none, some (.iload 5, 2, 0), none, some (.isub, 1, 0), some (.i2l, 1, 0), some (.lmul, 1, 0), some (.aload_n 0, 1, 0), some (.getfield 41, 3, 68), none, none, some (.iload 6, 2, 0), none, some (.iconst 1, 1, 0), some (.isub, 1, 0), some (.laload, 1, 0), some (.iload 5, 2, 0), none, some (.i2l, 1, 0), some (.lmul, 1, 0), some (.ladd, 1, 0), some (.lastore, 1, 0), some (.iinc 6 (-1), 3, 0), none, none, some (.goto (-43), 3, 79), none, none, some (.aload_n 0, 1, 0), some (.getfield 41, 3, 68), none, none, some (.iconst 0, 1, 0), some (.dup2, 1, 0), some (.laload, 1, 0), some (.bipush 10, 2, 0), none, some (.iload 5, 2, 0), none, some (.isub, 1, 0), some (.i2l, 1, 0), some (.lmul, 1, 0), some (.lastore, 1, 0), some (.lload_n 2, 1, 0), some (.ldc2_w 222, 3, 1), none, none, some (.lmul, 1, 0), some (.lstore_n 2, 1, 0), some (.iinc 4 1, 3, 0), none, none, some (.goto (-115), 3, 34), none, none, some (.lload_n 2, 1, 0), some (.lreturn, 1, 0)]
def am_c106 : List (Option am_I) := [some (.iconst 0, 1, 0), some (.istore 4, 2, 0), none, some (.iload 4, 2, 0), none, some (.bipush 100, 2, 0), none, some (.if_icmp .ge 25, 3, 32), none, none, some (.lload_n 0, 1, 0), some (.lconst 0, 1, 0), some (.lcmp, 1, 0), some (.ifCond .eq 19, 3, 32), none, none, some (.lload_n 2, 1, 0), some (.lload_n 0, 1, 0), some (.lrem, 1, 0), some (.lstore 5, 2, 0), none, some (.lload_n 0, 1, 0), some (.lstore_n 2, 1, 0), some (.lload 5, 2, 0), none, some (.lstore_n 0, 1, 0), some (.iinc 4 1, 3, 0), none, none, some (.goto (-26), 3, 3), none, none, some (.lload_n 2, 1, 0), some (.lreturn, 1, 0)]
def am_c107 : List (Option am_I) := [some (.aload_n 0, 1, 0), some (.iload_n 1, 1, 0), some (.invokevirtual 146, 3, 177), none, none, some (.ifCond .ne 5, 3, 10), none, none, some (.iconst (-1), 1, 0), some (.ireturn, 1, 0), some (.aload_n 0, 1, 0), some (.getfield 12, 3, 63), none, none, some (.getfield 137, 3, 82), none, none, some (.iload_n 1, 1, 0), some (.invokevirtual 149, 3, 178), none, none, some (.ifCond .ne 18, 3, 39), none, none, some (.aload_n 0, 1, 0), some (.getfield 12, 3, 63), none, none, some (.getfield 137, 3, 82), none, none, some (.getfield 156, 3, 85), none, none, some (.bipush 99, 2, 0), none, some (.if_icmp .lt 6, 3, 42), none, none, some (.bipush (-3), 2, 0), none, some (.ireturn, 1, 0), some (.aload_n 0, 1, 0), some (.getfield 12, 3, 63), none, none, some (.getfield 137, 3, 82), none, none, some (.aload_n 0, 1, 0), some (.getfield 12, 3, 63), none, none, some (.iload_n 1, 1, 0), some (.invokevirtual 224, 3, 189), none, none, some (.ireturn, 1, 0)]
def am_c108 : List (Option am_I) := [some (.iload_n 1, 1, 0), some (.invokestatic 191, 3, 182), none, none, some (.ifCond .ne 5, 3, 9), none, none, some (.iconst (-1), 1, 0), some (.ireturn, 1, 0), some (.aload_n 0, 1, 0), some (.getfield 33, 3, 66), none, none, some (.aload_n 0, 1, 0), some (.getfield 12, 3, 63), none, none, some (.getfield 137, 3, 82), none, none, some (.invokevirtual 175, 3, 180), none, none, some (.aload_n 0, 1, 0), some (.getfield 33, 3, 66), none, none, some (.getfield 179, 3, 90), none, none, some (.ifCond .eq 18, 3, 48), none, none, some (.aload_n 0, 1, 0), some (.getfield 12, 3, 63), none, none, some (.getfield 137, 3, 82), none, none, some (.getfield 156, 3, 85), none, none, some (.bipush 99, 2, 0), none, some (.if_icmp .lt 6, 3, 51), none, none, some (.bipush (-3), 2, 0), none, some (.ireturn, 1, 0), some (.aload_n 0, 1, 0), some (.getfield 33, 3, 66), none, none, some (.iload_n 1, 1, 0), some (.invokevirtual 197, 3, 184), none, none, some (.istore_n 2, 1, 0), some (.aload_n 0, 1, 0), some (.getfield 12, 3, 63), none, none, some (.getfield 137, 3, 82), none, none, some (.aload_n 0, 1, 0), some (.getfield 12, 3, 63), none, none, some (.iload_n 2, 1, 0), some (.invokevirtual 224, 3, 189), none, none, some (.pop, 1, 0), some (.iload_n 2, 1, 0), some (.ireturn, 1, 0)]
def am_c109 : List (Option am_I) := [some (.iload_n 3, 1, 0), some (.bipush 10, 2, 0), none, some (.if_icmp .lt 21, 3, 24), none, none, some (.iload_n 3, 1, 0), some (.bipush 10, 2, 0), none, some (.aload_n 0, 1, 0), some (.getfield 12, 3, 63), none, none, some (.getfield 82, 3, 77), none, none, some (.iadd, 1, 0), some (.if_icmp .ge 7, 3, 24), none, none, some (.iconst 1, 1, 0), some (.goto 4, 3, 25), none, none, some (.iconst 0, 1, 0), some (.istore 4, 2, 0), none, some (.iload_n 2, 1, 0), some (.invokestatic 191, 3, 182), none, none, some (.ifCond .eq 17, 3, 48), none, none, some (.iload 4, 2, 0), none, some (.ifCond .ne 16, 3, 52), none, none, some (.iload_n 3, 1, 0), some (.ifCond .lt 8, 3, 48), none, none, some (.iload_n 3, 1, 0), some (.iconst 2, 1, 0), some (.if_icmp .le 7, 3, 52), none, none, some (.sipush (-10001), 3, 0), none, none, some (.ireturn, 1, 0), some (.iload_n 1, 1, 0), some (.ifCond .lt 9, 3, 62), none, none, some (.iload_n 1, 1, 0), some (.bipush 6, 2, 0), none, some (.if_icmp .le 7, 3, 66), none, none, some (.sipush (-10002), 3, 0), none, none, some (.ireturn, 1, 0), some (.aload_n 0, 1, 0), some (.iload_n 1, 1, 0), some (.iload_n 2, 1, 0), some (.invokevirtual 228, 3, 190), none, none, some (.istore 5, 2, 0), none, some (.iload_n 3, 1, 0), some (.tableswitch 51 0 2 #[25, 33, 36], 25, 0), none, none, none, none, none, none, none, none, none, none, none, none, none, none, none, none, none, none, none, none, none, none, none, none, some (.aload_n 0, 1, 0), some (.getfield 24, 3, 65), none, none, some (.getfield 162, 3, 87), none, none, some (.ireturn, 1, 0), some (.iload 5, 2, 0), none, some (.ireturn, 1, 0), some (.aload_n 0, 1, 0), some (.getfield 12, 3, 63), none, none, some (.aload_n 0, 1, 0), some (.getfield 24, 3, 65), none, none, some (.invokevirtual 232, 3, 191), none, none, some (.invokestatic 236, 3, 192), none, none, some (.ireturn, 1, 0), some (.iload 4, 2, 0), none, some (.ifCond .eq 18, 3, 146), none, none, some (.aload_n 0, 1, 0), some (.getfield 24, 3, 65), none, none, some (.getfield 140, 3, 83), none, none, some (.iload_n 3, 1, 0), some (.bipush 10, 2, 0), none, some (.isub, 1, 0), some (.iaload, 1, 0), some (.goto 6, 3, 149), none, none, some (.sipush (-10001), 3, 0), none, none, some (.ireturn, 1, 0)]
def am_c110 : List (Option am_I) := [some (.aload_n 0, 1, 0), some (.getfield 24, 3, 65), none, none, some (.aload_n 0, 1, 0), some (.getfield 12, 3, 63), none, none, some (.getfield 137, 3, 82), none, none, some (.invokevirtual 241, 3, 193), none, none, some (.iconst 0, 1, 0), some (.istore_n 3, 1, 0), some (.iconst 0, 1, 0), some (.istore 4, 2, 0), none, some (.iload 4, 2, 0), none, some (.iload_n 1, 1, 0), some (.if_icmp .ge 55, 3, 77), none, none, some (.aload_n 0, 1, 0), some (.getfield 33, 3, 66), none, none, some (.aload_n 0, 1, 0), some (.getfield 24, 3, 65), none, none, some (.invokevirtual 175, 3, 180), none, none, some (.aload_n 0, 1, 0), some (.getfield 33, 3, 66), none, none, some (.getfield 179, 3, 90), none, none, some (.ifCond .ne 6, 3, 49), none, none, some (.goto 31, 3, 77), none, none, some (.iload_n 3, 1, 0), some (.aload_n 0, 1, 0), some (.getfield 24, 3, 65), none, none, some (.aload_n 0, 1, 0), some (.getfield 12, 3, 63), none, none, some (.aload_n 0, 1, 0), some (.getfield 33, 3, 66), none, none, some (.iload_n 2, 1, 0), some (.invokevirtual 197, 3, 184), none, none, some (.invokevirtual 224, 3, 189), none, none, some (.iadd, 1, 0), some (.istore_n 3, 1, 0), some (.iinc 4 1, 3, 0), none, none, some (.goto (-55), 3, 19), none, none, some (.iload_n 3, 1, 0), some (.ireturn, 1, 0)]
def am_c111 : List (Option am_I) := [some (.iconst 0, 1, 0), some (.istore_n 1, 1, 0), some (.iconst (-1), 1, 0), some (.istore_n 2, 1, 0), some (.iconst 0, 1, 0), some (.istore_n 3, 1, 0), some (.iconst 0, 1, 0), some (.istore 4, 2, 0), none, some (.iload 4, 2, 0), none, some (.bipush 6, 2, 0), none, some (.if_icmp .ge 49, 3, 62), none, none, some (.aload_n 0, 1, 0), some (.bipush 6, 2, 0), none, some (.iload 4, 2, 0), none, some (.invokevirtual 228, 3, 190), none, none, some (.pop, 1, 0), some (.aload_n 0, 1, 0), some (.getfield 24, 3, 65), none, none, some (.iload_n 2, 1, 0), some (.iload_n 3, 1, 0), some (.invokevirtual 244, 3, 194), none, none, some (.ifCond .eq 22, 3, 56), none, none, some (.iload 4, 2, 0), none, some (.istore_n 1, 1, 0), some (.aload_n 0, 1, 0), some (.getfield 24, 3, 65), none, none, some (.invokevirtual 248, 3, 195), none, none, some (.istore_n 2, 1, 0), some (.aload_n 0, 1, 0), some (.getfield 24, 3, 65), none, none, some (.invokevirtual 252, 3, 196), none, none, some (.istore_n 3, 1, 0), some (.iinc 4 1, 3, 0), none, none, some (.goto (-50), 3, 9), none, none, some (.iload_n 1, 1, 0), some (.ireturn, 1, 0)]
def am_c112 : List (Option am_I) := [some (.iload_n 1, 1, 0), some (.ifCond .lt 8, 3, 9), none, none, some (.iload_n 1, 1, 0), some (.iconst 5, 1, 0), some (.if_icmp .lt 5, 3, 11), none, none, some (.iconst (-1), 1, 0), some (.ireturn, 1, 0), some (.aload_n 0, 1, 0), some (.getfield 33, 3, 66), none, none, some (.aload_n 0, 1, 0), some (.getfield 12, 3, 63), none, none, some (.getfield 137, 3, 82), none, none, some (.invokevirtual 175, 3, 180), none, none, some (.aload_n 0, 1, 0), some (.getfield 33, 3, 66), none, none, some (.getfield 179, 3, 90), none, none, some (.iconst 5, 1, 0), some (.if_icmp .le 6, 3, 39), none, none, some (.bipush (-9), 2, 0), none, some (.ireturn, 1, 0), some (.iload_n 1, 1, 0), some (.aload_n 0, 1, 0), some (.getfield 33, 3, 66), none, none, some (.getfield 179, 3, 90), none, none, some (.if_icmp .lt 6, 3, 53), none, none, some (.bipush (-5), 2, 0), none, some (.ireturn, 1, 0), some (.aload_n 0, 1, 0), some (.invokevirtual 255, 3, 197), none, none, some (.aload_n 0, 1, 0), some (.getfield 45, 3, 69), none, none, some (.iload_n 1, 1, 0), some (.iaload, 1, 0), some (.ireturn, 1, 0)]
def am_c113 : List (Option am_I) := [some (.iconst (-1), 1, 0), some (.istore_n 1, 1, 0), some (.iconst 0, 1, 0), some (.istore_n 2, 1, 0), some (.iconst 1, 1, 0), some (.istore_n 3, 1, 0), some (.aload_n 0, 1, 0), some (.getfield 33, 3, 66), none, none, some (.invokevirtual 258, 3, 198), none, none, some (.iconst 0, 1, 0), some (.istore 4, 2, 0), none, some (.iload 4, 2, 0), none, some (.bipush 120, 2, 0), none, some (.if_icmp .ge 124, 3, 144), none, none, some (.iload_n 3, 1, 0), some (.ifCond .eq 120, 3, 144), none, none, some (.aload_n 0, 1, 0), some (.getfield 24, 3, 65), none, none, some (.aload_n 0, 1, 0), some (.getfield 12, 3, 63), none, none, some (.getfield 137, 3, 82), none, none, some (.invokevirtual 241, 3, 193), none, none, some (.iconst 0, 1, 0), some (.istore 5, 2, 0), none, some (.iload 5, 2, 0), none, some (.aload_n 0, 1, 0), some (.getfield 33, 3, 66), none, none, some (.getfield 179, 3, 90), none, none, some (.if_icmp .ge 31, 3, 84), none, none, some (.aload_n 0, 1, 0), some (.getfield 24, 3, 65), none, none, some (.aload_n 0, 1, 0), some (.getfield 12, 3, 63), none, none, some (.aload_n 0, 1, 0), some (.getfield 33, 3, 66), none, none, some (.getfield 261, 3, 94), none, none, some (.iload 5, 2, 0), none, some (.iaload, 1, 0), some (.invokevirtual 224, 3, 189), none, none, some (.pop, 1, 0), some (.iinc 5 1, 3, 0), none, none, some (.goto (-37), 3, 44), none, none, some (.aload_n 0, 1, 0), some (.getfield 24, 3, 65), none, none, some (.iload_n 1, 1, 0), some (.iload_n 2, 1, 0), some (.invokevirtual 244, 3, 194), none, none, some (.ifCond .eq 37, 3, 130), none, none, some (.aload_n 0, 1, 0), some (.getfield 24, 3, 65), none, none, some (.invokevirtual 248, 3, 195), none, none, some (.istore_n 1, 1, 0), some (.aload_n 0, 1, 0), some (.getfield 24, 3, 65), none, none, some (.invokevirtual 252, 3, 196), none, none, some (.istore_n 2, 1, 0), some (.aload_n 0, 1, 0), some (.getfield 33, 3, 66), none, none, some (.getfield 261, 3, 94), none, none, some (.iconst 0, 1, 0), some (.aload_n 0, 1, 0), some (.getfield 45, 3, 69), none, none, some (.iconst 0, 1, 0), some (.bipush 6, 2, 0), none, some (.invokestatic 264, 3, 199), none, none, some (.aload_n 0, 1, 0), some (.getfield 33, 3, 66), none, none, some (.invokevirtual 270, 3, 200), none, none, some (.istore_n 3, 1, 0), some (.iinc 4 1, 3, 0), none, none, some (.goto (-125), 3, 16), none, none, some (.return_, 1, 0)]
def am_c114 : List (Option am_I) := [some (.iload_n 1, 1, 0), some (.iconst (-1), 1, 0), some (.if_icmp .lt 9, 3, 11), none, none, some (.iload_n 1, 1, 0), some (.bipush 12, 2, 0), none, some (.if_icmp .le 6, 3, 14), none, none, some (.bipush (-2), 2, 0), none, some (.ireturn, 1, 0), some (.iload_n 1, 1, 0), some (.iconst (-1), 1, 0), some (.if_icmp .ne 13, 3, 29), none, none, some (.aload_n 0, 1, 0), some (.getfield 12, 3, 63), none, none, some (.iconst 0, 1, 0), some (.putfield 274, 3, 95), none, none, some (.iconst 0, 1, 0), some (.ireturn, 1, 0), some (.aload_n 0, 1, 0), some (.getfield 12, 3, 63), none, none, some (.getfield 274, 3, 95), none, none, some (.bipush 6, 2, 0), none, some (.if_icmp .lt 6, 3, 44), none, none, some (.bipush (-4), 2, 0), none, some (.ireturn, 1, 0), some (.aload_n 0, 1, 0), some (.getfield 12, 3, 63), none, none, some (.getfield 277, 3, 96), none, none, some (.aload_n 0, 1, 0), some (.getfield 12, 3, 63), none, none, some (.getfield 274, 3, 95), none, none, some (.iload_n 1, 1, 0), some (.iastore, 1, 0), some (.aload_n 0, 1, 0), some (.getfield 12, 3, 63), none, none, some (.dup, 1, 0), some (.getfield 274, 3, 95), none, none, some (.iconst 1, 1, 0), some (.iadd, 1, 0), some (.putfield 274, 3, 95), none, none, some (.aload_n 0, 1, 0), some (.getfield 12, 3, 63), none, none, some (.getfield 274, 3, 95), none, none, some (.ireturn, 1, 0)]
def am_c115 : List (Option am_I) := [some (.aload_n 0, 1, 0), some (.getfield 33, 3, 66), none, none, some (.aload_n 0, 1, 0), some (.getfield 12, 3, 63), none, none, some (.getfield 137, 3, 82), none, none, some (.invokevirtual 175, 3, 180), none, none, some (.iconst 0, 1, 0), some (.istore_n 1, 1, 0), some (.iload_n 1, 1, 0), some (.aload_n 0, 1, 0), some (.getfield 33, 3, 66), none, none, some (.getfield 179, 3, 90), none, none, some (.if_icmp .ge 53, 3, 77), none, none, some (.aload_n 0, 1, 0), some (.getfield 33, 3, 66), none, none, some (.getfield 280, 3, 97), none, none, some (.iload_n 1, 1, 0), some (.iaload, 1, 0), some (.istore_n 2, 1, 0), some (.iload_n 2, 1, 0), some (.aload_n 0, 1, 0), some (.getfield 12, 3, 63), none, none, some (.getfield 274, 3, 95), none, none, some (.if_icmp .ge 26, 3, 71), none, none, some (.aload_n 0, 1, 0), some (.getfield 12, 3, 63), none, none, some (.getfield 277, 3, 96), none, none, some (.iload_n 2, 1, 0), some (.iaload, 1, 0), some (.aload_n 0, 1, 0), some (.getfield 33, 3, 66), none, none, some (.getfield 283, 3, 98), none, none, some (.iload_n 2, 1, 0), some (.iaload, 1, 0), some (.if_icmp .eq 5, 3, 71), none, none, some (.iload_n 2, 1, 0), some (.ireturn, 1, 0), some (.iinc 1 1, 3, 0), none, none, some (.goto (-58), 3, 16), none, none, some (.bipush (-5), 2, 0), none, some (.ireturn, 1, 0)]
def am_c116 : List (Option am_I) := [some (.aload_n 0, 1, 0), some (.getfield 37, 3, 67), none, none, some (.iconst 0, 1, 0), some (.iconst 0, 1, 0), some (.iastore, 1, 0), some (.aload_n 0, 1, 0), some (.iload_n 1, 1, 0), some (.invokevirtual 116, 3, 174), none, none, some (.ifCond .ne 5, 3, 17), none, none, some (.iconst 0, 1, 0), some (.ireturn, 1, 0), some (.iload_n 2, 1, 0), some (.tableswitch 80 0 2 #[26, 44, 62], 26, 0), none, none, none, none, none, none, none, none, none, none, none, none, none, none, none, none, none, none, none, none, none, none, none, none, none, some (.aload_n 0, 1, 0), some (.getfield 12, 3, 63), none, none, some (.getfield 127, 3, 79), none, none, some (.iload_n 1, 1, 0), some (.aaload, 1, 0), some (.iload_n 3, 1, 0), some (.aload_n 0, 1, 0), some (.getfield 37, 3, 67), none, none, some (.invokevirtual 284, 3, 201), none, none, some (.ireturn, 1, 0), some (.aload_n 0, 1, 0), some (.getfield 12, 3, 63), none, none, some (.getfield 127, 3, 79), none, none, some (.iload_n 1, 1, 0), some (.aaload, 1, 0), some (.iload_n 3, 1, 0), some (.aload_n 0, 1, 0), some (.getfield 37, 3, 67), none, none, some (.invokevirtual 288, 3, 202), none, none, some (.ireturn, 1, 0), some (.aload_n 0, 1, 0), some (.getfield 12, 3, 63), none, none, some (.getfield 127, 3, 79), none, none, some (.iload_n 1, 1, 0), some (.aaload, 1, 0), some (.iload_n 3, 1, 0), some (.aload_n 0, 1, 0), some (.getfield 37, 3, 67), none, none, some (.invokevirtual 291, 3, 203), none, none, some (.ireturn, 1, 0), some (.iconst 0, 1, 0), some (.ireturn, 1, 0)]
def am_c117 : List (Option am_I) := [some (.iload_n 1, 1, 0), some (.ifCond .lt 19, 3, 20), none, none, some (.iload_n 1, 1, 0), some (.bipush 20, 2, 0), none, some (.if_icmp .ge 13, 3, 20), none, none, some (.iload_n 1, 1, 0), some (.aload_n 0, 1, 0), some (.getfield 37, 3, 67), none, none, some (.iconst 0, 1, 0), some (.iaload, 1, 0), some (.if_icmp .lt 5, 3, 22), none, none, some (.iconst (-1), 1, 0), some (.ireturn, 1, 0), some (.aload_n 0, 1, 0), some (.getfield 37, 3, 67), none, none, some (.iconst 1, 1, 0), some (.iload_n 1, 1, 0), some (.iadd, 1, 0), some (.iaload, 1, 0), some (.ireturn, 1, 0)]
def am_c118 : List (Option am_I) := [some (.aload_n 0, 1, 0), some (.iload_n 1, 1, 0), some (.invokevirtual 116, 3, 174), none, none, some (.ifCond .eq 13, 3, 18), none, none, some (.iload_n 2, 1, 0), some (.ifCond .lt 9, 3, 18), none, none, some (.iload_n 2, 1, 0), some (.bipush 7, 2, 0), none, some (.if_icmp .lt 5, 3, 20), none, none, some (.iconst (-1), 1, 0), some (.ireturn, 1, 0), some (.aload_n 0, 1, 0), some (.getfield 12, 3, 63), none, none, some (.getfield 127, 3, 79), none, none, some (.iload_n 1, 1, 0), some (.aaload, 1, 0), some (.astore_n 3, 1, 0), some (.aload_n 3, 1, 0), some (.iload_n 2, 1, 0), some (.invokevirtual 294, 3, 204), none, none, some (.ifCond .eq 10, 3, 45), none, none, some (.aload_n 3, 1, 0), some (.getfield 134, 3, 81), none, none, some (.goto 5, 3, 47), none, none, some (.bipush (-6), 2, 0), none, some (.ireturn, 1, 0)]
def am_c119 : List (Option am_I) := [some (.aload_n 0, 1, 0), some (.getfield 18, 3, 64), none, none, some (.aload_n 0, 1, 0), some (.getfield 12, 3, 63), none, none, some (.invokevirtual 297, 3, 205), none, none, some (.aload_n 0, 1, 0), some (.iconst 1, 1, 0), some (.putfield 55, 3, 71), none, none, some (.aload_n 0, 1, 0), some (.getfield 12, 3, 63), none, none, some (.getfield 82, 3, 77), none, none, some (.ireturn, 1, 0)]
def am_c120 : List (Option am_I) := [some (.aload_n 0, 1, 0), some (.getfield 55, 3, 71), none, none, some (.ifCond .ne 6, 3, 10), none, none, some (.bipush (-3), 2, 0), none, some (.ireturn, 1, 0), some (.aload_n 0, 1, 0), some (.getfield 12, 3, 63), none, none, some (.aload_n 0, 1, 0), some (.getfield 18, 3, 64), none, none, some (.invokevirtual 297, 3, 205), none, none, some (.aload_n 0, 1, 0), some (.getfield 12, 3, 63), none, none, some (.getfield 82, 3, 77), none, none, some (.ireturn, 1, 0)]
def am_c121 : List (Option am_I) := [some (.iload_n 1, 1, 0), some (.tableswitch 86 0 5 #[39, 47, 55, 63, 71, 79], 39, 0), none, none, none, none, none, none, none, none, none, none, none, none, none, none, none, none, none, none, none, none, none, none, none, none, none, none, none, none, none, none, none, none, none, none, none, none, none, none, some (.aload_n 0, 1, 0), some (.getfield 12, 3, 63), none, none, some (.getfield 82, 3, 77), none, none, some (.ireturn, 1, 0), some (.aload_n 0, 1, 0), some (.getfield 12, 3, 63), none, none, some (.getfield 120, 3, 78), none, none, some (.ireturn, 1, 0), some (.aload_n 0, 1, 0), some (.getfield 12, 3, 63), none, none, some (.getfield 66, 3, 74), none, none, some (.ireturn, 1, 0), some (.aload_n 0, 1, 0), some (.getfield 12, 3, 63), none, none, some (.getfield 274, 3, 95), none, none, some (.ireturn, 1, 0), some (.aload_n 0, 1, 0), some (.getfield 12, 3, 63), none, none, some (.getfield 59, 3, 72), none, none, some (.ireturn, 1, 0), some (.aload_n 0, 1, 0), some (.getfield 37, 3, 67), none, none, some (.iconst 0, 1, 0), some (.iaload, 1, 0), some (.ireturn, 1, 0), some (.iconst (-1), 1, 0), some (.ireturn, 1, 0)]
def am_c122 : List (Option am_I) := [some (.iload_n 1, 1, 0), some (.ifCond .lt 18, 3, 19), none, none, some (.iload_n 1, 1, 0), some (.aload_n 0, 1, 0), some (.getfield 12, 3, 63), none, none, some (.getfield 82, 3, 77), none, none, some (.if_icmp .ge 7, 3, 19), none, none, some (.iconst 1, 1, 0), some (.goto 4, 3, 20), none, none, some (.iconst 0, 1, 0), some (.ireturn, 1, 0)]
def am_c123 : List (Option am_I) := [some (.iload_n 1, 1, 0), some (.ifCond .lt 18, 3, 19), none, none, some (.iload_n 1, 1, 0), some (.aload_n 0, 1, 0), some (.getfield 12, 3, 63), none, none, some (.getfield 120, 3, 78), none, none, some (.if_icmp .ge 7, 3, 19), none, none, some (.iconst 1, 1, 0), some (.goto 4, 3, 20), none, none, some (.iconst 0, 1, 0), some (.ireturn, 1, 0)]
def am_c124 : List (Option am_I) := [some (.iload_n 0, 1, 0), some (.ifCond .lt 13, 3, 14), none, none, some (.iload_n 0, 1, 0), some (.bipush 6, 2, 0), none, some (.if_icmp .ge 7, 3, 14), none, none, some (.iconst 1, 1, 0), some (.goto 4, 3, 15), none, none, some (.iconst 0, 1, 0), some (.ireturn, 1, 0)]
def am_c125 : List (Option am_I) := [some (.aload_n 0, 1, 0), some (.invokespecial 3, 3, 206), none, none, some (.aload_n 0, 1, 0), some (.sipush 878, 3, 0), none, none, some (.newarray .int, 2, 0), none, some (.putfield 9, 3, 99), none, none, some (.aload_n 0, 1, 0), some (.sipush 878, 3, 0), none, none, some (.newarray .int, 2, 0), none, some (.putfield 15, 3, 100), none, none, some (.aload_n 0, 1, 0), some (.bipush 19, 2, 0), none, some (.newarray .int, 2, 0), none, some (.putfield 18, 3, 101), none, none, some (.aload_n 0, 1, 0), some (.bipush 6, 2, 0), none, some (.newarray .int, 2, 0), none, some (.putfield 21, 3, 102), none, none, some (.aload_n 0, 1, 0), some (.bipush 64, 2, 0), none, some (.newarray .boolean, 2, 0), none, some (.putfield 24, 3, 103), none, none, some (.aload_n 0, 1, 0), some (.bipush 36, 2, 0), none, some (.newarray .int, 2, 0), none, some (.putfield 28, 3, 104), none, none, some (.aload_n 0, 1, 0), some (.bipush 36, 2, 0), none, some (.newarray .int, 2, 0), none, some (.putfield 31, 3, 105), none, none, some (.aload_n 0, 1, 0), some (.bipush 36, 2, 0), none, some (.newarray .int, 2, 0), none, some (.putfield 34, 3, 106), none, none, some (.aload_n 0, 1, 0), some (.bipush 6, 2, 0), none, some (.newarray .int, 2, 0), none, some (.putfield 37, 3, 107), none, none, some (.aload_n 0, 1, 0), some (.bipush 36, 2, 0), none, some (.newarray .int, 2, 0), none, some (.putfield 40, 3, 108), none, none, some (.aload_n 0, 1, 0), some (.bipush 6, 2, 0), none, some (.newarray .int, 2, 0), none, some (.putfield 43, 3, 109), none, none, some (.aload_n 0, 1, 0), some (.bipush 7, 2, 0), none, some (.newarray .long, 2, 0), none, some (.putfield 46, 3, 110), none, none, some (.aload_n 0, 1, 0), some (.sipush 133, 3, 0), none, none, some (.newarray .int, 2, 0), none, some (.putfield 50, 3, 111), none, none, some (.aload_n 0, 1, 0), some (.bipush 6, 2, 0), none, some (.newarray .int, 2, 0), none, some (.putfield 53, 3, 112), none, none, some (.aload_n 0, 1, 0), some (.bipush 6, 2, 0), none, some (.newarray .int, 2, 0), none, some (.putfield 56, 3, 113), none, none, some (.aload_n 0, 1, 0), some (.bipush 20, 2, 0), none, some (.newarray .int, 2, 0), none, some (.putfield 59, 3, 114), none, none, some (.aload_n 0, 1, 0), some (.getfield 9, 3, 99), none, none, some (.bipush 24, 2, 0), none, some (.iconst (-1), 1, 0), some (.iastore, 1, 0), some (.return_, 1, 0)]
def am_c126 : List (Option am_I) := [some (.iload_n 0, 1, 0), some (.iload_n 1, 1, 0), some (.if_icmp .lt 12, 3, 14), none, none, some (.iload_n 0, 1, 0), some (.iload_n 2, 1, 0), some (.if_icmp .gt 7, 3, 14), none, none, some (.iconst 1, 1, 0), some (.goto 4, 3, 15), none, none, some (.iconst 0, 1, 0), some (.ireturn, 1, 0)]
def am_c127 : List (Option am_I) := [some (.iload_n 1, 1, 0), some (.iconst 0, 1, 0), some (.aload_n 0, 1, 0), some (.getfield 9, 3, 99), none, none, some (.bipush 19, 2, 0), none, some (.iaload, 1, 0), some (.iconst 1, 1, 0), some (.isub, 1, 0), some (.invokestatic 66, 3, 207), none, none, some (.ireturn, 1, 0)]
def am_c128 : List (Option am_I) := [some (.iload_n 1, 1, 0), some (.iconst 0, 1, 0), some (.aload_n 0, 1, 0), some (.getfield 9, 3, 99), none, none, some (.bipush 20, 2, 0), none, some (.iaload, 1, 0), some (.iconst 1, 1, 0), some (.isub, 1, 0), some (.invokestatic 66, 3, 207), none, none, some (.ireturn, 1, 0)]
def am_c129 : List (Option am_I) := [some (.iload_n 0, 1, 0), some (.iconst 0, 1, 0), some (.iconst 5, 1, 0), some (.invokestatic 66, 3, 207), none, none, some (.ireturn, 1, 0)]
def am_c130 : List (Option am_I) := [some (.aload_n 0, 1, 0), some (.getfield 9, 3, 99), none, none, some (.bipush 7, 2, 0), none, some (.iload_n 1, 1, 0), some (.iadd, 1, 0), some (.iaload, 1, 0), some (.ifCond .ne 7, 3, 16), none, none, some (.iconst 1, 1, 0), some (.goto 4, 3, 17), none, none, some (.iconst 0, 1, 0), some (.ireturn, 1, 0)]
def am_c131 : List (Option am_I) := [some (.aload_n 0, 1, 0), some (.getfield 9, 3, 99), none, none, some (.bipush 13, 2, 0), none, some (.iload_n 1, 1, 0), some (.iadd, 1, 0), some (.iaload, 1, 0), some (.ifCond .ne 7, 3, 16), none, none, some (.iconst 1, 1, 0), some (.goto 4, 3, 17), none, none, some (.iconst 0, 1, 0), some (.ireturn, 1, 0)]
def am_c132 : List (Option am_I) := [some (.iconst 0, 1, 0), some (.istore_n 1, 1, 0), some (.iload_n 1, 1, 0), some (.bipush 19, 2, 0), none, some (.if_icmp .ge 21, 3, 26), none, none, some (.aload_n 0, 1, 0), some (.getfield 18, 3, 101), none, none, some (.iload_n 1, 1, 0), some (.aload_n 0, 1, 0), some (.getfield 9, 3, 99), none, none, some (.iload_n 1, 1, 0), some (.iaload, 1, 0), some (.iastore, 1, 0), some (.iinc 1 1, 3, 0), none, none, some (.goto (-21), 3, 2), none, none, some (.return_, 1, 0)]
def am_c133 : List (Option am_I) := [some (.iconst 0, 1, 0), some (.istore_n 1, 1, 0), some (.iload_n 1, 1, 0), some (.bipush 19, 2, 0), none, some (.if_icmp .ge 21, 3, 26), none, none, some (.aload_n 0, 1, 0), some (.getfield 9, 3, 99), none, none, some (.iload_n 1, 1, 0), some (.aload_n 0, 1, 0), some (.getfield 18, 3, 101), none, none, some (.iload_n 1, 1, 0), some (.iaload, 1, 0), some (.iastore, 1, 0), some (.iinc 1 1, 3, 0), none, none, some (.goto (-21), 3, 2), none, none, some (.return_, 1, 0)]
def am_c134 : List (Option am_I) := [some (.iload_n 1, 1, 0), some (.iconst 0, 1, 0), some (.bipush 127, 2, 0), none, some (.invokestatic 66, 3, 207), none, none, some (.ifCond .ne 6, 3, 13), none, none, some (.bipush (-2), 2, 0), none, some (.ireturn, 1, 0), some (.aload_n 0, 1, 0), some (.getfield 9, 3, 99), none, none, some (.bipush 23, 2, 0), none, some (.iaload, 1, 0), some (.bipush 100, 2, 0), none, some (.if_icmp .ne 6, 3, 28), none, none, some (.bipush (-4), 2, 0), none, some (.ireturn, 1, 0), some (.aload_n 0, 1, 0), some (.getfield 9, 3, 99), none, none, some (.bipush 68, 2, 0), none, some (.aload_n 0, 1, 0), some (.getfield 9, 3, 99), none, none, some (.bipush 23, 2, 0), none, some (.iaload, 1, 0), some (.iadd, 1, 0), some (.iload_n 1, 1, 0), some (.iastore, 1, 0), some (.aload_n 0, 1, 0), some (.getfield 9, 3, 99), none, none, some (.bipush 23, 2, 0), none, some (.dup2, 1, 0), some (.iaload, 1, 0), some (.iconst 1, 1, 0), some (.iadd, 1, 0), some (.iastore, 1, 0), some (.aload_n 0, 1, 0), some (.getfield 9, 3, 99), none, none, some (.bipush 23, 2, 0), none, some (.iaload, 1, 0), some (.ireturn, 1, 0)]
def am_c135 : List (Option am_I) := [some (.aload_n 0, 1, 0), some (.getfield 70, 3, 115), none, none, some (.aload_n 0, 1, 0), some (.getfield 73, 3, 116), none, none, some (.if_icmp .ge 18, 3, 26), none, none, some (.aload_n 0, 1, 0), some (.getfield 9, 3, 99), none, none, some (.bipush 68, 2, 0), none, some (.aload_n 0, 1, 0), some (.getfield 70, 3, 115), none, none, some (.iadd, 1, 0), some (.iaload, 1, 0), some (.goto 4, 3, 27), none, none, some (.iconst (-1), 1, 0), some (.ireturn, 1, 0)]
def am_c136 : List (Option am_I) := [some (.aload_n 0, 1, 0), some (.aload_n 0, 1, 0), some (.getfield 76, 3, 117), none, none, some (.ifCond .ne 11, 3, 16), none, none, some (.aload_n 0, 1, 0), some (.invokevirtual 80, 3, 208), none, none, some (.iload_n 1, 1, 0), some (.if_icmp .eq 7, 3, 20), none, none, some (.iconst 1, 1, 0), some (.goto 4, 3, 21), none, none, some (.iconst 0, 1, 0), some (.putfield 76, 3, 117), none, none, some (.aload_n 0, 1, 0), some (.dup, 1, 0), some (.getfield 70, 3, 115), none, none, some (.aload_n 0, 1, 0), some (.getfield 76, 3, 117), none, none, some (.ifCond .eq 7, 3, 40), none, none, some (.iconst 0, 1, 0), some (.goto 4, 3, 41), none, none, some (.iconst 1, 1, 0), some (.iadd, 1, 0), some (.putfield 70, 3, 115), none, none, some (.return_, 1, 0)]
def am_c137 : List (Option am_I) := [some (.iconst 0, 1, 0), some (.istore_n 2, 1, 0), some (.iload_n 2, 1, 0), some (.aload_n 1, 1, 0), some (.invokevirtual 84, 3, 209), none, none, some (.if_icmp .ge 18, 3, 25), none, none, some (.aload_n 0, 1, 0), some (.aload_n 1, 1, 0), some (.iload_n 2, 1, 0), some (.invokevirtual 89, 3, 210), none, none, some (.invokevirtual 93, 3, 211), none, none, some (.iinc 2 1, 3, 0), none, none, some (.goto (-20), 3, 2), none, none, some (.return_, 1, 0)]
def am_c138 : List (Option am_I) := [some (.aload_n 0, 1, 0), some (.aload_n 0, 1, 0), some (.getfield 76, 3, 117), none, none, some (.ifCond .ne 17, 3, 22), none, none, some (.aload_n 0, 1, 0), some (.invokevirtual 80, 3, 208), none, none, some (.bipush 48, 2, 0), none, some (.bipush 57, 2, 0), none, some (.invokestatic 66, 3, 207), none, none, some (.ifCond .ne 7, 3, 26), none, none, some (.iconst 1, 1, 0), some (.goto 4, 3, 27), none, none, some (.iconst 0, 1, 0), some (.putfield 76, 3, 117), none, none, some (.iconst 0, 1, 0), some (.istore_n 1, 1, 0), some (.iconst 0, 1, 0), some (.istore_n 2, 1, 0), some (.iload_n 2, 1, 0), some (.iconst 2, 1, 0), some (.if_icmp .ge 61, 3, 97), none, none, some (.aload_n 0, 1, 0), some (.getfield 76, 3, 117), none, none, some (.ifCond .ne 54, 3, 97), none, none, some (.aload_n 0, 1, 0), some (.invokevirtual 80, 3, 208), none, none, some (.bipush 48, 2, 0), none, some (.bipush 57, 2, 0), none, some (.invokestatic 66, 3, 207), none, none, some (.ifCond .eq 40, 3, 97), none, none, some (.iload_n 2, 1, 0), some (.ifCond .eq 7, 3, 68), none, none, some (.iload_n 1, 1, 0), some (.ifCond .le 32, 3, 97), none, none, some (.bipush 10, 2, 0), none, some (.iload_n 1, 1, 0), some (.imul, 1, 0), some (.aload_n 0, 1, 0), some (.invokevirtual 80, 3, 208), none, none, some (.iadd, 1, 0), some (.bipush 48, 2, 0), none, some (.isub, 1, 0), some (.istore_n 1, 1, 0), some (.aload_n 0, 1, 0), some (.dup, 1, 0), some (.getfield 70, 3, 115), none, none, some (.iconst 1, 1, 0), some (.iadd, 1, 0), some (.putfield 70, 3, 115), none, none, some (.iinc 2 1, 3, 0), none, none, some (.goto (-60), 3, 34), none, none, some (.iload_n 1, 1, 0), some (.ireturn, 1, 0)]
def am_c139 : List (Option am_I) := [some (.iconst 0, 1, 0), some (.istore_n 2, 1, 0), some (.iload_n 2, 1, 0), some (.aload_n 1, 1, 0), some (.invokevirtual 84, 3, 209), none, none, some (.if_icmp .ge 33, 3, 40), none, none, some (.aload_n 0, 1, 0), some (.invokevirtual 80, 3, 208), none, none, some (.aload_n 1, 1, 0), some (.iload_n 2, 1, 0), some (.invokevirtual 89, 3, 210), none, none, some (.if_icmp .ne 15, 3, 34), none, none, some (.aload_n 0, 1, 0), some (.dup, 1, 0), some (.getfield 70, 3, 115), none, none, some (.iconst 1, 1, 0), some (.iadd, 1, 0), some (.putfield 70, 3, 115), none, none, some (.iload_n 2, 1, 0), some (.ireturn, 1, 0), some (.iinc 2 1, 3, 0), none, none, some (.goto (-35), 3, 2), none, none, some (.iconst (-1), 1, 0), some (.ireturn, 1, 0)]
def am_c140 : List (Option am_I) := [some (.aload_n 0, 1, 0), some (.getfield 76, 3, 117), none, none, some (.ifCond .ne 52, 3, 56), none, none, some (.aload_n 0, 1, 0), some (.getfield 9, 3, 99), none, none, some (.sipush 178, 3, 0), none, none, some (.sipush 140, 3, 0), none, none, some (.aload_n 0, 1, 0), some (.getfield 97, 3, 118), none, none, some (.imul, 1, 0), some (.iadd, 1, 0), some (.aload_n 0, 1, 0), some (.getfield 9, 3, 99), none, none, some (.sipush 173, 3, 0), none, none, some (.aload_n 0, 1, 0), some (.getfield 97, 3, 118), none, none, some (.iadd, 1, 0), some (.iaload, 1, 0), some (.iadd, 1, 0), some (.iload_n 1, 1, 0), some (.iastore, 1, 0), some (.aload_n 0, 1, 0), some (.getfield 9, 3, 99), none, none, some (.sipush 173, 3, 0), none, none, some (.aload_n 0, 1, 0), some (.getfield 97, 3, 118), none, none, some (.iadd, 1, 0), some (.dup2, 1, 0), some (.iaload, 1, 0), some (.iconst 1, 1, 0), some (.iadd, 1, 0), some (.iastore, 1, 0), some (.return_, 1, 0)]
def am_c141 : List (Option am_I) := [some (.aload_n 0, 1, 0), some (.getfield 76, 3, 117), none, none, some (.ifCond .eq 4, 3, 8), none, none, some (.return_, 1, 0), some (.aload_n 0, 1, 0), some (.invokevirtual 80, 3, 208), none, none, some (.istore_n 1, 1, 0), some (.iload_n 1, 1, 0), some (.bipush 33, 2, 0), none, some (.if_icmp .eq 9, 3, 25), none, none, some (.iload_n 1, 1, 0), some (.bipush 40, 2, 0), none, some (.if_icmp .ne 90, 3, 112), none, none, some (.aload_n 0, 1, 0), some (.aload_n 0, 1, 0), some (.getfield 100, 3, 119), none, none, some (.iconst 5, 1, 0), some (.if_icmp .ne 7, 3, 38), none, none, some (.iconst 1, 1, 0), some (.goto 4, 3, 39), none, none, some (.iconst 0, 1, 0), some (.putfield 76, 3, 117), none, none, some (.aload_n 0, 1, 0), some (.dup, 1, 0), some (.getfield 100, 3, 119), none, none, some (.iconst 1, 1, 0), some (.iadd, 1, 0), some (.putfield 100, 3, 119), none, none, some (.aload_n 0, 1, 0), some (.dup, 1, 0), some (.getfield 70, 3, 115), none, none, some (.aload_n 0, 1, 0), some (.getfield 76, 3, 117), none, none, some (.ifCond .eq 7, 3, 68), none, none, some (.iconst 0, 1, 0), some (.goto 4, 3, 69), none, none, some (.iconst 1, 1, 0), some (.iadd, 1, 0), some (.putfield 70, 3, 115), none, none, some (.iload_n 1, 1, 0), some (.bipush 33, 2, 0), none, some (.if_icmp .ne 15, 3, 91), none, none, some (.aload_n 0, 1, 0), some (.invokevirtual 103, 3, 212), none, none, some (.aload_n 0, 1, 0), some (.iconst (-1), 1, 0), some (.invokevirtual 106, 3, 213), none, none, some (.goto 13, 3, 101), none, none, some (.aload_n 0, 1, 0), some (.invokevirtual 109, 3, 214), none, none, some (.aload_n 0, 1, 0), some (.bipush 41, 2, 0), none, some (.invokevirtual 93, 3, 211), none, none, some (.aload_n 0, 1, 0), some (.dup, 1, 0), some (.getfield 100, 3, 119), none, none, some (.iconst 1, 1, 0), some (.isub, 1, 0), some (.putfield 100, 3, 119), none, none, some (.return_, 1, 0), some (.aload_n 0, 1, 0), some (.ldc 112, 2, 9), none, some (.invokevirtual 114, 3, 215), none, none, some (.istore_n 2, 1, 0), some (.aload_n 0, 1, 0), some (.iload_n 2, 1, 0), some (.iconst (-1), 1, 0), some (.if_icmp .ne 7, 3, 129), none, none, some (.iconst 1, 1, 0), some (.goto 4, 3, 130), none, none, some (.iconst 0, 1, 0), some (.putfield 76, 3, 117), none, none, some (.aload_n 0, 1, 0), some (.getfield 76, 3, 117), none, none, some (.ifCond .eq 7, 3, 144), none, none, some (.iconst 0, 1, 0), some (.goto 9, 3, 150), none, none, some (.aload_n 0, 1, 0), some (.ldc 118, 2, 11), none, some (.invokevirtual 114, 3, 215), none, none, some (.istore_n 3, 1, 0), some (.aload_n 0, 1, 0), some (.aload_n 0, 1, 0), some (.getfield 76, 3, 117), none, none, some (.ifCond .ne 8, 3, 164), none, none, some (.iload_n 3, 1, 0), some (.iconst (-1), 1, 0), some (.if_icmp .ne 7, 3, 168), none, none, some (.iconst 1, 1, 0), some (.goto 4, 3, 169), none, none, some (.iconst 0, 1, 0), some (.putfield 76, 3, 117), none, none, some (.aload_n 0, 1, 0), some (.invokevirtual 120, 3, 216), none, none, some (.istore 4, 2, 0), none, some (.aload_n 0, 1, 0), some (.iload_n 2, 1, 0), some (.bipush 8, 2, 0), none, some (.iload_n 3, 1, 0), some (.imul, 1, 0), some (.iadd, 1, 0), some (.bipush 32, 2, 0), none, some (.iload 4, 2, 0), none, some (.imul, 1, 0), some (.iadd, 1, 0), some (.invokevirtual 106, 3, 213), none, none, some (.return_, 1, 0)]
def am_c142 : List (Option am_I) := [some (.aload_n 0, 1, 0), some (.invokevirtual 103, 3, 212), none, none, some (.aload_n 0, 1, 0), some (.getfield 76, 3, 117), none, none, some (.ifCond .ne 35, 3, 43), none, none, some (.aload_n 0, 1, 0), some (.invokevirtual 80, 3, 208), none, none, some (.bipush 38, 2, 0), none, some (.if_icmp .ne 26, 3, 43), none, none, some (.aload_n 0, 1, 0), some (.dup, 1, 0), some (.getfield 70, 3, 115), none, none, some (.iconst 1, 1, 0), some (.iadd, 1, 0), some (.putfield 70, 3, 115), none, none, some (.aload_n 0, 1, 0), some (.invokevirtual 103, 3, 212), none, none, some (.aload_n 0, 1, 0), some (.bipush (-2), 2, 0), none, some (.invokevirtual 106, 3, 213), none, none, some (.goto (-36), 3, 4), none, none, some (.return_, 1, 0)]
def am_c143 : List (Option am_I) := [some (.aload_n 0, 1, 0), some (.invokevirtual 123, 3, 217), none, none, some (.aload_n 0, 1, 0), some (.getfield 76, 3, 117), none, none, some (.ifCond .ne 35, 3, 43), none, none, some (.aload_n 0, 1, 0), some (.invokevirtual 80, 3, 208), none, none, some (.bipush 124, 2, 0), none, some (.if_icmp .ne 26, 3, 43), none, none, some (.aload_n 0, 1, 0), some (.dup, 1, 0), some (.getfield 70, 3, 115), none, none, some (.iconst 1, 1, 0), some (.iadd, 1, 0), some (.putfield 70, 3, 115), none, none, some (.aload_n 0, 1, 0), some (.invokevirtual 123, 3, 217), none, none, some (.aload_n 0, 1, 0), some (.bipush (-3), 2, 0), none, some (.invokevirtual 106, 3, 213), none, none, some (.goto (-36), 3, 4), none, none, some (.return_, 1, 0)]
def am_c144 : List (Option am_I) := [some (.aload_n 0, 1, 0), some (.aload_n 2, 1, 0), some (.invokevirtual 126, 3, 218), none, none, some (.aload_n 0, 1, 0), some (.invokevirtual 120, 3, 216), none, none, some (.istore_n 3, 1, 0), some (.aload_n 0, 1, 0), some (.bipush 32, 2, 0), none, some (.invokevirtual 93, 3, 211), none, none, some (.aload_n 0, 1, 0), some (.invokevirtual 109, 3, 214), none, none, some (.aload_n 0, 1, 0), some (.iload_n 1, 1, 0), some (.iload_n 3, 1, 0), some (.isub, 1, 0), some (.invokevirtual 106, 3, 213), none, none, some (.return_, 1, 0)]
def am_c145 : List (Option am_I) := [some (.aload_n 0, 1, 0), some (.bipush 108, 2, 0), none, some (.invokevirtual 93, 3, 211), none, none, some (.aload_n 0, 1, 0), some (.invokevirtual 80, 3, 208), none, none, some (.bipush 105, 2, 0), none, some (.if_icmp .ne 14, 3, 26), none, none, some (.aload_n 0, 1, 0), some (.bipush (-10), 2, 0), none, some (.ldc 130, 2, 13), none, some (.invokevirtual 132, 3, 219), none, none, some (.goto 12, 3, 35), none, none, some (.aload_n 0, 1, 0), some (.sipush (-200), 3, 0), none, none, some (.ldc 136, 2, 15), none, some (.invokevirtual 132, 3, 219), none, none, some (.return_, 1, 0)]
def am_c146 : List (Option am_I) := [some (.aload_n 0, 1, 0), some (.invokevirtual 80, 3, 208), none, none, some (.lookupswitch 90 #[(99, 55), (108, 36), (114, 43)], 36, 0), none, none, none, none, none, none, none, none, none, none, none, none, none, none, none, none, none, none, none, none, none, none, none, none, none, none, none, none, none, none, none, none, none, none, none, some (.aload_n 0, 1, 0), some (.invokevirtual 138, 3, 220), none, none, some (.goto 55, 3, 99), none, none, some (.aload_n 0, 1, 0), some (.sipush (-400), 3, 0), none, none, some (.ldc 141, 2, 17), none, some (.invokevirtual 132, 3, 219), none, none, some (.goto 43, 3, 99), none, none, some (.aload_n 0, 1, 0), some (.ldc 143, 2, 19), none, some (.invokevirtual 126, 3, 218), none, none, some (.aload_n 0, 1, 0), some (.invokevirtual 120, 3, 216), none, none, some (.istore_n 1, 1, 0), some (.aload_n 0, 1, 0), some (.getfield 76, 3, 117), none, none, some (.ifCond .ne 25, 3, 99), none, none, some (.aload_n 0, 1, 0), some (.getfield 9, 3, 99), none, none, some (.sipush 168, 3, 0), none, none, some (.aload_n 0, 1, 0), some (.getfield 97, 3, 118), none, none, some (.iadd, 1, 0), some (.iload_n 1, 1, 0), some (.iastore, 1, 0), some (.goto 8, 3, 99), none, none, some (.aload_n 0, 1, 0), some (.iconst 1, 1, 0), some (.putfield 76, 3, 117), none, none, some (.return_, 1, 0)]
def am_c147 : List (Option am_I) := [some (.aload_n 0, 1, 0), some (.getfield 9, 3, 99), none, none, some (.bipush 21, 2, 0), none, some (.iaload, 1, 0), some (.iconst 5, 1, 0), some (.if_icmp .ne 6, 3, 14), none, none, some (.bipush (-4), 2, 0), none, some (.ireturn, 1, 0), some (.aload_n 0, 1, 0), some (.aload_n 0, 1, 0), some (.getfield 9, 3, 99), none, none, some (.bipush 21, 2, 0), none, some (.iaload, 1, 0), some (.putfield 97, 3, 118), none, none, some (.aload_n 0, 1, 0), some (.aload_n 0, 1, 0), some (.getfield 9, 3, 99), none, none, some (.bipush 23, 2, 0), none, some (.iaload, 1, 0), some (.putfield 73, 3, 116), none, none, some (.aload_n 0, 1, 0), some (.getfield 9, 3, 99), none, none, some (.bipush 23, 2, 0), none, some (.iconst 0, 1, 0), some (.iastore, 1, 0), some (.aload_n 0, 1, 0), some (.getfield 9, 3, 99), none, none, some (.sipush 168, 3, 0), none, none, some (.aload_n 0, 1, 0), some (.getfield 97, 3, 118), none, none, some (.iadd, 1, 0), some (.iconst 5, 1, 0), some (.iastore, 1, 0), some (.aload_n 0, 1, 0), some (.getfield 9, 3, 99), none, none, some (.sipush 173, 3, 0), none, none, some (.aload_n 0, 1, 0), some (.getfield 97, 3, 118), none, none, some (.iadd, 1, 0), some (.iconst 0, 1, 0), some (.iastore, 1, 0), some (.aload_n 0, 1, 0), some (.iconst 0, 1, 0), some (.putfield 70, 3, 115), none, none, some (.aload_n 0, 1, 0), some (.iconst 0, 1, 0), some (.putfield 76, 3, 117), none, none, some (.aload_n 0, 1, 0), some (.iconst 0, 1, 0), some (.putfield 100, 3, 119), none, none, some (.iconst 1, 1, 0), some (.istore_n 1, 1, 0), some (.aload_n 0, 1, 0), some (.invokevirtual 145, 3, 221), none, none, some (.aload_n 0, 1, 0), some (.getfield 76, 3, 117), none, none, some (.ifCond .ne 38, 3, 135), none, none, some (.iload_n 1, 1, 0), some (.bipush 10, 2, 0), none, some (.if_icmp .ge 32, 3, 135), none, none, some (.aload_n 0, 1, 0), some (.invokevirtual 80, 3, 208), none, none, some (.bipush 59, 2, 0), none, some (.if_icmp .ne 23, 3, 135), none, none, some (.aload_n 0, 1, 0), some (.dup, 1, 0), some (.getfield 70, 3, 115), none, none, some (.iconst 1, 1, 0), some (.iadd, 1, 0), some (.putfield 70, 3, 115), none, none, some (.aload_n 0, 1, 0), some (.invokevirtual 145, 3, 221), none, none, some (.iinc 1 1, 3, 0), none, none, some (.goto (-39), 3, 93), none, none, some (.aload_n 0, 1, 0), some (.getfield 76, 3, 117), none, none, some (.ifCond .ne 14, 3, 153), none, none, some (.aload_n 0, 1, 0), some (.getfield 70, 3, 115), none, none, some (.aload_n 0, 1, 0), some (.getfield 73, 3, 116), none, none, some (.if_icmp .eq 11, 3, 161), none, none, some (.bipush (-10), 2, 0), none, some (.aload_n 0, 1, 0), some (.getfield 70, 3, 115), none, none, some (.isub, 1, 0), some (.ireturn, 1, 0), some (.aload_n 0, 1, 0), some (.getfield 9, 3, 99), none, none, some (.bipush 21, 2, 0), none, some (.dup2, 1, 0), some (.iaload, 1, 0), some (.iconst 1, 1, 0), some (.iadd, 1, 0), some (.iastore, 1, 0), some (.aload_n 0, 1, 0), some (.getfield 9, 3, 99), none, none, some (.bipush 24, 2, 0), none, some (.aload_n 0, 1, 0), some (.getfield 97, 3, 118), none, none, some (.iastore, 1, 0), some (.aload_n 0, 1, 0), some (.getfield 97, 3, 118), none, none, some (.ireturn, 1, 0)]
def am_c148 : List (Option am_I) := [some (.aload_n 0, 1, 0), some (.getfield 9, 3, 99), none, none, some (.bipush 24, 2, 0), none, some (.iaload, 1, 0), some (.iconst (-1), 1, 0), some (.if_icmp .ne 7, 3, 15), none, none, some (.iconst 5, 1, 0), some (.goto 19, 3, 31), none, none, some (.aload_n 0, 1, 0), some (.getfield 9, 3, 99), none, none, some (.sipush 168, 3, 0), none, none, some (.aload_n 0, 1, 0), some (.getfield 9, 3, 99), none, none, some (.bipush 24, 2, 0), none, some (.iaload, 1, 0), some (.iadd, 1, 0), some (.iaload, 1, 0), some (.ireturn, 1, 0)]
def am_c149 : List (Option am_I) := [some (.iload_n 1, 1, 0), some (.iconst 0, 1, 0), some (.bipush 6, 2, 0), none, some (.invokestatic 66, 3, 207), none, none, some (.ifCond .ne 5, 3, 12), none, none, some (.iconst (-1), 1, 0), some (.ireturn, 1, 0), some (.iload_n 2, 1, 0), some (.iconst 0, 1, 0), some (.bipush 9, 2, 0), none, some (.invokestatic 66, 3, 207), none, none, some (.ifCond .ne 6, 3, 25), none, none, some (.bipush (-2), 2, 0), none, some (.ireturn, 1, 0), some (.aload_n 0, 1, 0), some (.getfield 9, 3, 99), none, none, some (.bipush 19, 2, 0), none, some (.iaload, 1, 0), some (.bipush 6, 2, 0), none, some (.if_icmp .ne 6, 3, 40), none, none, some (.bipush (-4), 2, 0), none, some (.ireturn, 1, 0), some (.aload_n 0, 1, 0), some (.getfield 9, 3, 99), none, none, some (.bipush 19, 2, 0), none, some (.iaload, 1, 0), some (.istore_n 3, 1, 0), some (.aload_n 0, 1, 0), some (.getfield 9, 3, 99), none, none, some (.bipush 26, 2, 0), none, some (.iload_n 3, 1, 0), some (.iadd, 1, 0), some (.iload_n 1, 1, 0), some (.iastore, 1, 0), some (.aload_n 0, 1, 0), some (.getfield 9, 3, 99), none, none, some (.bipush 32, 2, 0), none, some (.iload_n 3, 1, 0), some (.iadd, 1, 0), some (.iload_n 2, 1, 0), some (.iastore, 1, 0), some (.aload_n 0, 1, 0), some (.getfield 9, 3, 99), none, none, some (.iconst 1, 1, 0), some (.iload_n 3, 1, 0), some (.iadd, 1, 0), some (.iconst 0, 1, 0), some (.iastore, 1, 0), some (.aload_n 0, 1, 0), some (.getfield 9, 3, 99), none, none, some (.bipush 7, 2, 0), none, some (.iload_n 3, 1, 0), some (.iadd, 1, 0), some (.iconst 0, 1, 0), some (.iastore, 1, 0), some (.aload_n 0, 1, 0), some (.getfield 9, 3, 99), none, none, some (.bipush 19, 2, 0), none, some (.dup2, 1, 0), some (.iaload, 1, 0), some (.iconst 1, 1, 0), some (.iadd, 1, 0), some (.iastore, 1, 0), some (.iload_n 3, 1, 0), some (.ireturn, 1, 0)]
def am_c150 : List (Option am_I) := [some (.aload_n 0, 1, 0), some (.iload 4, 2, 0), none, some (.invokevirtual 148, 3, 222), none, none, some (.ifCond .ne 5, 3, 11), none, none, some (.iconst (-1), 1, 0), some (.ireturn, 1, 0), some (.iload_n 1, 1, 0), some (.iconst 0, 1, 0), some (.bipush 99, 2, 0), none, some (.invokestatic 66, 3, 207), none, none, some (.ifCond .eq 22, 3, 40), none, none, some (.iload_n 2, 1, 0), some (.iconst 0, 1, 0), some (.bipush 9, 2, 0), none, some (.invokestatic 66, 3, 207), none, none, some (.ifCond .eq 12, 3, 40), none, none, some (.iload_n 3, 1, 0), some (.iconst 0, 1, 0), some (.iconst 3, 1, 0), some (.invokestatic 66, 3, 207), none, none, some (.ifCond .ne 6, 3, 43), none, none, some (.bipush (-2), 2, 0), none, some (.ireturn, 1, 0), some (.aload_n 0, 1, 0), some (.getfield 9, 3, 99), none, none, some (.bipush 20, 2, 0), none, some (.iaload, 1, 0), some (.bipush 6, 2, 0), none, some (.if_icmp .ne 6, 3, 58), none, none, some (.bipush (-4), 2, 0), none, some (.ireturn, 1, 0), some (.aload_n 0, 1, 0), some (.getfield 9, 3, 99), none, none, some (.bipush 20, 2, 0), none, some (.iaload, 1, 0), some (.istore 5, 2, 0), none, some (.aload_n 0, 1, 0), some (.getfield 9, 3, 99), none, none, some (.bipush 38, 2, 0), none, some (.iload 5, 2, 0), none, some (.iadd, 1, 0), some (.iload_n 1, 1, 0), some (.iastore, 1, 0), some (.aload_n 0, 1, 0), some (.getfield 9, 3, 99), none, none, some (.bipush 44, 2, 0), none, some (.iload 5, 2, 0), none, some (.iadd, 1, 0), some (.iload_n 2, 1, 0), some (.iastore, 1, 0), some (.aload_n 0, 1, 0), some (.getfield 9, 3, 99), none, none, some (.bipush 50, 2, 0), none, some (.iload 5, 2, 0), none, some (.iadd, 1, 0), some (.iload_n 3, 1, 0), some (.iastore, 1, 0), some (.aload_n 0, 1, 0), some (.getfield 9, 3, 99), none, none, some (.bipush 56, 2, 0), none, some (.iload 5, 2, 0), none, some (.iadd, 1, 0), some (.iload 4, 2, 0), none, some (.iastore, 1, 0), some (.aload_n 0, 1, 0), some (.getfield 9, 3, 99), none, none, some (.bipush 13, 2, 0), none, some (.iload 5, 2, 0), none, some (.iadd, 1, 0), some (.iconst 0, 1, 0), some (.iastore, 1, 0), some (.aload_n 0, 1, 0), some (.getfield 9, 3, 99), none, none, some (.bipush 20, 2, 0), none, some (.dup2, 1, 0), some (.iaload, 1, 0), some (.iconst 1, 1, 0), some (.iadd, 1, 0), some (.iastore, 1, 0), some (.iload 5, 2, 0), none, some (.ireturn, 1, 0)]
def am_c151 : List (Option am_I) := [some (.aload_n 0, 1, 0), some (.iload_n 1, 1, 0), some (.invokevirtual 148, 3, 222), none, none, some (.ifCond .eq 12, 3, 17), none, none, some (.iload_n 2, 1, 0), some (.iconst 0, 1, 0), some (.iconst 3, 1, 0), some (.invokestatic 66, 3, 207), none, none, some (.ifCond .ne 7, 3, 21), none, none, some (.sipush (-10001), 3, 0), none, none, some (.ireturn, 1, 0), some (.iload_n 2, 1, 0), some (.tableswitch 55 0 2 #[26, 36, 46], 26, 0), none, none, none, none, none, none, none, none, none, none, none, none, none, none, none, none, none, none, none, none, none, none, none, none, none, some (.aload_n 0, 1, 0), some (.getfield 9, 3, 99), none, none, some (.bipush 26, 2, 0), none, some (.iload_n 1, 1, 0), some (.iadd, 1, 0), some (.iaload, 1, 0), some (.ireturn, 1, 0), some (.aload_n 0, 1, 0), some (.getfield 9, 3, 99), none, none, some (.bipush 32, 2, 0), none, some (.iload_n 1, 1, 0), some (.iadd, 1, 0), some (.iaload, 1, 0), some (.ireturn, 1, 0), some (.aload_n 0, 1, 0), some (.getfield 9, 3, 99), none, none, some (.iconst 1, 1, 0), some (.iload_n 1, 1, 0), some (.iadd, 1, 0), some (.iaload, 1, 0), some (.ireturn, 1, 0), some (.iconst 1, 1, 0), some (.aload_n 0, 1, 0), some (.getfield 9, 3, 99), none, none, some (.bipush 7, 2, 0), none, some (.iload_n 1, 1, 0), some (.iadd, 1, 0), some (.iaload, 1, 0), some (.isub, 1, 0), some (.ireturn, 1, 0)]
def am_c152 : List (Option am_I) := [some (.aload_n 0, 1, 0), some (.iload_n 1, 1, 0), some (.invokevirtual 152, 3, 223), none, none, some (.ifCond .eq 12, 3, 17), none, none, some (.iload_n 2, 1, 0), some (.iconst 0, 1, 0), some (.iconst 4, 1, 0), some (.invokestatic 66, 3, 207), none, none, some (.ifCond .ne 5, 3, 19), none, none, some (.iconst (-1), 1, 0), some (.ireturn, 1, 0), some (.iload_n 2, 1, 0), some (.iconst 4, 1, 0), some (.if_icmp .ne 15, 3, 36), none, none, some (.aload_n 0, 1, 0), some (.getfield 9, 3, 99), none, none, some (.bipush 13, 2, 0), none, some (.iload_n 1, 1, 0), some (.iadd, 1, 0), some (.iaload, 1, 0), some (.goto 17, 3, 50), none, none, some (.aload_n 0, 1, 0), some (.getfield 9, 3, 99), none, none, some (.bipush 38, 2, 0), none, some (.bipush 6, 2, 0), none, some (.iload_n 2, 1, 0), some (.imul, 1, 0), some (.iadd, 1, 0), some (.iload_n 1, 1, 0), some (.iadd, 1, 0), some (.iaload, 1, 0), some (.ireturn, 1, 0)]
def am_c153 : List (Option am_I) := [some (.iconst 0, 1, 0), some (.istore_n 1, 1, 0), some (.iconst 0, 1, 0), some (.istore_n 2, 1, 0), some (.iload_n 2, 1, 0), some (.aload_n 0, 1, 0), some (.getfield 9, 3, 99), none, none, some (.bipush 19, 2, 0), none, some (.iaload, 1, 0), some (.if_icmp .ge 27, 3, 39), none, none, some (.iload_n 1, 1, 0), some (.aload_n 0, 1, 0), some (.iload_n 2, 1, 0), some (.invokevirtual 155, 3, 224), none, none, some (.ifCond .eq 9, 3, 30), none, none, some (.iconst 1, 1, 0), some (.iload_n 2, 1, 0), some (.ishl, 1, 0), some (.goto 4, 3, 31), none, none, some (.iconst 0, 1, 0), some (.ior, 1, 0), some (.istore_n 1, 1, 0), some (.iinc 2 1, 3, 0), none, none, some (.goto (-32), 3, 4), none, none, some (.iload_n 1, 1, 0), some (.ireturn, 1, 0)]
def am_c154 : List (Option am_I) := [some (.iconst 0, 1, 0), some (.istore_n 1, 1, 0), some (.iconst 0, 1, 0), some (.istore_n 2, 1, 0), some (.iload_n 2, 1, 0), some (.aload_n 0, 1, 0), some (.getfield 9, 3, 99), none, none, some (.bipush 20, 2, 0), none, some (.iaload, 1, 0), some (.if_icmp .ge 27, 3, 39), none, none, some (.iload_n 1, 1, 0), some (.aload_n 0, 1, 0), some (.iload_n 2, 1, 0), some (.invokevirtual 158, 3, 225), none, none, some (.ifCond .eq 9, 3, 30), none, none, some (.iconst 1, 1, 0), some (.iload_n 2, 1, 0), some (.ishl, 1, 0), some (.goto 4, 3, 31), none, none, some (.iconst 0, 1, 0), some (.ior, 1, 0), some (.istore_n 1, 1, 0), some (.iinc 2 1, 3, 0), none, none, some (.goto (-32), 3, 4), none, none, some (.iload_n 1, 1, 0), some (.ireturn, 1, 0)]
def am_c155 : List (Option am_I) := [some (.iconst 0, 1, 0), some (.istore_n 1, 1, 0), some (.iconst 0, 1, 0), some (.istore_n 2, 1, 0), some (.iload_n 2, 1, 0), some (.bipush 6, 2, 0), none, some (.if_icmp .ge 17, 3, 24), none, none, some (.iload_n 1, 1, 0), some (.iload_n 0, 1, 0), some (.iload_n 2, 1, 0), some (.ishr, 1, 0), some (.iconst 1, 1, 0), some (.iand, 1, 0), some (.iadd, 1, 0), some (.istore_n 1, 1, 0), some (.iinc 2 1, 3, 0), none, none, some (.goto (-17), 3, 4), none, none, some (.iload_n 1, 1, 0), some (.ireturn, 1, 0)]
def am_c156 : List (Option am_I) := [some (.iload_n 1, 1, 0), some (.tableswitch 53 0 3 #[31, 38, 43, 48], 31, 0), none, none, none, none, none, none, none, none, none, none, none, none, none, none, none, none, none, none, none, none, none, none, none, none, none, none, none, none, none, none, some (.aload_n 0, 1, 0), some (.getfield 9, 3, 99), none, none, some (.iconst 0, 1, 0), some (.iaload, 1, 0), some (.ireturn, 1, 0), some (.aload_n 0, 1, 0), some (.invokevirtual 161, 3, 226), none, none, some (.ireturn, 1, 0), some (.aload_n 0, 1, 0), some (.invokevirtual 164, 3, 227), none, none, some (.ireturn, 1, 0), some (.aload_n 0, 1, 0), some (.invokevirtual 167, 3, 228), none, none, some (.ireturn, 1, 0), some (.iconst (-1), 1, 0), some (.ireturn, 1, 0)]
def am_c157 : List (Option am_I) := [some (.aload_n 0, 1, 0), some (.iload_n 1, 1, 0), some (.invokevirtual 152, 3, 223), none, none, some (.ifCond .ne 5, 3, 10), none, none, some (.iconst (-1), 1, 0), some (.ireturn, 1, 0), some (.aload_n 0, 1, 0), some (.getfield 9, 3, 99), none, none, some (.bipush 13, 2, 0), none, some (.iload_n 1, 1, 0), some (.iadd, 1, 0), some (.iaload, 1, 0), some (.istore_n 3, 1, 0), some (.aload_n 0, 1, 0), some (.getfield 9, 3, 99), none, none, some (.bipush 13, 2, 0), none, some (.iload_n 1, 1, 0), some (.iadd, 1, 0), some (.iload_n 2, 1, 0), some (.ifCond .eq 7, 3, 36), none, none, some (.iconst 1, 1, 0), some (.goto 4, 3, 37), none, none, some (.iconst 0, 1, 0), some (.iastore, 1, 0), some (.iload_n 3, 1, 0), some (.ireturn, 1, 0)]
def am_c158 : List (Option am_I) := [some (.aload_n 0, 1, 0), some (.getfield 21, 3, 102), none, none, some (.iconst 0, 1, 0), some (.iload_n 1, 1, 0), some (.iastore, 1, 0), some (.aload_n 0, 1, 0), some (.getfield 21, 3, 102), none, none, some (.iconst 1, 1, 0), some (.aload_n 0, 1, 0), some (.getfield 9, 3, 99), none, none, some (.bipush 26, 2, 0), none, some (.iload_n 1, 1, 0), some (.iadd, 1, 0), some (.iaload, 1, 0), some (.iastore, 1, 0), some (.aload_n 0, 1, 0), some (.getfield 21, 3, 102), none, none, some (.iconst 2, 1, 0), some (.iload_n 2, 1, 0), some (.iastore, 1, 0), some (.aload_n 0, 1, 0), some (.getfield 21, 3, 102), none, none, some (.iconst 3, 1, 0), some (.aload_n 0, 1, 0), some (.getfield 9, 3, 99), none, none, some (.bipush 38, 2, 0), none, some (.iload_n 2, 1, 0), some (.iadd, 1, 0), some (.iaload, 1, 0), some (.bipush 10, 2, 0), none, some (.idiv, 1, 0), some (.iastore, 1, 0), some (.aload_n 0, 1, 0), some (.getfield 21, 3, 102), none, none, some (.iconst 4, 1, 0), some (.aload_n 0, 1, 0), some (.getfield 9, 3, 99), none, none, some (.bipush 44, 2, 0), none, some (.iload_n 2, 1, 0), some (.iadd, 1, 0), some (.iaload, 1, 0), some (.iastore, 1, 0), some (.aload_n 0, 1, 0), some (.getfield 21, 3, 102), none, none, some (.iconst 5, 1, 0), some (.aload_n 0, 1, 0), some (.getfield 9, 3, 99), none, none, some (.bipush 50, 2, 0), none, some (.iload_n 2, 1, 0), some (.iadd, 1, 0), some (.iaload, 1, 0), some (.iastore, 1, 0), some (.aload_n 0, 1, 0), some (.iconst 0, 1, 0), some (.putfield 170, 3, 120), none, none, some (.aload_n 0, 1, 0), some (.iconst 0, 1, 0), some (.putfield 173, 3, 121), none, none, some (.aload_n 0, 1, 0), some (.getfield 9, 3, 99), none, none, some (.bipush 24, 2, 0), none, some (.iaload, 1, 0), some (.iconst (-1), 1, 0), some (.if_icmp .ne 7, 3, 102), none, none, some (.iconst 0, 1, 0), some (.goto 19, 3, 118), none, none, some (.aload_n 0, 1, 0), some (.getfield 9, 3, 99), none, none, some (.sipush 173, 3, 0), none, none, some (.aload_n 0, 1, 0), some (.getfield 9, 3, 99), none, none, some (.bipush 24, 2, 0), none, some (.iaload, 1, 0), some (.iadd, 1, 0), some (.iaload, 1, 0), some (.istore_n 3, 1, 0), some (.sipush 178, 3, 0), none, none, some (.sipush 140, 3, 0), none, none, some (.aload_n 0, 1, 0), some (.getfield 9, 3, 99), none, none, some (.bipush 24, 2, 0), none, some (.iaload, 1, 0), some (.imul, 1, 0), some (.iadd, 1, 0), some (.istore 4, 2, 0), none, some (.iconst 0, 1, 0), some (.istore 5, 2, 0), none, some (.iload 4, 2, 0), none, some (.istore 6, 2, 0), none, some (.iload 6, 2, 0), none, some (.iload 4, 2, 0), none, some (.iload_n 3, 1, 0), some (.iadd, 1, 0), some (.if_icmp .ge 329, 3, 478), none, none, some (.aload_n 0, 1, 0), some (.getfield 9, 3, 99), none, none, some (.iload 6, 2, 0), none, some (.iaload, 1, 0), some (.istore 7, 2, 0), none, some (.iload 7, 2, 0), none, some (.ifCond .lt 97, 3, 260), none, none, some (.aload_n 0, 1, 0), some (.getfield 21, 3, 102), none, none, some (.iload 7, 2, 0), none, some (.bipush 8, 2, 0), none, some (.irem, 1, 0), some (.iaload, 1, 0), some (.istore 8, 2, 0), none, some (.iload 7, 2, 0), none, some (.bipush 8, 2, 0), none, some (.idiv, 1, 0), some (.iconst 4, 1, 0), some (.irem, 1, 0), some (.istore 9, 2, 0), none, some (.iload 7, 2, 0), none, some (.bipush 32, 2, 0), none, some (.idiv, 1, 0), some (.istore 10, 2, 0), none, some (.aload_n 0, 1, 0), some (.getfield 24, 3, 103), none, none, some (.iload 5, 2, 0), none, some (.iload 9, 2, 0), none, some (.ifCond .ne 18, 3, 220), none, none, some (.iload 8, 2, 0), none, some (.iload 10, 2, 0), none, some (.if_icmp .ge 7, 3, 216), none, none, some (.iconst 1, 1, 0), some (.goto 40, 3, 253), none, none, some (.iconst 0, 1, 0), some (.goto 36, 3, 253), none, none, some (.iload 9, 2, 0), none, some (.iconst 1, 1, 0), some (.if_icmp .ne 18, 3, 241), none, none, some (.iload 8, 2, 0), none, some (.iload 10, 2, 0), none, some (.if_icmp .ne 7, 3, 237), none, none, some (.iconst 1, 1, 0), some (.goto 19, 3, 253), none, none, some (.iconst 0, 1, 0), some (.goto 15, 3, 253), none, none, some (.iload 8, 2, 0), none, some (.iload 10, 2, 0), none, some (.if_icmp .le 7, 3, 252), none, none, some (.iconst 1, 1, 0), some (.goto 4, 3, 253), none, none, some (.iconst 0, 1, 0), some (.bastore, 1, 0), some (.iinc 5 1, 3, 0), none, none, some (.goto 215, 3, 472), none, none, some (.iload 7, 2, 0), none, some (.iconst (-1), 1, 0), some (.if_icmp .ne 32, 3, 295), none, none, some (.aload_n 0, 1, 0), some (.getfield 24, 3, 103), none, none, some (.iload 5, 2, 0), none, some (.iconst 1, 1, 0), some (.isub, 1, 0), some (.aload_n 0, 1, 0), some (.getfield 24, 3, 103), none, none, some (.iload 5, 2, 0), none, some (.iconst 1, 1, 0), some (.isub, 1, 0), some (.baload, 1, 0), some (.ifCond .ne 7, 3, 290), none, none, some (.iconst 1, 1, 0), some (.goto 4, 3, 291), none, none, some (.iconst 0, 1, 0), some (.bastore, 1, 0), some (.goto 180, 3, 472), none, none, some (.iload 7, 2, 0), none, some (.bipush (-10), 2, 0), none, some (.if_icmp .le 82, 3, 381), none, none, some (.iinc 5 (-1), 3, 0), none, none, some (.aload_n 0, 1, 0), some (.getfield 24, 3, 103), none, none, some (.iload 5, 2, 0), none, some (.iconst 1, 1, 0), some (.isub, 1, 0), some (.iload 7, 2, 0), none, some (.bipush (-2), 2, 0), none, some (.if_icmp .ne 33, 3, 350), none, none, some (.aload_n 0, 1, 0), some (.getfield 24, 3, 103), none, none, some (.iload 5, 2, 0), none, some (.iconst 1, 1, 0), some (.isub, 1, 0), some (.baload, 1, 0), some (.ifCond .eq 17, 3, 346), none, none, some (.aload_n 0, 1, 0), some (.getfield 24, 3, 103), none, none, some (.iload 5, 2, 0), none, some (.baload, 1, 0), some (.ifCond .eq 7, 3, 346), none, none, some (.iconst 1, 1, 0), some (.goto 34, 3, 377), none, none, some (.iconst 0, 1, 0), some (.goto 30, 3, 377), none, none, some (.aload_n 0, 1, 0), some (.getfield 24, 3, 103), none, none, some (.iload 5, 2, 0), none, some (.iconst 1, 1, 0), some (.isub, 1, 0), some (.baload, 1, 0), some (.ifCond .ne 13, 3, 372), none, none, some (.aload_n 0, 1, 0), some (.getfield 24, 3, 103), none, none, some (.iload 5, 2, 0), none, some (.baload, 1, 0), some (.ifCond .eq 7, 3, 376), none, none, some (.iconst 1, 1, 0), some (.goto 4, 3, 377), none, none, some (.iconst 0, 1, 0), some (.bastore, 1, 0), some (.goto 94, 3, 472), none, none, some (.iconst 0, 1, 0), some (.istore 5, 2, 0), none, some (.aload_n 0, 1, 0), some (.getfield 24, 3, 103), none, none, some (.iconst 0, 1, 0), some (.baload, 1, 0), some (.istore 8, 2, 0), none, some (.aload_n 0, 1, 0), some (.dup, 1, 0), some (.getfield 170, 3, 120), none, none, some (.iload 8, 2, 0), none, some (.ifCond .eq 11, 3, 410), none, none, some (.iload 7, 2, 0), none, some (.sipush (-400), 3, 0), none, none, some (.if_icmp .gt 7, 3, 414), none, none, some (.iconst 0, 1, 0), some (.goto 25, 3, 436), none, none, some (.iload 7, 2, 0), none, some (.sipush (-200), 3, 0), none, none, some (.if_icmp .le 11, 3, 430), none, none, some (.bipush (-10), 2, 0), none, some (.iload 7, 2, 0), none, some (.isub, 1, 0), some (.goto 9, 3, 436), none, none, some (.iload 7, 2, 0), none, some (.sipush (-200), 3, 0), none, none, some (.isub, 1, 0), some (.iadd, 1, 0), some (.putfield 170, 3, 120), none, none, some (.aload_n 0, 1, 0), some (.dup, 1, 0), some (.getfield 173, 3, 121), none, none, some (.iload 8, 2, 0), none, some (.ifCond .eq 20, 3, 467), none, none, some (.iload 7, 2, 0), none, some (.sipush (-400), 3, 0), none, none, some (.if_icmp .gt 12, 3, 467), none, none, some (.sipush (-400), 3, 0), none, none, some (.iload 7, 2, 0), none, some (.isub, 1, 0), some (.goto 4, 3, 468), none, none, some (.iconst 0, 1, 0), some (.iadd, 1, 0), some (.putfield 173, 3, 121), none, none, some (.iinc 6 1, 3, 0), none, none, some (.goto (-332), 3, 143), none, none, some (.return_, 1, 0)]
def am_c159 : List (Option am_I) := [some (.aload_n 0, 1, 0), some (.iload_n 1, 1, 0), some (.iload_n 2, 1, 0), some (.invokevirtual 176, 3, 229), none, none, some (.aload_n 0, 1, 0), some (.getfield 9, 3, 99), none, none, some (.bipush 26, 2, 0), none, some (.iload_n 1, 1, 0), some (.iadd, 1, 0), some (.iaload, 1, 0), some (.istore_n 3, 1, 0), some (.bipush 50, 2, 0), none, some (.aload_n 0, 1, 0), some (.getfield 170, 3, 120), none, none, some (.iadd, 1, 0), some (.istore 4, 2, 0), none, some (.iload 4, 2, 0), none, some (.iload_n 3, 1, 0), some (.iconst 2, 1, 0), some (.if_icmp .eq 8, 3, 37), none, none, some (.iload_n 3, 1, 0), some (.iconst 5, 1, 0), some (.if_icmp .ne 30, 3, 64), none, none, some (.aload_n 0, 1, 0), some (.getfield 9, 3, 99), none, none, some (.bipush 56, 2, 0), none, some (.iload_n 2, 1, 0), some (.iadd, 1, 0), some (.iaload, 1, 0), some (.iload_n 1, 1, 0), some (.if_icmp .ne 17, 3, 64), none, none, some (.iconst 5, 1, 0), some (.aload_n 0, 1, 0), some (.getfield 9, 3, 99), none, none, some (.bipush 32, 2, 0), none, some (.iload_n 1, 1, 0), some (.iadd, 1, 0), some (.iaload, 1, 0), some (.imul, 1, 0), some (.goto 4, 3, 65), none, none, some (.iconst 0, 1, 0), some (.iadd, 1, 0), some (.istore 4, 2, 0), none, some (.iload 4, 2, 0), none, some (.iload_n 3, 1, 0), some (.iconst 3, 1, 0), some (.if_icmp .eq 9, 3, 81), none, none, some (.iload_n 3, 1, 0), some (.bipush 6, 2, 0), none, some (.if_icmp .ne 17, 3, 95), none, none, some (.aload_n 0, 1, 0), some (.getfield 9, 3, 99), none, none, some (.bipush 38, 2, 0), none, some (.iload_n 2, 1, 0), some (.iadd, 1, 0), some (.iaload, 1, 0), some (.iconst 2, 1, 0), some (.idiv, 1, 0), some (.goto 4, 3, 96), none, none, some (.iconst 0, 1, 0), some (.isub, 1, 0), some (.ireturn, 1, 0)]
def am_c160 : List (Option am_I) := [some (.aload_n 0, 1, 0), some (.iload_n 1, 1, 0), some (.invokevirtual 148, 3, 222), none, none, some (.ifCond .eq 20, 3, 25), none, none, some (.aload_n 0, 1, 0), some (.iload_n 2, 1, 0), some (.invokevirtual 152, 3, 223), none, none, some (.ifCond .eq 12, 3, 25), none, none, some (.aload_n 0, 1, 0), some (.iload_n 1, 1, 0), some (.iload_n 2, 1, 0), some (.invokevirtual 180, 3, 230), none, none, some (.goto 6, 3, 28), none, none, some (.sipush (-10001), 3, 0), none, none, some (.ireturn, 1, 0)]
def am_c161 : List (Option am_I) := [some (.iconst 0, 1, 0), some (.istore_n 1, 1, 0), some (.iload_n 1, 1, 0), some (.aload_n 0, 1, 0), some (.getfield 9, 3, 99), none, none, some (.bipush 19, 2, 0), none, some (.iaload, 1, 0), some (.if_icmp .ge 45, 3, 55), none, none, some (.iconst 0, 1, 0), some (.istore_n 2, 1, 0), some (.iload_n 2, 1, 0), some (.aload_n 0, 1, 0), some (.getfield 9, 3, 99), none, none, some (.bipush 20, 2, 0), none, some (.iaload, 1, 0), some (.if_icmp .ge 26, 3, 49), none, none, some (.aload_n 0, 1, 0), some (.getfield 28, 3, 104), none, none, some (.bipush 6, 2, 0), none, some (.iload_n 1, 1, 0), some (.imul, 1, 0), some (.iload_n 2, 1, 0), some (.iadd, 1, 0), some (.aload_n 0, 1, 0), some (.iload_n 1, 1, 0), some (.iload_n 2, 1, 0), some (.invokevirtual 180, 3, 230), none, none, some (.iastore, 1, 0), some (.iinc 2 1, 3, 0), none, none, some (.goto (-31), 3, 15), none, none, some (.iinc 1 1, 3, 0), none, none, some (.goto (-50), 3, 2), none, none, some (.return_, 1, 0)]
def am_c162 : List (Option am_I) := [some (.iconst 0, 1, 0), some (.istore_n 2, 1, 0), some (.iload_n 2, 1, 0), some (.aload_n 0, 1, 0), some (.getfield 9, 3, 99), none, none, some (.bipush 20, 2, 0), none, some (.iaload, 1, 0), some (.if_icmp .ge 111, 3, 121), none, none, some (.iconst 0, 1, 0), some (.istore_n 3, 1, 0), some (.iconst 0, 1, 0), some (.istore 4, 2, 0), none, some (.iload 4, 2, 0), none, some (.aload_n 0, 1, 0), some (.getfield 9, 3, 99), none, none, some (.bipush 20, 2, 0), none, some (.iaload, 1, 0), some (.if_icmp .ge 68, 3, 95), none, none, some (.aload_n 0, 1, 0), some (.getfield 28, 3, 104), none, none, some (.bipush 6, 2, 0), none, some (.iload_n 1, 1, 0), some (.imul, 1, 0), some (.iload 4, 2, 0), none, some (.iadd, 1, 0), some (.iaload, 1, 0), some (.aload_n 0, 1, 0), some (.getfield 28, 3, 104), none, none, some (.bipush 6, 2, 0), none, some (.iload_n 1, 1, 0), some (.imul, 1, 0), some (.iload_n 2, 1, 0), some (.iadd, 1, 0), some (.iaload, 1, 0), some (.isub, 1, 0), some (.istore 5, 2, 0), none, some (.iload_n 3, 1, 0), some (.aload_n 0, 1, 0), some (.iload 4, 2, 0), none, some (.invokevirtual 158, 3, 225), none, none, some (.ifCond .eq 23, 3, 86), none, none, some (.iload 5, 2, 0), none, some (.ifCond .gt 14, 3, 82), none, none, some (.iload 5, 2, 0), none, some (.ifCond .ne 13, 3, 86), none, none, some (.iload 4, 2, 0), none, some (.iload_n 2, 1, 0), some (.if_icmp .ge 7, 3, 86), none, none, some (.iconst 1, 1, 0), some (.goto 4, 3, 87), none, none, some (.iconst 0, 1, 0), some (.iadd, 1, 0), some (.istore_n 3, 1, 0), some (.iinc 4 1, 3, 0), none, none, some (.goto (-74), 3, 18), none, none, some (.aload_n 0, 1, 0), some (.iload_n 2, 1, 0), some (.invokevirtual 158, 3, 225), none, none, some (.ifCond .eq 15, 3, 115), none, none, some (.aload_n 0, 1, 0), some (.getfield 31, 3, 105), none, none, some (.bipush 6, 2, 0), none, some (.iload_n 1, 1, 0), some (.imul, 1, 0), some (.iload_n 3, 1, 0), some (.iadd, 1, 0), some (.iload_n 2, 1, 0), some (.iastore, 1, 0), some (.iinc 2 1, 3, 0), none, none, some (.goto (-116), 3, 2), none, none, some (.return_, 1, 0)]
def am_c163 : List (Option am_I) := [some (.iconst (-1), 1, 0), some (.istore_n 1, 1, 0), some (.iconst (-1), 1, 0), some (.istore_n 2, 1, 0), some (.iconst 0, 1, 0), some (.istore_n 3, 1, 0), some (.iload_n 3, 1, 0), some (.aload_n 0, 1, 0), some (.getfield 9, 3, 99), none, none, some (.bipush 20, 2, 0), none, some (.iaload, 1, 0), some (.if_icmp .ge 85, 3, 99), none, none, some (.iconst 0, 1, 0), some (.istore 4, 2, 0), none, some (.iconst 0, 1, 0), some (.istore 5, 2, 0), none, some (.iload 5, 2, 0), none, some (.aload_n 0, 1, 0), some (.getfield 9, 3, 99), none, none, some (.bipush 19, 2, 0), none, some (.iaload, 1, 0), some (.if_icmp .ge 42, 3, 74), none, none, some (.iload 4, 2, 0), none, some (.aload_n 0, 1, 0), some (.iload 5, 2, 0), none, some (.invokevirtual 155, 3, 224), none, none, some (.ifCond .eq 21, 3, 64), none, none, some (.aload_n 0, 1, 0), some (.getfield 31, 3, 105), none, none, some (.bipush 6, 2, 0), none, some (.iload 5, 2, 0), none, some (.imul, 1, 0), some (.iaload, 1, 0), some (.iload_n 3, 1, 0), some (.if_icmp .ne 7, 3, 64), none, none, some (.iconst 1, 1, 0), some (.goto 4, 3, 65), none, none, some (.iconst 0, 1, 0), some (.iadd, 1, 0), some (.istore 4, 2, 0), none, some (.iinc 5 1, 3, 0), none, none, some (.goto (-48), 3, 23), none, none, some (.aload_n 0, 1, 0), some (.iload_n 3, 1, 0), some (.invokevirtual 158, 3, 225), none, none, some (.ifCond .eq 14, 3, 93), none, none, some (.iload 4, 2, 0), none, some (.iload_n 2, 1, 0), some (.if_icmp .le 8, 3, 93), none, none, some (.iload_n 3, 1, 0), some (.istore_n 1, 1, 0), some (.iload 4, 2, 0), none, some (.istore_n 2, 1, 0), some (.iinc 3 1, 3, 0), none, none, some (.goto (-90), 3, 6), none, none, some (.iload_n 1, 1, 0), some (.ireturn, 1, 0)]
def am_c164 : List (Option am_I) := [some (.iconst 0, 1, 0), some (.istore 4, 2, 0), none, some (.iconst 0, 1, 0), some (.istore 5, 2, 0), none, some (.iload 5, 2, 0), none, some (.aload_n 0, 1, 0), some (.getfield 184, 3, 122), none, none, some (.if_icmp .ge 46, 3, 58), none, none, some (.aload_n 0, 1, 0), some (.getfield 31, 3, 105), none, none, some (.bipush 6, 2, 0), none, some (.iload_n 2, 1, 0), some (.imul, 1, 0), some (.iload 5, 2, 0), none, some (.iadd, 1, 0), some (.iaload, 1, 0), some (.istore 6, 2, 0), none, some (.iload 6, 2, 0), none, some (.iload_n 3, 1, 0), some (.if_icmp .eq 20, 3, 52), none, none, some (.aload_n 0, 1, 0), some (.getfield 34, 3, 106), none, none, some (.bipush 6, 2, 0), none, some (.iload_n 1, 1, 0), some (.imul, 1, 0), some (.iload 4, 2, 0), none, some (.iadd, 1, 0), some (.iload 6, 2, 0), none, some (.iastore, 1, 0), some (.iinc 4 1, 3, 0), none, none, some (.iinc 5 1, 3, 0), none, none, some (.goto (-49), 3, 6), none, none, some (.iload 4, 2, 0), none, some (.aload_n 0, 1, 0), some (.getfield 184, 3, 122), none, none, some (.if_icmp .ge 16, 3, 80), none, none, some (.aload_n 0, 1, 0), some (.getfield 34, 3, 106), none, none, some (.bipush 6, 2, 0), none, some (.iload_n 1, 1, 0), some (.imul, 1, 0), some (.iload 4, 2, 0), none, some (.iadd, 1, 0), some (.iload_n 3, 1, 0), some (.iastore, 1, 0), some (.aload_n 0, 1, 0), some (.getfield 37, 3, 107), none, none, some (.iload_n 1, 1, 0), some (.aload_n 0, 1, 0), some (.getfield 184, 3, 122), none, none, some (.iastore, 1, 0), some (.return_, 1, 0)]
def am_c165 : List (Option am_I) := [some (.aload_n 0, 1, 0), some (.getfield 9, 3, 99), none, none, some (.bipush 26, 2, 0), none, some (.iload_n 1, 1, 0), some (.iadd, 1, 0), some (.iaload, 1, 0), some (.bipush 6, 2, 0), none, some (.if_icmp .ne 28, 3, 39), none, none, some (.aload_n 0, 1, 0), some (.getfield 9, 3, 99), none, none, some (.iconst 0, 1, 0), some (.iaload, 1, 0), some (.aload_n 0, 1, 0), some (.getfield 9, 3, 99), none, none, some (.bipush 32, 2, 0), none, some (.iload_n 1, 1, 0), some (.iadd, 1, 0), some (.iaload, 1, 0), some (.iconst 2, 1, 0), some (.iadd, 1, 0), some (.irem, 1, 0), some (.ifCond .ne 7, 3, 39), none, none, some (.iconst 1, 1, 0), some (.goto 4, 3, 40), none, none, some (.iconst 0, 1, 0), some (.ireturn, 1, 0)]
def am_c166 : List (Option am_I) := [some (.aload_n 0, 1, 0), some (.getfield 9, 3, 99), none, none, some (.bipush 26, 2, 0), none, some (.iload_n 1, 1, 0), some (.iadd, 1, 0), some (.iaload, 1, 0), some (.istore_n 2, 1, 0), some (.aload_n 0, 1, 0), some (.getfield 9, 3, 99), none, none, some (.bipush 32, 2, 0), none, some (.iload_n 1, 1, 0), some (.iadd, 1, 0), some (.iaload, 1, 0), some (.istore_n 3, 1, 0), some (.aload_n 0, 1, 0), some (.getfield 184, 3, 122), none, none, some (.ifCond .eq 19, 3, 43), none, none, some (.aload_n 0, 1, 0), some (.iload_n 1, 1, 0), some (.invokevirtual 155, 3, 224), none, none, some (.ifCond .eq 11, 3, 43), none, none, some (.aload_n 0, 1, 0), some (.iload_n 1, 1, 0), some (.invokevirtual 187, 3, 231), none, none, some (.ifCond .eq 13, 3, 53), none, none, some (.aload_n 0, 1, 0), some (.getfield 37, 3, 107), none, none, some (.iload_n 1, 1, 0), some (.iconst 0, 1, 0), some (.iastore, 1, 0), some (.goto 116, 3, 166), none, none, some (.iload_n 2, 1, 0), some (.iconst 4, 1, 0), some (.if_icmp .ne 34, 3, 89), none, none, some (.iload_n 3, 1, 0), some (.iload_n 1, 1, 0), some (.if_icmp .eq 29, 3, 89), none, none, some (.aload_n 0, 1, 0), some (.iload_n 3, 1, 0), some (.invokevirtual 148, 3, 222), none, none, some (.ifCond .eq 21, 3, 89), none, none, some (.aload_n 0, 1, 0), some (.iload_n 3, 1, 0), some (.invokevirtual 155, 3, 224), none, none, some (.ifCond .eq 13, 3, 89), none, none, some (.aload_n 0, 1, 0), some (.iload_n 1, 1, 0), some (.iload_n 3, 1, 0), some (.iconst (-1), 1, 0), some (.invokevirtual 190, 3, 232), none, none, some (.goto 80, 3, 166), none, none, some (.iload_n 2, 1, 0), some (.iconst 1, 1, 0), some (.if_icmp .eq 8, 3, 99), none, none, some (.iload_n 2, 1, 0), some (.iconst 4, 1, 0), some (.if_icmp .ne 38, 3, 134), none, none, some (.aload_n 0, 1, 0), some (.invokevirtual 194, 3, 233), none, none, some (.istore 4, 2, 0), none, some (.aload_n 0, 1, 0), some (.iload_n 1, 1, 0), some (.iload_n 1, 1, 0), some (.aload_n 0, 1, 0), some (.getfield 31, 3, 105), none, none, some (.bipush 6, 2, 0), none, some (.iload_n 1, 1, 0), some (.imul, 1, 0), some (.iaload, 1, 0), some (.iload 4, 2, 0), none, some (.if_icmp .ne 7, 3, 126), none, none, some (.iconst (-1), 1, 0), some (.goto 5, 3, 128), none, none, some (.iload 4, 2, 0), none, some (.invokevirtual 190, 3, 232), none, none, some (.goto 35, 3, 166), none, none, some (.aload_n 0, 1, 0), some (.iload_n 1, 1, 0), some (.iload_n 1, 1, 0), some (.iload_n 2, 1, 0), some (.iconst 5, 1, 0), some (.if_icmp .ne 23, 3, 162), none, none, some (.aload_n 0, 1, 0), some (.iload_n 3, 1, 0), some (.invokevirtual 152, 3, 223), none, none, some (.ifCond .eq 15, 3, 162), none, none, some (.aload_n 0, 1, 0), some (.iload_n 3, 1, 0), some (.invokevirtual 158, 3, 225), none, none, some (.ifCond .eq 7, 3, 162), none, none, some (.iload_n 3, 1, 0), some (.goto 4, 3, 163), none, none, some (.iconst (-1), 1, 0), some (.invokevirtual 190, 3, 232), none, none, some (.return_, 1, 0)]
def am_c167 : List (Option am_I) := [some (.aload_n 0, 1, 0), some (.aload_n 0, 1, 0), some (.invokevirtual 167, 3, 228), none, none, some (.invokestatic 197, 3, 234), none, none, some (.putfield 184, 3, 122), none, none, some (.iconst 0, 1, 0), some (.istore_n 1, 1, 0), some (.iload_n 1, 1, 0), some (.aload_n 0, 1, 0), some (.getfield 9, 3, 99), none, none, some (.bipush 19, 2, 0), none, some (.iaload, 1, 0), some (.if_icmp .ge 14, 3, 35), none, none, some (.aload_n 0, 1, 0), some (.iload_n 1, 1, 0), some (.invokevirtual 201, 3, 235), none, none, some (.iinc 1 1, 3, 0), none, none, some (.goto (-19), 3, 13), none, none, some (.iconst 0, 1, 0), some (.istore_n 1, 1, 0), some (.iload_n 1, 1, 0), some (.aload_n 0, 1, 0), some (.getfield 9, 3, 99), none, none, some (.bipush 19, 2, 0), none, some (.iaload, 1, 0), some (.if_icmp .ge 14, 3, 59), none, none, some (.aload_n 0, 1, 0), some (.iload_n 1, 1, 0), some (.invokevirtual 204, 3, 236), none, none, some (.iinc 1 1, 3, 0), none, none, some (.goto (-19), 3, 37), none, none, some (.return_, 1, 0)]
def am_c168 : List (Option am_I) := [some (.aload_n 0, 1, 0), some (.iload_n 1, 1, 0), some (.invokevirtual 148, 3, 222), none, none, some (.ifCond .eq 21, 3, 26), none, none, some (.iload_n 2, 1, 0), some (.iconst 0, 1, 0), some (.iconst 1, 1, 0), some (.invokestatic 66, 3, 207), none, none, some (.ifCond .eq 12, 3, 26), none, none, some (.iload_n 3, 1, 0), some (.iconst 0, 1, 0), some (.iconst 5, 1, 0), some (.invokestatic 66, 3, 207), none, none, some (.ifCond .ne 5, 3, 28), none, none, some (.iconst (-1), 1, 0), some (.ireturn, 1, 0), some (.aload_n 0, 1, 0), some (.invokevirtual 207, 3, 237), none, none, some (.aload_n 0, 1, 0), some (.invokevirtual 210, 3, 238), none, none, some (.iload_n 2, 1, 0), some (.ifCond .ne 28, 3, 65), none, none, some (.iload_n 3, 1, 0), some (.aload_n 0, 1, 0), some (.getfield 184, 3, 122), none, none, some (.if_icmp .ge 17, 3, 62), none, none, some (.aload_n 0, 1, 0), some (.getfield 31, 3, 105), none, none, some (.bipush 6, 2, 0), none, some (.iload_n 1, 1, 0), some (.imul, 1, 0), some (.iload_n 3, 1, 0), some (.iadd, 1, 0), some (.iaload, 1, 0), some (.goto 5, 3, 64), none, none, some (.bipush (-5), 2, 0), none, some (.ireturn, 1, 0), some (.iload_n 3, 1, 0), some (.aload_n 0, 1, 0), some (.getfield 37, 3, 107), none, none, some (.iload_n 1, 1, 0), some (.iaload, 1, 0), some (.if_icmp .ge 17, 3, 89), none, none, some (.aload_n 0, 1, 0), some (.getfield 34, 3, 106), none, none, some (.bipush 6, 2, 0), none, some (.iload_n 1, 1, 0), some (.imul, 1, 0), some (.iload_n 3, 1, 0), some (.iadd, 1, 0), some (.iaload, 1, 0), some (.goto 5, 3, 91), none, none, some (.bipush (-5), 2, 0), none, some (.ireturn, 1, 0)]
def am_c169 : List (Option am_I) := [some (.iconst 0, 1, 0), some (.istore_n 2, 1, 0), some (.iload_n 2, 1, 0), some (.aload_n 0, 1, 0), some (.getfield 9, 3, 99), none, none, some (.bipush 19, 2, 0), none, some (.iaload, 1, 0), some (.if_icmp .ge 102, 3, 112), none, none, some (.aload_n 0, 1, 0), some (.getfield 43, 3, 109), none, none, some (.iload_n 2, 1, 0), some (.iload_n 1, 1, 0), some (.ifCond .eq 22, 3, 41), none, none, some (.aload_n 0, 1, 0), some (.iload_n 2, 1, 0), some (.invokevirtual 155, 3, 224), none, none, some (.ifCond .eq 10, 3, 37), none, none, some (.aload_n 0, 1, 0), some (.getfield 184, 3, 122), none, none, some (.goto 13, 3, 47), none, none, some (.iconst 0, 1, 0), some (.goto 9, 3, 47), none, none, some (.aload_n 0, 1, 0), some (.getfield 37, 3, 107), none, none, some (.iload_n 2, 1, 0), some (.iaload, 1, 0), some (.iastore, 1, 0), some (.iconst 0, 1, 0), some (.istore_n 3, 1, 0), some (.iload_n 3, 1, 0), some (.aload_n 0, 1, 0), some (.getfield 43, 3, 109), none, none, some (.iload_n 2, 1, 0), some (.iaload, 1, 0), some (.if_icmp .ge 49, 3, 106), none, none, some (.aload_n 0, 1, 0), some (.getfield 40, 3, 108), none, none, some (.bipush 6, 2, 0), none, some (.iload_n 2, 1, 0), some (.imul, 1, 0), some (.iload_n 3, 1, 0), some (.iadd, 1, 0), some (.iload_n 1, 1, 0), some (.ifCond .eq 17, 3, 88), none, none, some (.aload_n 0, 1, 0), some (.getfield 31, 3, 105), none, none, some (.bipush 6, 2, 0), none, some (.iload_n 2, 1, 0), some (.imul, 1, 0), some (.iload_n 3, 1, 0), some (.iadd, 1, 0), some (.iaload, 1, 0), some (.goto 14, 3, 99), none, none, some (.aload_n 0, 1, 0), some (.getfield 34, 3, 106), none, none, some (.bipush 6, 2, 0), none, some (.iload_n 2, 1, 0), some (.imul, 1, 0), some (.iload_n 3, 1, 0), some (.iadd, 1, 0), some (.iaload, 1, 0), some (.iastore, 1, 0), some (.iinc 3 1, 3, 0), none, none, some (.goto (-53), 3, 50), none, none, some (.iinc 2 1, 3, 0), none, none, some (.goto (-107), 3, 2), none, none, some (.return_, 1, 0)]
def am_c170 : List (Option am_I) := [some (.iconst 0, 1, 0), some (.istore_n 3, 1, 0), some (.iload_n 3, 1, 0), some (.aload_n 0, 1, 0), some (.getfield 43, 3, 109), none, none, some (.iload_n 1, 1, 0), some (.iaload, 1, 0), some (.if_icmp .ge 26, 3, 35), none, none, some (.aload_n 0, 1, 0), some (.getfield 40, 3, 108), none, none, some (.bipush 6, 2, 0), none, some (.iload_n 1, 1, 0), some (.imul, 1, 0), some (.iload_n 3, 1, 0), some (.iadd, 1, 0), some (.iaload, 1, 0), some (.iload_n 2, 1, 0), some (.if_icmp .ne 5, 3, 29), none, none, some (.iload_n 3, 1, 0), some (.ireturn, 1, 0), some (.iinc 3 1, 3, 0), none, none, some (.goto (-30), 3, 2), none, none, some (.bipush 6, 2, 0), none, some (.ireturn, 1, 0)]
def am_c171 : List (Option am_I) := [some (.iconst 0, 1, 0), some (.istore_n 3, 1, 0), some (.iconst 0, 1, 0), some (.istore 4, 2, 0), none, some (.iload 4, 2, 0), none, some (.aload_n 0, 1, 0), some (.getfield 9, 3, 99), none, none, some (.bipush 19, 2, 0), none, some (.iaload, 1, 0), some (.if_icmp .ge 91, 3, 105), none, none, some (.aload_n 0, 1, 0), some (.getfield 43, 3, 109), none, none, some (.iload 4, 2, 0), none, some (.iaload, 1, 0), some (.ifCond .ne 8, 3, 32), none, none, some (.bipush 6, 2, 0), none, some (.goto 10, 3, 39), none, none, some (.aload_n 0, 1, 0), some (.iload 4, 2, 0), none, some (.iload_n 1, 1, 0), some (.invokevirtual 213, 3, 239), none, none, some (.istore 5, 2, 0), none, some (.iload 5, 2, 0), none, some (.bipush 6, 2, 0), none, some (.if_icmp .ge 54, 3, 99), none, none, some (.iload_n 3, 1, 0), some (.iload_n 2, 1, 0), some (.ifCond .ne 17, 3, 67), none, none, some (.iload 5, 2, 0), none, some (.iconst 2, 1, 0), some (.if_icmp .ge 7, 3, 63), none, none, some (.iconst 1, 1, 0), some (.goto 37, 3, 97), none, none, some (.iconst 0, 1, 0), some (.goto 33, 3, 97), none, none, some (.iload_n 2, 1, 0), some (.iconst 1, 1, 0), some (.if_icmp .ne 18, 3, 87), none, none, some (.aload_n 0, 1, 0), some (.getfield 43, 3, 109), none, none, some (.iload 4, 2, 0), none, some (.iaload, 1, 0), some (.iconst 1, 1, 0), some (.isub, 1, 0), some (.iload 5, 2, 0), none, some (.isub, 1, 0), some (.goto 13, 3, 97), none, none, some (.iload 5, 2, 0), none, some (.ifCond .ne 7, 3, 96), none, none, some (.iconst 1, 1, 0), some (.goto 4, 3, 97), none, none, some (.iconst 0, 1, 0), some (.iadd, 1, 0), some (.istore_n 3, 1, 0), some (.iinc 4 1, 3, 0), none, none, some (.goto (-97), 3, 5), none, none, some (.iload_n 3, 1, 0), some (.ireturn, 1, 0)]
def am_c172 : List (Option am_I) := [some (.iconst (-1), 1, 0), some (.istore_n 3, 1, 0), some (.iconst (-1), 1, 0), some (.istore 4, 2, 0), none, some (.iconst 0, 1, 0), some (.istore 5, 2, 0), none, some (.iload 5, 2, 0), none, some (.aload_n 0, 1, 0), some (.getfield 9, 3, 99), none, none, some (.bipush 20, 2, 0), none, some (.iaload, 1, 0), some (.if_icmp .ge 47, 3, 64), none, none, some (.aload_n 0, 1, 0), some (.iload 5, 2, 0), none, some (.iload_n 1, 1, 0), some (.invokevirtual 216, 3, 240), none, none, some (.istore 6, 2, 0), none, some (.aload_n 0, 1, 0), some (.iload 5, 2, 0), none, some (.invokevirtual 158, 3, 225), none, none, some (.ifCond .eq 23, 3, 58), none, none, some (.iload 5, 2, 0), none, some (.iload_n 2, 1, 0), some (.if_icmp .eq 17, 3, 58), none, none, some (.iload 6, 2, 0), none, some (.iload 4, 2, 0), none, some (.if_icmp .le 10, 3, 58), none, none, some (.iload 5, 2, 0), none, some (.istore_n 3, 1, 0), some (.iload 6, 2, 0), none, some (.istore 4, 2, 0), none, some (.iinc 5 1, 3, 0), none, none, some (.goto (-53), 3, 8), none, none, some (.iload_n 3, 1, 0), some (.ireturn, 1, 0)]
def am_c173 : List (Option am_I) := [some (.iconst 0, 1, 0), some (.istore_n 3, 1, 0), some (.iconst 0, 1, 0), some (.istore 4, 2, 0), none, some (.iload 4, 2, 0), none, some (.aload_n 0, 1, 0), some (.getfield 9, 3, 99), none, none, some (.bipush 19, 2, 0), none, some (.iaload, 1, 0), some (.if_icmp .ge 44, 3, 58), none, none, some (.aload_n 0, 1, 0), some (.getfield 43, 3, 109), none, none, some (.iload 4, 2, 0), none, some (.iaload, 1, 0), some (.ifCond .le 28, 3, 52), none, none, some (.iload_n 3, 1, 0), some (.aload_n 0, 1, 0), some (.iload 4, 2, 0), none, some (.iload_n 1, 1, 0), some (.invokevirtual 213, 3, 239), none, none, some (.aload_n 0, 1, 0), some (.iload 4, 2, 0), none, some (.iload_n 2, 1, 0), some (.invokevirtual 213, 3, 239), none, none, some (.if_icmp .ge 7, 3, 49), none, none, some (.iconst 1, 1, 0), some (.goto 4, 3, 50), none, none, some (.iconst (-1), 1, 0), some (.iadd, 1, 0), some (.istore_n 3, 1, 0), some (.iinc 4 1, 3, 0), none, none, some (.goto (-50), 3, 5), none, none, some (.iload_n 3, 1, 0), some (.ireturn, 1, 0)]
def am_c174 : List (Option am_I) := [some (.aload_n 0, 1, 0), some (.iconst 2, 1, 0), some (.iconst (-1), 1, 0), some (.invokevirtual 219, 3, 241), none, none, some (.istore_n 1, 1, 0), some (.aload_n 0, 1, 0), some (.iconst 2, 1, 0), some (.iload_n 1, 1, 0), some (.invokevirtual 219, 3, 241), none, none, some (.istore_n 2, 1, 0), some (.iload_n 2, 1, 0), some (.iconst (-1), 1, 0), some (.if_icmp .ne 5, 3, 21), none, none, some (.iload_n 1, 1, 0), some (.ireturn, 1, 0), some (.aload_n 0, 1, 0), some (.iload_n 1, 1, 0), some (.iload_n 2, 1, 0), some (.invokevirtual 222, 3, 242), none, none, some (.istore_n 3, 1, 0), some (.iload_n 3, 1, 0), some (.ifCond .gt 12, 3, 41), none, none, some (.iload_n 3, 1, 0), some (.ifCond .ne 12, 3, 45), none, none, some (.iload_n 1, 1, 0), some (.iload_n 2, 1, 0), some (.if_icmp .ge 7, 3, 45), none, none, some (.iload_n 1, 1, 0), some (.goto 4, 3, 46), none, none, some (.iload_n 2, 1, 0), some (.ireturn, 1, 0)]
def am_c175 : List (Option am_I) := [some (.iconst 0, 1, 0), some (.istore_n 1, 1, 0), some (.iload_n 1, 1, 0), some (.aload_n 0, 1, 0), some (.getfield 9, 3, 99), none, none, some (.bipush 20, 2, 0), none, some (.iaload, 1, 0), some (.if_icmp .ge 72, 3, 82), none, none, some (.aload_n 0, 1, 0), some (.iload_n 1, 1, 0), some (.invokevirtual 158, 3, 225), none, none, some (.istore_n 2, 1, 0), some (.iconst 0, 1, 0), some (.istore_n 3, 1, 0), some (.iload_n 3, 1, 0), some (.aload_n 0, 1, 0), some (.getfield 9, 3, 99), none, none, some (.bipush 20, 2, 0), none, some (.iaload, 1, 0), some (.if_icmp .ge 41, 3, 70), none, none, some (.iload_n 2, 1, 0), some (.ifCond .eq 29, 3, 62), none, none, some (.iload_n 3, 1, 0), some (.iload_n 1, 1, 0), some (.if_icmp .eq 20, 3, 58), none, none, some (.aload_n 0, 1, 0), some (.iload_n 3, 1, 0), some (.invokevirtual 158, 3, 225), none, none, some (.ifCond .eq 12, 3, 58), none, none, some (.aload_n 0, 1, 0), some (.iload_n 1, 1, 0), some (.iload_n 3, 1, 0), some (.invokevirtual 222, 3, 242), none, none, some (.ifCond .le 7, 3, 62), none, none, some (.iconst 1, 1, 0), some (.goto 4, 3, 63), none, none, some (.iconst 0, 1, 0), some (.istore_n 2, 1, 0), some (.iinc 3 1, 3, 0), none, none, some (.goto (-46), 3, 21), none, none, some (.iload_n 2, 1, 0), some (.ifCond .eq 5, 3, 76), none, none, some (.iload_n 1, 1, 0), some (.ireturn, 1, 0), some (.iinc 1 1, 3, 0), none, none, some (.goto (-77), 3, 2), none, none, some (.aload_n 0, 1, 0), some (.iconst 1, 1, 0), some (.iconst (-1), 1, 0), some (.invokevirtual 219, 3, 241), none, none, some (.ireturn, 1, 0)]
def am_c176 : List (Option am_I) := [some (.aload_n 0, 1, 0), some (.invokevirtual 164, 3, 227), none, none, some (.invokestatic 197, 3, 234), none, none, some (.istore_n 1, 1, 0), some (.iconst 0, 1, 0), some (.istore_n 2, 1, 0), some (.iconst 0, 1, 0), some (.istore_n 3, 1, 0), some (.iload_n 3, 1, 0), some (.aload_n 0, 1, 0), some (.getfield 9, 3, 99), none, none, some (.bipush 19, 2, 0), none, some (.iaload, 1, 0), some (.if_icmp .ge 63, 3, 83), none, none, some (.aload_n 0, 1, 0), some (.iload_n 3, 1, 0), some (.invokevirtual 155, 3, 224), none, none, some (.ifCond .eq 49, 3, 77), none, none, some (.iload_n 2, 1, 0), some (.aload_n 0, 1, 0), some (.getfield 9, 3, 99), none, none, some (.iconst 0, 1, 0), some (.iaload, 1, 0), some (.iload_n 1, 1, 0), some (.irem, 1, 0), some (.if_icmp .ne 34, 3, 74), none, none, some (.aload_n 0, 1, 0), some (.getfield 43, 3, 109), none, none, some (.iload_n 3, 1, 0), some (.iaload, 1, 0), some (.ifCond .le 15, 3, 64), none, none, some (.aload_n 0, 1, 0), some (.getfield 40, 3, 108), none, none, some (.bipush 6, 2, 0), none, some (.iload_n 3, 1, 0), some (.imul, 1, 0), some (.iaload, 1, 0), some (.goto 12, 3, 73), none, none, some (.aload_n 0, 1, 0), some (.getfield 31, 3, 105), none, none, some (.bipush 6, 2, 0), none, some (.iload_n 3, 1, 0), some (.imul, 1, 0), some (.iaload, 1, 0), some (.ireturn, 1, 0), some (.iinc 2 1, 3, 0), none, none, some (.iinc 3 1, 3, 0), none, none, some (.goto (-68), 3, 12), none, none, some (.aload_n 0, 1, 0), some (.iconst 2, 1, 0), some (.iconst (-1), 1, 0), some (.invokevirtual 219, 3, 241), none, none, some (.ireturn, 1, 0)]
def am_c177 : List (Option am_I) := [some (.aload_n 0, 1, 0), some (.getfield 184, 3, 122), none, none, some (.ifCond .ne 6, 3, 10), none, none, some (.bipush (-5), 2, 0), none, some (.ireturn, 1, 0), some (.iload_n 1, 1, 0), some (.tableswitch 40 3 5 #[25, 30, 35], 25, 0), none, none, none, none, none, none, none, none, none, none, none, none, none, none, none, none, none, none, none, none, none, none, none, none, some (.aload_n 0, 1, 0), some (.invokevirtual 225, 3, 243), none, none, some (.ireturn, 1, 0), some (.aload_n 0, 1, 0), some (.invokevirtual 228, 3, 244), none, none, some (.ireturn, 1, 0), some (.aload_n 0, 1, 0), some (.invokevirtual 231, 3, 245), none, none, some (.ireturn, 1, 0), some (.aload_n 0, 1, 0), some (.iload_n 1, 1, 0), some (.iconst (-1), 1, 0), some (.invokevirtual 219, 3, 241), none, none, some (.ireturn, 1, 0)]
def am_c178 : List (Option am_I) := [some (.aload_n 0, 1, 0), some (.invokevirtual 210, 3, 238), none, none, some (.aload_n 0, 1, 0), some (.iload_n 2, 1, 0), some (.invokevirtual 234, 3, 246), none, none, some (.aload_n 0, 1, 0), some (.iload_n 1, 1, 0), some (.invokevirtual 238, 3, 247), none, none, some (.ireturn, 1, 0)]
def am_c179 : List (Option am_I) := [some (.iload_n 1, 1, 0), some (.invokestatic 241, 3, 248), none, none, some (.ifCond .eq 12, 3, 16), none, none, some (.iload_n 2, 1, 0), some (.iconst 0, 1, 0), some (.iconst 1, 1, 0), some (.invokestatic 66, 3, 207), none, none, some (.ifCond .ne 5, 3, 18), none, none, some (.iconst (-1), 1, 0), some (.ireturn, 1, 0), some (.aload_n 0, 1, 0), some (.invokevirtual 207, 3, 237), none, none, some (.aload_n 0, 1, 0), some (.iload_n 1, 1, 0), some (.iload_n 2, 1, 0), some (.iconst 1, 1, 0), some (.if_icmp .ne 7, 3, 33), none, none, some (.iconst 1, 1, 0), some (.goto 4, 3, 34), none, none, some (.iconst 0, 1, 0), some (.invokevirtual 244, 3, 249), none, none, some (.ireturn, 1, 0)]
def am_c180 : List (Option am_I) := [some (.iload_n 2, 1, 0), some (.aload_n 0, 1, 0), some (.getfield 184, 3, 122), none, none, some (.if_icmp .ne 105, 3, 110), none, none, some (.aload_n 0, 1, 0), some (.getfield 43, 3, 109), none, none, some (.iload_n 1, 1, 0), some (.aload_n 0, 1, 0), some (.getfield 184, 3, 122), none, none, some (.iastore, 1, 0), some (.aload_n 0, 1, 0), some (.iload 4, 2, 0), none, some (.invokevirtual 238, 3, 247), none, none, some (.istore 6, 2, 0), none, some (.aload_n 0, 1, 0), some (.aload_n 0, 1, 0), some (.getfield 248, 3, 123), none, none, some (.ifCond .ne 10, 3, 41), none, none, some (.iload 6, 2, 0), none, some (.iload 5, 2, 0), none, some (.if_icmp .eq 7, 3, 45), none, none, some (.iconst 1, 1, 0), some (.goto 4, 3, 46), none, none, some (.iconst 0, 1, 0), some (.putfield 248, 3, 123), none, none, some (.aload_n 0, 1, 0), some (.getfield 251, 3, 124), none, none, some (.bipush (-5), 2, 0), none, some (.if_icmp .ne 36, 3, 91), none, none, some (.aload_n 0, 1, 0), some (.getfield 28, 3, 104), none, none, some (.bipush 6, 2, 0), none, some (.iload_n 1, 1, 0), some (.imul, 1, 0), some (.iload 6, 2, 0), none, some (.iadd, 1, 0), some (.iaload, 1, 0), some (.aload_n 0, 1, 0), some (.getfield 28, 3, 104), none, none, some (.bipush 6, 2, 0), none, some (.iload_n 1, 1, 0), some (.imul, 1, 0), some (.iload 5, 2, 0), none, some (.iadd, 1, 0), some (.iaload, 1, 0), some (.if_icmp .le 9, 3, 91), none, none, some (.aload_n 0, 1, 0), some (.iload 6, 2, 0), none, some (.putfield 251, 3, 124), none, none, some (.aload_n 0, 1, 0), some (.aload_n 0, 1, 0), some (.getfield 251, 3, 124), none, none, some (.bipush (-5), 2, 0), none, some (.if_icmp .eq 7, 3, 105), none, none, some (.iconst 1, 1, 0), some (.goto 4, 3, 106), none, none, some (.iconst 0, 1, 0), some (.putfield 254, 3, 125), none, none, some (.return_, 1, 0), some (.iconst 0, 1, 0), some (.istore 6, 2, 0), none, some (.iload 6, 2, 0), none, some (.aload_n 0, 1, 0), some (.getfield 9, 3, 99), none, none, some (.bipush 20, 2, 0), none, some (.iaload, 1, 0), some (.if_icmp .ge 65, 3, 187), none, none, some (.aload_n 0, 1, 0), some (.getfield 254, 3, 125), none, none, some (.ifCond .ne 58, 3, 187), none, none, some (.aload_n 0, 1, 0), some (.iload 6, 2, 0), none, some (.invokevirtual 158, 3, 225), none, none, some (.ifCond .eq 43, 3, 181), none, none, some (.iload_n 3, 1, 0), some (.iload 6, 2, 0), none, some (.ishr, 1, 0), some (.iconst 1, 1, 0), some (.iand, 1, 0), some (.ifCond .ne 34, 3, 181), none, none, some (.aload_n 0, 1, 0), some (.getfield 40, 3, 108), none, none, some (.bipush 6, 2, 0), none, some (.iload_n 1, 1, 0), some (.imul, 1, 0), some (.iload_n 2, 1, 0), some (.iadd, 1, 0), some (.iload 6, 2, 0), none, some (.iastore, 1, 0), some (.aload_n 0, 1, 0), some (.iload_n 1, 1, 0), some (.iload_n 2, 1, 0), some (.iconst 1, 1, 0), some (.iadd, 1, 0), some (.iload_n 3, 1, 0), some (.iconst 1, 1, 0), some (.iload 6, 2, 0), none, some (.ishl, 1, 0), some (.ior, 1, 0), some (.iload 4, 2, 0), none, some (.iload 5, 2, 0), none, some (.invokevirtual 257, 3, 250), none, none, some (.iinc 6 1, 3, 0), none, none, some (.goto (-71), 3, 113), none, none, some (.return_, 1, 0)]
def am_c181 : List (Option am_I) := [some (.aload_n 0, 1, 0), some (.iload_n 2, 1, 0), some (.iconst 0, 1, 0), some (.invokevirtual 244, 3, 249), none, none, some (.istore_n 3, 1, 0), some (.aload_n 0, 1, 0), some (.iconst 0, 1, 0), some (.putfield 254, 3, 125), none, none, some (.aload_n 0, 1, 0), some (.iconst 0, 1, 0), some (.putfield 248, 3, 123), none, none, some (.aload_n 0, 1, 0), some (.bipush (-5), 2, 0), none, some (.putfield 251, 3, 124), none, none, some (.aload_n 0, 1, 0), some (.getfield 184, 3, 122), none, none, some (.ifCond .le 12, 3, 39), none, none, some (.aload_n 0, 1, 0), some (.iload_n 1, 1, 0), some (.iconst 0, 1, 0), some (.iconst 0, 1, 0), some (.iload_n 2, 1, 0), some (.iload_n 3, 1, 0), some (.invokevirtual 257, 3, 250), none, none, some (.aload_n 0, 1, 0), some (.aload_n 0, 1, 0), some (.getfield 248, 3, 123), none, none, some (.ifCond .ne 12, 3, 56), none, none, some (.aload_n 0, 1, 0), some (.getfield 251, 3, 124), none, none, some (.bipush (-5), 2, 0), none, some (.if_icmp .eq 7, 3, 60), none, none, some (.iconst 1, 1, 0), some (.goto 4, 3, 61), none, none, some (.iconst 0, 1, 0), some (.putfield 248, 3, 123), none, none, some (.return_, 1, 0)]
def am_c182 : List (Option am_I) := [some (.iload_n 1, 1, 0), some (.invokestatic 241, 3, 248), none, none, some (.ifCond .ne 5, 3, 9), none, none, some (.iconst (-1), 1, 0), some (.ireturn, 1, 0), some (.aload_n 0, 1, 0), some (.invokevirtual 167, 3, 228), none, none, some (.invokestatic 197, 3, 234), none, none, some (.iconst 5, 1, 0), some (.if_icmp .le 6, 3, 23), none, none, some (.bipush (-9), 2, 0), none, some (.ireturn, 1, 0), some (.aload_n 0, 1, 0), some (.invokevirtual 207, 3, 237), none, none, some (.iconst 0, 1, 0), some (.istore_n 2, 1, 0), some (.iconst 0, 1, 0), some (.istore_n 3, 1, 0), some (.iload_n 3, 1, 0), some (.aload_n 0, 1, 0), some (.getfield 9, 3, 99), none, none, some (.bipush 19, 2, 0), none, some (.iaload, 1, 0), some (.if_icmp .ge 40, 3, 79), none, none, some (.aload_n 0, 1, 0), some (.iload_n 3, 1, 0), some (.invokevirtual 155, 3, 224), none, none, some (.ifCond .eq 26, 3, 73), none, none, some (.aload_n 0, 1, 0), some (.iload_n 3, 1, 0), some (.iload_n 1, 1, 0), some (.invokevirtual 261, 3, 251), none, none, some (.iload_n 2, 1, 0), some (.aload_n 0, 1, 0), some (.getfield 248, 3, 123), none, none, some (.ifCond .eq 9, 3, 70), none, none, some (.iconst 1, 1, 0), some (.iload_n 3, 1, 0), some (.ishl, 1, 0), some (.goto 4, 3, 71), none, none, some (.iconst 0, 1, 0), some (.ior, 1, 0), some (.istore_n 2, 1, 0), some (.iinc 3 1, 3, 0), none, none, some (.goto (-45), 3, 31), none, none, some (.iload_n 2, 1, 0), some (.ireturn, 1, 0)]
def am_c183 : List (Option am_I) := [some (.aload_n 0, 1, 0), some (.iload_n 1, 1, 0), some (.invokevirtual 148, 3, 222), none, none, some (.ifCond .eq 10, 3, 15), none, none, some (.iload_n 2, 1, 0), some (.invokestatic 241, 3, 248), none, none, some (.ifCond .ne 5, 3, 17), none, none, some (.iconst (-1), 1, 0), some (.ireturn, 1, 0), some (.aload_n 0, 1, 0), some (.iload_n 1, 1, 0), some (.invokevirtual 155, 3, 224), none, none, some (.ifCond .ne 6, 3, 28), none, none, some (.bipush (-3), 2, 0), none, some (.ireturn, 1, 0), some (.aload_n 0, 1, 0), some (.invokevirtual 167, 3, 228), none, none, some (.invokestatic 197, 3, 234), none, none, some (.iconst 5, 1, 0), some (.if_icmp .le 6, 3, 42), none, none, some (.bipush (-9), 2, 0), none, some (.ireturn, 1, 0), some (.aload_n 0, 1, 0), some (.invokevirtual 207, 3, 237), none, none, some (.aload_n 0, 1, 0), some (.iload_n 1, 1, 0), some (.iload_n 2, 1, 0), some (.invokevirtual 261, 3, 251), none, none, some (.aload_n 0, 1, 0), some (.getfield 251, 3, 124), none, none, some (.ireturn, 1, 0)]
def am_c184 : List (Option am_I) := [some (.aload_n 0, 1, 0), some (.iload_n 1, 1, 0), some (.iload_n 2, 1, 0), some (.invokevirtual 180, 3, 230), none, none, some (.istore_n 3, 1, 0), some (.iconst 3, 1, 0), some (.iload_n 3, 1, 0), some (.bipush 20, 2, 0), none, some (.idiv, 1, 0), some (.iadd, 1, 0), some (.aload_n 0, 1, 0), some (.getfield 173, 3, 121), none, none, some (.iadd, 1, 0), some (.istore 4, 2, 0), none, some (.aload_n 0, 1, 0), some (.getfield 9, 3, 99), none, none, some (.bipush 26, 2, 0), none, some (.iload_n 1, 1, 0), some (.iadd, 1, 0), some (.iaload, 1, 0), some (.bipush 6, 2, 0), none, some (.if_icmp .ne 10, 3, 41), none, none, some (.iload 4, 2, 0), none, some (.iconst 2, 1, 0), some (.idiv, 1, 0), some (.goto 5, 3, 43), none, none, some (.iload 4, 2, 0), none, some (.istore 4, 2, 0), none, some (.iload 4, 2, 0), none, some (.ifCond .ge 7, 3, 54), none, none, some (.iconst 0, 1, 0), some (.goto 17, 3, 68), none, none, some (.iload 4, 2, 0), none, some (.bipush 10, 2, 0), none, some (.if_icmp .le 8, 3, 66), none, none, some (.bipush 10, 2, 0), none, some (.goto 5, 3, 68), none, none, some (.iload 4, 2, 0), none, some (.istore 4, 2, 0), none, some (.aload_n 0, 1, 0), some (.getfield 9, 3, 99), none, none, some (.bipush 56, 2, 0), none, some (.iload_n 2, 1, 0), some (.iadd, 1, 0), some (.iaload, 1, 0), some (.iload_n 1, 1, 0), some (.if_icmp .ne 8, 3, 88), none, none, some (.bipush 10, 2, 0), none, some (.goto 5, 3, 90), none, none, some (.iload 4, 2, 0), none, some (.ireturn, 1, 0)]
def am_c185 : List (Option am_I) := [some (.aload_n 0, 1, 0), some (.iload_n 1, 1, 0), some (.invokevirtual 148, 3, 222), none, none, some (.ifCond .eq 20, 3, 25), none, none, some (.aload_n 0, 1, 0), some (.iload_n 2, 1, 0), some (.invokevirtual 152, 3, 223), none, none, some (.ifCond .eq 12, 3, 25), none, none, some (.aload_n 0, 1, 0), some (.iload_n 1, 1, 0), some (.iload_n 2, 1, 0), some (.invokevirtual 264, 3, 252), none, none, some (.goto 4, 3, 26), none, none, some (.iconst (-1), 1, 0), some (.ireturn, 1, 0)]
def am_c186 : List (Option am_I) := [some (.aload_n 0, 1, 0), some (.iload_n 1, 1, 0), some (.invokevirtual 187, 3, 231), none, none, some (.ifCond .ne 20, 3, 25), none, none, some (.aload_n 0, 1, 0), some (.iload_n 1, 1, 0), some (.iload_n 2, 1, 0), some (.invokevirtual 264, 3, 252), none, none, some (.aload_n 0, 1, 0), some (.invokevirtual 161, 3, 226), none, none, some (.if_icmp .lt 7, 3, 25), none, none, some (.iconst 1, 1, 0), some (.goto 4, 3, 26), none, none, some (.iconst 0, 1, 0), some (.ireturn, 1, 0)]
def am_c187 : List (Option am_I) := [some (.aload_n 0, 1, 0), some (.iload_n 1, 1, 0), some (.invokevirtual 148, 3, 222), none, none, some (.ifCond .eq 11, 3, 16), none, none, some (.aload_n 0, 1, 0), some (.iload_n 2, 1, 0), some (.invokevirtual 152, 3, 223), none, none, some (.ifCond .ne 5, 3, 18), none, none, some (.iconst (-1), 1, 0), some (.ireturn, 1, 0), some (.aload_n 0, 1, 0), some (.iload_n 1, 1, 0), some (.iload_n 2, 1, 0), some (.invokevirtual 267, 3, 253), none, none, some (.ifCond .eq 7, 3, 31), none, none, some (.iconst 1, 1, 0), some (.goto 4, 3, 32), none, none, some (.iconst 0, 1, 0), some (.ireturn, 1, 0)]
def am_c188 : List (Option am_I) := [some (.lload_n 0, 1, 0), some (.lstore 5, 2, 0), none, some (.lload_n 2, 1, 0), some (.lstore 7, 2, 0), none, some (.lload 7, 2, 0), none, some (.lconst 0, 1, 0), some (.lcmp, 1, 0), some (.ifCond .eq 21, 3, 31), none, none, some (.lload 5, 2, 0), none, some (.lload 7, 2, 0), none, some (.lrem, 1, 0), some (.lstore 9, 2, 0), none, some (.lload 7, 2, 0), none, some (.lstore 5, 2, 0), none, some (.lload 9, 2, 0), none, some (.lstore 7, 2, 0), none, some (.goto (-22), 3, 6), none, none, some (.iload 4, 2, 0), none, some (.ifCond .ne 7, 3, 40), none, none, some (.lload_n 0, 1, 0), some (.goto 4, 3, 41), none, none, some (.lload_n 2, 1, 0), some (.lload 5, 2, 0), none, some (.ldiv, 1, 0), some (.lreturn, 1, 0)]
def am_c189 : List (Option am_I) := [some (.aload_n 0, 1, 0), some (.iload_n 1, 1, 0), some (.invokevirtual 152, 3, 223), none, none, some (.ifCond .eq 22, 3, 27), none, none, some (.iload_n 2, 1, 0), some (.iconst 0, 1, 0), some (.bipush 6, 2, 0), none, some (.invokestatic 66, 3, 207), none, none, some (.ifCond .eq 12, 3, 27), none, none, some (.iload_n 3, 1, 0), some (.iconst 0, 1, 0), some (.iconst 1, 1, 0), some (.invokestatic 66, 3, 207), none, none, some (.ifCond .ne 7, 3, 31), none, none, some (.ldc2_w 271, 3, 0), none, none, some (.lreturn, 1, 0), some (.iconst 0, 1, 0), some (.istore 4, 2, 0), none, some (.iload 4, 2, 0), none, some (.bipush 7, 2, 0), none, some (.if_icmp .ge 26, 3, 64), none, none, some (.aload_n 0, 1, 0), some (.getfield 46, 3, 110), none, none, some (.iload 4, 2, 0), none, some (.iload 4, 2, 0), none, some (.ifCond .ne 7, 3, 56), none, none, some (.lconst 1, 1, 0), some (.goto 4, 3, 57), none, none, some (.lconst 0, 1, 0), some (.lastore, 1, 0), some (.iinc 4 1, 3, 0), none, none, some (.goto (-27), 3, 34), none, none, some (.lconst 1, 1, 0), some (.lstore 4, 2, 0), none, some (.iconst 0, 1, 0), some (.istore 6, 2, 0), none, some (.iload 6, 2, 0), none, some (.aload_n 0, 1, 0), some (.getfield 9, 3, 99), none, none, some (.bipush 19, 2, 0), none, some (.iaload, 1, 0), some (.if_icmp .ge 94, 3, 173), none, none, some (.aload_n 0, 1, 0), some (.iload 6, 2, 0), none, some (.invokevirtual 155, 3, 224), none, none, some (.ifCond .eq 79, 3, 167), none, none, some (.aload_n 0, 1, 0), some (.iload 6, 2, 0), none, some (.iload_n 1, 1, 0), some (.invokevirtual 264, 3, 252), none, none, some (.istore 7, 2, 0), none, some (.bipush 6, 2, 0), none, some (.istore 8, 2, 0), none, some (.iload 8, 2, 0), none, some (.ifCond .lt 53, 3, 159), none, none, some (.aload_n 0, 1, 0), some (.getfield 46, 3, 110), none, none, some (.iload 8, 2, 0), none, some (.aload_n 0, 1, 0), some (.getfield 46, 3, 110), none, none, some (.iload 8, 2, 0), none, some (.laload, 1, 0), some (.bipush 10, 2, 0), none, some (.iload 7, 2, 0), none, some (.isub, 1, 0), some (.i2l, 1, 0), some (.lmul, 1, 0), some (.iload 8, 2, 0), none, some (.ifCond .le 19, 3, 150), none, none, some (.aload_n 0, 1, 0), some (.getfield 46, 3, 110), none, none, some (.iload 8, 2, 0), none, some (.iconst 1, 1, 0), some (.isub, 1, 0), some (.laload, 1, 0), some (.iload 7, 2, 0), none, some (.i2l, 1, 0), some (.lmul, 1, 0), some (.goto 4, 3, 151), none, none, some (.lconst 0, 1, 0), some (.ladd, 1, 0), some (.lastore, 1, 0), some (.iinc 8 (-1), 3, 0), none, none, some (.goto (-52), 3, 104), none, none, some (.lload 4, 2, 0), none, some (.ldc2_w 273, 3, 1), none, none, some (.lmul, 1, 0), some (.lstore 4, 2, 0), none, some (.iinc 6 1, 3, 0), none, none, some (.goto (-100), 3, 70), none, none, some (.lconst 0, 1, 0), some (.lstore 6, 2, 0), none, some (.iload_n 2, 1, 0), some (.istore 8, 2, 0), none, some (.iload 8, 2, 0), none, some (.bipush 7, 2, 0), none, some (.if_icmp .ge 21, 3, 204), none, none, some (.lload 6, 2, 0), none, some (.aload_n 0, 1, 0), some (.getfield 46, 3, 110), none, none, some (.iload 8, 2, 0), none, some (.laload, 1, 0), some (.ladd, 1, 0), some (.lstore 6, 2, 0), none, some (.iinc 8 1, 3, 0), none, none, some (.goto (-22), 3, 179), none, none, some (.lload 6, 2, 0), none, some (.lload 4, 2, 0), none, some (.iload_n 3, 1, 0), some (.invokestatic 275, 3, 254), none, none, some (.lreturn, 1, 0)]
def am_c190 : List (Option am_I) := [some (.aload_n 0, 1, 0), some (.getfield 9, 3, 99), none, none, some (.bipush 13, 2, 0), none, some (.iload_n 1, 1, 0), some (.iadd, 1, 0), some (.iconst 1, 1, 0), some (.iastore, 1, 0), some (.iconst 0, 1, 0), some (.istore_n 2, 1, 0), some (.iconst 0, 1, 0), some (.istore_n 3, 1, 0), some (.iload_n 3, 1, 0), some (.aload_n 0, 1, 0), some (.getfield 9, 3, 99), none, none, some (.bipush 19, 2, 0), none, some (.iaload, 1, 0), some (.if_icmp .ge 68, 3, 90), none, none, some (.aload_n 0, 1, 0), some (.iload_n 3, 1, 0), some (.invokevirtual 155, 3, 224), none, none, some (.ifCond .eq 54, 3, 84), none, none, some (.aload_n 0, 1, 0), some (.iload_n 3, 1, 0), some (.iload_n 1, 1, 0), some (.invokevirtual 267, 3, 253), none, none, some (.istore 4, 2, 0), none, some (.aload_n 0, 1, 0), some (.getfield 9, 3, 99), none, none, some (.iconst 1, 1, 0), some (.iload_n 3, 1, 0), some (.iadd, 1, 0), some (.dup2, 1, 0), some (.iaload, 1, 0), some (.iload 4, 2, 0), none, some (.ifCond .eq 15, 3, 67), none, none, some (.aload_n 0, 1, 0), some (.iload_n 3, 1, 0), some (.iload_n 1, 1, 0), some (.invokevirtual 180, 3, 230), none, none, some (.bipush 50, 2, 0), none, some (.isub, 1, 0), some (.goto 5, 3, 69), none, none, some (.bipush (-10), 2, 0), none, some (.iadd, 1, 0), some (.iastore, 1, 0), some (.iload_n 2, 1, 0), some (.iload 4, 2, 0), none, some (.ifCond .eq 7, 3, 81), none, none, some (.iconst 1, 1, 0), some (.goto 4, 3, 82), none, none, some (.iconst 0, 1, 0), some (.iadd, 1, 0), some (.istore_n 2, 1, 0), some (.iinc 3 1, 3, 0), none, none, some (.goto (-73), 3, 14), none, none, some (.iconst 0, 1, 0), some (.istore_n 3, 1, 0), some (.iload_n 3, 1, 0), some (.aload_n 0, 1, 0), some (.getfield 9, 3, 99), none, none, some (.bipush 19, 2, 0), none, some (.iaload, 1, 0), some (.if_icmp .ge 44, 3, 144), none, none, some (.aload_n 0, 1, 0), some (.getfield 9, 3, 99), none, none, some (.bipush 7, 2, 0), none, some (.iload_n 3, 1, 0), some (.iadd, 1, 0), some (.aload_n 0, 1, 0), some (.getfield 9, 3, 99), none, none, some (.iconst 1, 1, 0), some (.iload_n 3, 1, 0), some (.iadd, 1, 0), some (.iaload, 1, 0), some (.bipush (-50), 2, 0), none, some (.if_icmp .ge 7, 3, 128), none, none, some (.iconst 1, 1, 0), some (.goto 12, 3, 137), none, none, some (.aload_n 0, 1, 0), some (.getfield 9, 3, 99), none, none, some (.bipush 7, 2, 0), none, some (.iload_n 3, 1, 0), some (.iadd, 1, 0), some (.iaload, 1, 0), some (.iastore, 1, 0), some (.iinc 3 1, 3, 0), none, none, some (.goto (-49), 3, 92), none, none, some (.aload_n 0, 1, 0), some (.getfield 9, 3, 99), none, none, some (.iconst 0, 1, 0), some (.dup2, 1, 0), some (.iaload, 1, 0), some (.iconst 1, 1, 0), some (.iadd, 1, 0), some (.iastore, 1, 0), some (.iload_n 2, 1, 0), some (.ireturn, 1, 0)]
def am_c191 : List (Option am_I) := [some (.aload_n 0, 1, 0), some (.iload_n 1, 1, 0), some (.invokevirtual 152, 3, 223), none, none, some (.ifCond .ne 5, 3, 10), none, none, some (.iconst (-1), 1, 0), some (.ireturn, 1, 0), some (.aload_n 0, 1, 0), some (.iload_n 1, 1, 0), some (.invokevirtual 158, 3, 225), none, none, some (.ifCond .eq 14, 3, 29), none, none, some (.aload_n 0, 1, 0), some (.getfield 9, 3, 99), none, none, some (.iconst 0, 1, 0), some (.iaload, 1, 0), some (.bipush 99, 2, 0), none, some (.if_icmp .ne 8, 3, 34), none, none, some (.bipush (-3), 2, 0), none, some (.goto 8, 3, 39), none, none, some (.aload_n 0, 1, 0), some (.iload_n 1, 1, 0), some (.invokevirtual 279, 3, 255), none, none, some (.ireturn, 1, 0)]
def am_c192 : List (Option am_I) := [some (.iload_n 1, 1, 0), some (.invokestatic 241, 3, 248), none, none, some (.ifCond .ne 5, 3, 9), none, none, some (.iconst (-1), 1, 0), some (.ireturn, 1, 0), some (.aload_n 0, 1, 0), some (.invokevirtual 167, 3, 228), none, none, some (.ifCond .eq 14, 3, 27), none, none, some (.aload_n 0, 1, 0), some (.getfield 9, 3, 99), none, none, some (.iconst 0, 1, 0), some (.iaload, 1, 0), some (.bipush 99, 2, 0), none, some (.if_icmp .ne 6, 3, 30), none, none, some (.bipush (-3), 2, 0), none, some (.ireturn, 1, 0), some (.aload_n 0, 1, 0), some (.invokevirtual 207, 3, 237), none, none, some (.aload_n 0, 1, 0), some (.iload_n 1, 1, 0), some (.iconst 0, 1, 0), some (.invokevirtual 244, 3, 249), none, none, some (.istore_n 2, 1, 0), some (.aload_n 0, 1, 0), some (.iload_n 2, 1, 0), some (.invokevirtual 279, 3, 255), none, none, some (.pop, 1, 0), some (.iload_n 2, 1, 0), some (.ireturn, 1, 0)]
def am_c193 : List (Option am_I) := [some (.aload_n 0, 1, 0), some (.invokevirtual 207, 3, 237), none, none, some (.aload_n 0, 1, 0), some (.iconst 0, 1, 0), some (.putfield 282, 3, 126), none, none, some (.iconst 0, 1, 0), some (.istore_n 3, 1, 0), some (.iload_n 3, 1, 0), some (.iload_n 1, 1, 0), some (.if_icmp .ge 35, 3, 48), none, none, some (.aload_n 0, 1, 0), some (.invokevirtual 167, 3, 228), none, none, some (.ifCond .eq 28, 3, 48), none, none, some (.aload_n 0, 1, 0), some (.dup, 1, 0), some (.getfield 282, 3, 126), none, none, some (.aload_n 0, 1, 0), some (.aload_n 0, 1, 0), some (.iload_n 2, 1, 0), some (.iconst 0, 1, 0), some (.invokevirtual 244, 3, 249), none, none, some (.invokevirtual 279, 3, 255), none, none, some (.iadd, 1, 0), some (.putfield 282, 3, 126), none, none, some (.iinc 3 1, 3, 0), none, none, some (.goto (-34), 3, 11), none, none, some (.return_, 1, 0)]
def am_c194 : List (Option am_I) := [some (.iconst 0, 1, 0), some (.istore_n 1, 1, 0), some (.iconst 0, 1, 0), some (.istore_n 2, 1, 0), some (.iload_n 2, 1, 0), some (.aload_n 0, 1, 0), some (.getfield 9, 3, 99), none, none, some (.bipush 20, 2, 0), none, some (.iaload, 1, 0), some (.if_icmp .ge 35, 3, 47), none, none, some (.iload_n 1, 1, 0), some (.aload_n 0, 1, 0), some (.iload_n 2, 1, 0), some (.invokevirtual 158, 3, 225), none, none, some (.ifCond .eq 7, 3, 28), none, none, some (.iconst 0, 1, 0), some (.goto 14, 3, 39), none, none, some (.iconst 1, 1, 0), some (.aload_n 0, 1, 0), some (.getfield 9, 3, 99), none, none, some (.bipush 56, 2, 0), none, some (.iload_n 2, 1, 0), some (.iadd, 1, 0), some (.iaload, 1, 0), some (.ishl, 1, 0), some (.ior, 1, 0), some (.istore_n 1, 1, 0), some (.iinc 2 1, 3, 0), none, none, some (.goto (-40), 3, 4), none, none, some (.iload_n 1, 1, 0), some (.invokestatic 197, 3, 234), none, none, some (.ireturn, 1, 0)]
def am_c195 : List (Option am_I) := [some (.iload_n 2, 1, 0), some (.invokestatic 241, 3, 248), none, none, some (.ifCond .eq 23, 3, 27), none, none, some (.iload_n 3, 1, 0), some (.iconst 0, 1, 0), some (.iconst 2, 1, 0), some (.invokestatic 66, 3, 207), none, none, some (.ifCond .ne 18, 3, 31), none, none, some (.aload_n 0, 1, 0), some (.iload_n 3, 1, 0), some (.bipush 10, 2, 0), none, some (.isub, 1, 0), some (.invokevirtual 148, 3, 222), none, none, some (.ifCond .ne 7, 3, 31), none, none, some (.sipush (-10001), 3, 0), none, none, some (.ireturn, 1, 0), some (.iload_n 1, 1, 0), some (.iconst 0, 1, 0), some (.bipush 6, 2, 0), none, some (.invokestatic 66, 3, 207), none, none, some (.ifCond .ne 7, 3, 45), none, none, some (.sipush (-10002), 3, 0), none, none, some (.ireturn, 1, 0), some (.aload_n 0, 1, 0), some (.invokevirtual 285, 3, 256), none, none, some (.aload_n 0, 1, 0), some (.iload_n 1, 1, 0), some (.iload_n 2, 1, 0), some (.invokevirtual 288, 3, 257), none, none, some (.iload_n 3, 1, 0), some (.ifCond .ne 10, 3, 66), none, none, some (.aload_n 0, 1, 0), some (.invokevirtual 164, 3, 227), none, none, some (.goto 38, 3, 101), none, none, some (.iload_n 3, 1, 0), some (.iconst 1, 1, 0), some (.if_icmp .ne 10, 3, 78), none, none, some (.aload_n 0, 1, 0), some (.getfield 282, 3, 126), none, none, some (.goto 26, 3, 101), none, none, some (.iload_n 3, 1, 0), some (.iconst 2, 1, 0), some (.if_icmp .ne 10, 3, 90), none, none, some (.aload_n 0, 1, 0), some (.invokevirtual 291, 3, 258), none, none, some (.goto 14, 3, 101), none, none, some (.aload_n 0, 1, 0), some (.getfield 9, 3, 99), none, none, some (.iconst 1, 1, 0), some (.iload_n 3, 1, 0), some (.iadd, 1, 0), some (.bipush 10, 2, 0), none, some (.isub, 1, 0), some (.iaload, 1, 0), some (.istore 4, 2, 0), none, some (.aload_n 0, 1, 0), some (.invokevirtual 294, 3, 259), none, none, some (.iload 4, 2, 0), none, some (.ireturn, 1, 0)]
def am_c196 : List (Option am_I) := [some (.iconst 0, 1, 0), some (.istore_n 1, 1, 0), some (.iconst 0, 1, 0), some (.istore_n 2, 1, 0), some (.iload_n 2, 1, 0), some (.aload_n 0, 1, 0), some (.getfield 9, 3, 99), none, none, some (.bipush 19, 2, 0), none, some (.iaload, 1, 0), some (.if_icmp .ge 32, 3, 44), none, none, some (.iload_n 1, 1, 0), some (.aload_n 0, 1, 0), some (.iload_n 2, 1, 0), some (.invokevirtual 155, 3, 224), none, none, some (.ifCond .eq 14, 3, 35), none, none, some (.aload_n 0, 1, 0), some (.getfield 9, 3, 99), none, none, some (.iconst 1, 1, 0), some (.iload_n 2, 1, 0), some (.iadd, 1, 0), some (.iaload, 1, 0), some (.goto 4, 3, 36), none, none, some (.iconst 0, 1, 0), some (.iadd, 1, 0), some (.istore_n 1, 1, 0), some (.iinc 2 1, 3, 0), none, none, some (.goto (-37), 3, 4), none, none, some (.iload_n 1, 1, 0), some (.ireturn, 1, 0)]
def am_c197 : List (Option am_I) := [some (.aload_n 0, 1, 0), some (.invokevirtual 164, 3, 227), none, none, some (.invokestatic 197, 3, 234), none, none, some (.istore_n 1, 1, 0), some (.aload_n 0, 1, 0), some (.invokevirtual 297, 3, 260), none, none, some (.istore_n 2, 1, 0), some (.iload_n 1, 1, 0), some (.aload_n 0, 1, 0), some (.getfield 300, 3, 127), none, none, some (.if_icmp .gt 19, 3, 37), none, none, some (.iload_n 1, 1, 0), some (.aload_n 0, 1, 0), some (.getfield 300, 3, 127), none, none, some (.if_icmp .ne 15, 3, 41), none, none, some (.iload_n 2, 1, 0), some (.aload_n 0, 1, 0), some (.getfield 303, 3, 128), none, none, some (.if_icmp .le 7, 3, 41), none, none, some (.iconst 1, 1, 0), some (.goto 4, 3, 42), none, none, some (.iconst 0, 1, 0), some (.istore_n 3, 1, 0), some (.aload_n 0, 1, 0), some (.iload_n 3, 1, 0), some (.ifCond .eq 7, 3, 52), none, none, some (.iload_n 1, 1, 0), some (.goto 7, 3, 56), none, none, some (.aload_n 0, 1, 0), some (.getfield 300, 3, 127), none, none, some (.putfield 300, 3, 127), none, none, some (.aload_n 0, 1, 0), some (.iload_n 3, 1, 0), some (.ifCond .eq 7, 3, 68), none, none, some (.iload_n 2, 1, 0), some (.goto 7, 3, 72), none, none, some (.aload_n 0, 1, 0), some (.getfield 303, 3, 128), none, none, some (.putfield 303, 3, 128), none, none, some (.iload_n 3, 1, 0), some (.ireturn, 1, 0)]
def am_c198 : List (Option am_I) := [some (.iconst 0, 1, 0), some (.istore_n 1, 1, 0), some (.aload_n 0, 1, 0), some (.iconst (-1), 1, 0), some (.putfield 300, 3, 127), none, none, some (.aload_n 0, 1, 0), some (.invokevirtual 285, 3, 256), none, none, some (.iconst 0, 1, 0), some (.istore_n 2, 1, 0), some (.iload_n 2, 1, 0), some (.bipush 6, 2, 0), none, some (.if_icmp .ge 33, 3, 49), none, none, some (.aload_n 0, 1, 0), some (.bipush 6, 2, 0), none, some (.iload_n 2, 1, 0), some (.invokevirtual 288, 3, 257), none, none, some (.aload_n 0, 1, 0), some (.invokevirtual 306, 3, 261), none, none, some (.ifCond .eq 7, 3, 37), none, none, some (.iload_n 2, 1, 0), some (.goto 4, 3, 38), none, none, some (.iload_n 1, 1, 0), some (.istore_n 1, 1, 0), some (.aload_n 0, 1, 0), some (.invokevirtual 294, 3, 259), none, none, some (.iinc 2 1, 3, 0), none, none, some (.goto (-33), 3, 13), none, none, some (.iload_n 1, 1, 0), some (.ireturn, 1, 0)]
def am_c199 : List (Option am_I) := [some (.aload_n 0, 1, 0), some (.invokevirtual 167, 3, 228), none, none, some (.ifCond .ne 47, 3, 51), none, none, some (.aload_n 0, 1, 0), some (.invokevirtual 306, 3, 261), none, none, some (.ifCond .eq 39, 3, 50), none, none, some (.iconst 0, 1, 0), some (.istore_n 2, 1, 0), some (.iload_n 2, 1, 0), some (.bipush 6, 2, 0), none, some (.if_icmp .ge 31, 3, 50), none, none, some (.aload_n 0, 1, 0), some (.getfield 56, 3, 113), none, none, some (.iload_n 2, 1, 0), some (.iload_n 2, 1, 0), some (.iload_n 1, 1, 0), some (.if_icmp .ge 12, 3, 41), none, none, some (.aload_n 0, 1, 0), some (.getfield 53, 3, 112), none, none, some (.iload_n 2, 1, 0), some (.iaload, 1, 0), some (.goto 5, 3, 43), none, none, some (.bipush (-5), 2, 0), none, some (.iastore, 1, 0), some (.iinc 2 1, 3, 0), none, none, some (.goto (-31), 3, 16), none, none, some (.return_, 1, 0), some (.iconst 0, 1, 0), some (.istore_n 2, 1, 0), some (.iload_n 2, 1, 0), some (.aload_n 0, 1, 0), some (.getfield 9, 3, 99), none, none, some (.bipush 20, 2, 0), none, some (.iaload, 1, 0), some (.if_icmp .ge 99, 3, 160), none, none, some (.aload_n 0, 1, 0), some (.iload_n 2, 1, 0), some (.invokevirtual 158, 3, 225), none, none, some (.ifCond .eq 85, 3, 154), none, none, some (.iconst 0, 1, 0), some (.istore_n 3, 1, 0), some (.iload_n 3, 1, 0), some (.bipush 19, 2, 0), none, some (.if_icmp .ge 26, 3, 103), none, none, some (.aload_n 0, 1, 0), some (.getfield 50, 3, 111), none, none, some (.bipush 19, 2, 0), none, some (.iload_n 1, 1, 0), some (.imul, 1, 0), some (.iload_n 3, 1, 0), some (.iadd, 1, 0), some (.aload_n 0, 1, 0), some (.getfield 9, 3, 99), none, none, some (.iload_n 3, 1, 0), some (.iaload, 1, 0), some (.iastore, 1, 0), some (.iinc 3 1, 3, 0), none, none, some (.goto (-26), 3, 74), none, none, some (.aload_n 0, 1, 0), some (.getfield 53, 3, 112), none, none, some (.iload_n 1, 1, 0), some (.iload_n 2, 1, 0), some (.iastore, 1, 0), some (.aload_n 0, 1, 0), some (.iload_n 2, 1, 0), some (.invokevirtual 279, 3, 255), none, none, some (.pop, 1, 0), some (.aload_n 0, 1, 0), some (.iload_n 1, 1, 0), some (.iconst 1, 1, 0), some (.iadd, 1, 0), some (.invokevirtual 310, 3, 262), none, none, some (.iconst 0, 1, 0), some (.istore_n 3, 1, 0), some (.iload_n 3, 1, 0), some (.bipush 19, 2, 0), none, some (.if_icmp .ge 26, 3, 154), none, none, some (.aload_n 0, 1, 0), some (.getfield 9, 3, 99), none, none, some (.iload_n 3, 1, 0), some (.aload_n 0, 1, 0), some (.getfield 50, 3, 111), none, none, some (.bipush 19, 2, 0), none, some (.iload_n 1, 1, 0), some (.imul, 1, 0), some (.iload_n 3, 1, 0), some (.iadd, 1, 0), some (.iaload, 1, 0), some (.iastore, 1, 0), some (.iinc 3 1, 3, 0), none, none, some (.goto (-26), 3, 125), none, none, some (.iinc 2 1, 3, 0), none, none, some (.goto (-104), 3, 53), none, none, some (.return_, 1, 0)]
def am_c200 : List (Option am_I) := [some (.iload_n 1, 1, 0), some (.iconst 0, 1, 0), some (.iconst 4, 1, 0), some (.invokestatic 66, 3, 207), none, none, some (.ifCond .ne 5, 3, 11), none, none, some (.iconst (-1), 1, 0), some (.ireturn, 1, 0), some (.aload_n 0, 1, 0), some (.invokevirtual 167, 3, 228), none, none, some (.invokestatic 197, 3, 234), none, none, some (.iconst 5, 1, 0), some (.if_icmp .le 6, 3, 25), none, none, some (.bipush (-9), 2, 0), none, some (.ireturn, 1, 0), some (.aload_n 0, 1, 0), some (.iconst (-1), 1, 0), some (.putfield 300, 3, 127), none, none, some (.aload_n 0, 1, 0), some (.iconst 0, 1, 0), some (.invokevirtual 310, 3, 262), none, none, some (.aload_n 0, 1, 0), some (.getfield 56, 3, 113), none, none, some (.iload_n 1, 1, 0), some (.iaload, 1, 0), some (.ireturn, 1, 0)]
def am_c201 : List (Option am_I) := [some (.iload_n 1, 1, 0), some (.iconst (-1), 1, 0), some (.if_icmp .ne 13, 3, 15), none, none, some (.aload_n 0, 1, 0), some (.getfield 9, 3, 99), none, none, some (.bipush 22, 2, 0), none, some (.iconst 0, 1, 0), some (.iastore, 1, 0), some (.iconst 0, 1, 0), some (.ireturn, 1, 0), some (.iload_n 1, 1, 0), some (.iconst 0, 1, 0), some (.bipush 12, 2, 0), none, some (.invokestatic 66, 3, 207), none, none, some (.ifCond .ne 6, 3, 28), none, none, some (.bipush (-2), 2, 0), none, some (.ireturn, 1, 0), some (.aload_n 0, 1, 0), some (.getfield 9, 3, 99), none, none, some (.bipush 22, 2, 0), none, some (.iaload, 1, 0), some (.bipush 6, 2, 0), none, some (.if_icmp .ne 6, 3, 43), none, none, some (.bipush (-4), 2, 0), none, some (.ireturn, 1, 0), some (.aload_n 0, 1, 0), some (.getfield 9, 3, 99), none, none, some (.bipush 62, 2, 0), none, some (.aload_n 0, 1, 0), some (.getfield 9, 3, 99), none, none, some (.bipush 22, 2, 0), none, some (.iaload, 1, 0), some (.iadd, 1, 0), some (.iload_n 1, 1, 0), some (.iastore, 1, 0), some (.aload_n 0, 1, 0), some (.getfield 9, 3, 99), none, none, some (.bipush 22, 2, 0), none, some (.dup2, 1, 0), some (.iaload, 1, 0), some (.iconst 1, 1, 0), some (.iadd, 1, 0), some (.iastore, 1, 0), some (.aload_n 0, 1, 0), some (.getfield 9, 3, 99), none, none, some (.bipush 22, 2, 0), none, some (.iaload, 1, 0), some (.ireturn, 1, 0)]
def am_c202 : List (Option am_I) := [some (.aload_n 0, 1, 0), some (.invokevirtual 207, 3, 237), none, none, some (.aload_n 0, 1, 0), some (.invokevirtual 210, 3, 238), none, none, some (.aload_n 0, 1, 0), some (.iconst 0, 1, 0), some (.invokevirtual 234, 3, 246), none, none, some (.iconst 0, 1, 0), some (.istore_n 1, 1, 0), some (.iload_n 1, 1, 0), some (.aload_n 0, 1, 0), some (.getfield 9, 3, 99), none, none, some (.bipush 20, 2, 0), none, some (.iaload, 1, 0), some (.if_icmp .ge 48, 3, 71), none, none, some (.iload_n 1, 1, 0), some (.aload_n 0, 1, 0), some (.getfield 9, 3, 99), none, none, some (.bipush 22, 2, 0), none, some (.iaload, 1, 0), some (.if_icmp .ge 37, 3, 71), none, none, some (.aload_n 0, 1, 0), some (.iload_n 1, 1, 0), some (.invokevirtual 158, 3, 225), none, none, some (.ifCond .eq 23, 3, 65), none, none, some (.aload_n 0, 1, 0), some (.iload_n 1, 1, 0), some (.iconst 0, 1, 0), some (.invokevirtual 216, 3, 240), none, none, some (.aload_n 0, 1, 0), some (.getfield 9, 3, 99), none, none, some (.bipush 62, 2, 0), none, some (.iload_n 1, 1, 0), some (.iadd, 1, 0), some (.iaload, 1, 0), some (.if_icmp .eq 5, 3, 65), none, none, some (.iload_n 1, 1, 0), some (.ireturn, 1, 0), some (.iinc 1 1, 3, 0), none, none, some (.goto (-53), 3, 15), none, none, some (.bipush (-5), 2, 0), none, some (.ireturn, 1, 0)]
def am_c203 : List (Option am_I) := [some (.aload_n 0, 1, 0), some (.getfield 313, 3, 129), none, none, some (.bipush 20, 2, 0), none, some (.if_icmp .ge 13, 3, 19), none, none, some (.aload_n 0, 1, 0), some (.getfield 59, 3, 114), none, none, some (.aload_n 0, 1, 0), some (.getfield 313, 3, 129), none, none, some (.iload_n 1, 1, 0), some (.iastore, 1, 0), some (.aload_n 0, 1, 0), some (.dup, 1, 0), some (.getfield 313, 3, 129), none, none, some (.iconst 1, 1, 0), some (.iadd, 1, 0), some (.putfield 313, 3, 129), none, none, some (.return_, 1, 0)]
def am_c204 : List (Option am_I) := [some (.iload_n 1, 1, 0), some (.ifCond .eq 24, 3, 25), none, none, some (.iload_n 1, 1, 0), some (.iload_n 0, 1, 0), some (.if_icmp .eq 19, 3, 25), none, none, some (.iload_n 1, 1, 0), some (.ifCond .le 19, 3, 29), none, none, some (.iload_n 1, 1, 0), some (.iconst 4, 1, 0), some (.if_icmp .ge 14, 3, 29), none, none, some (.iload_n 0, 1, 0), some (.iload_n 1, 1, 0), some (.iconst 3, 1, 0), some (.iadd, 1, 0), some (.if_icmp .ne 7, 3, 29), none, none, some (.iconst 1, 1, 0), some (.goto 4, 3, 30), none, none, some (.iconst 0, 1, 0), some (.ireturn, 1, 0)]
def am_c205 : List (Option am_I) := [some (.aload_n 0, 1, 0), some (.iconst 1, 1, 0), some (.invokevirtual 316, 3, 263), none, none, some (.iload_n 1, 1, 0), some (.aload_n 0, 1, 0), some (.getfield 319, 3, 130), none, none, some (.iadd, 1, 0), some (.ireturn, 1, 0)]
def am_c206 : List (Option am_I) := [some (.aload_n 0, 1, 0), some (.getfield 322, 3, 131), none, none, some (.iconst 1, 1, 0), some (.invokestatic 325, 3, 264), none, none, some (.ifCond .eq 17, 3, 25), none, none, some (.aload_n 0, 1, 0), some (.bipush 11, 2, 0), none, some (.invokevirtual 316, 3, 263), none, none, some (.aload_n 0, 1, 0), some (.iload_n 1, 1, 0), some (.iconst 3, 1, 0), some (.imul, 1, 0), some (.invokevirtual 328, 3, 265), none, none, some (.ireturn, 1, 0), some (.aload_n 0, 1, 0), some (.getfield 322, 3, 131), none, none, some (.iconst 5, 1, 0), some (.if_icmp .ne 20, 3, 50), none, none, some (.aload_n 0, 1, 0), some (.bipush 51, 2, 0), none, some (.invokevirtual 316, 3, 263), none, none, some (.aload_n 0, 1, 0), some (.iload_n 1, 1, 0), some (.invokevirtual 328, 3, 265), none, none, some (.aload_n 0, 1, 0), some (.getfield 319, 3, 130), none, none, some (.ixor, 1, 0), some (.ireturn, 1, 0), some (.aload_n 0, 1, 0), some (.iload_n 1, 1, 0), some (.invokevirtual 328, 3, 265), none, none, some (.ireturn, 1, 0)]
def am_c207 : List (Option am_I) := [some (.aload_n 0, 1, 0), some (.iconst 2, 1, 0), some (.invokevirtual 316, 3, 263), none, none, some (.aload_n 0, 1, 0), some (.iload_n 1, 1, 0), some (.invokevirtual 331, 3, 266), none, none, some (.aload_n 0, 1, 0), some (.getfield 334, 3, 132), none, none, some (.isub, 1, 0), some (.ireturn, 1, 0)]
def am_c208 : List (Option am_I) := [some (.aload_n 0, 1, 0), some (.getfield 322, 3, 131), none, none, some (.iconst 2, 1, 0), some (.invokestatic 325, 3, 264), none, none, some (.ifCond .eq 16, 3, 24), none, none, some (.aload_n 0, 1, 0), some (.bipush 21, 2, 0), none, some (.invokevirtual 316, 3, 263), none, none, some (.aload_n 0, 1, 0), some (.iload_n 1, 1, 0), some (.invokevirtual 337, 3, 267), none, none, some (.ineg, 1, 0), some (.ireturn, 1, 0), some (.aload_n 0, 1, 0), some (.getfield 322, 3, 131), none, none, some (.bipush 6, 2, 0), none, some (.if_icmp .ne 20, 3, 50), none, none, some (.aload_n 0, 1, 0), some (.bipush 61, 2, 0), none, some (.invokevirtual 316, 3, 263), none, none, some (.aload_n 0, 1, 0), some (.iload_n 1, 1, 0), some (.invokevirtual 337, 3, 267), none, none, some (.aload_n 0, 1, 0), some (.getfield 334, 3, 132), none, none, some (.iadd, 1, 0), some (.ireturn, 1, 0), some (.aload_n 0, 1, 0), some (.iload_n 1, 1, 0), some (.invokevirtual 337, 3, 267), none, none, some (.ireturn, 1, 0)]
def am_c209 : List (Option am_I) := [some (.aload_n 0, 1, 0), some (.iconst 3, 1, 0), some (.invokevirtual 316, 3, 263), none, none, some (.aload_n 0, 1, 0), some (.iload_n 1, 1, 0), some (.invokevirtual 340, 3, 268), none, none, some (.iconst 2, 1, 0), some (.imul, 1, 0), some (.ireturn, 1, 0)]
def am_c210 : List (Option am_I) := [some (.aload_n 0, 1, 0), some (.getfield 322, 3, 131), none, none, some (.iconst 3, 1, 0), some (.invokestatic 325, 3, 264), none, none, some (.ifCond .eq 18, 3, 26), none, none, some (.aload_n 0, 1, 0), some (.bipush 31, 2, 0), none, some (.invokevirtual 316, 3, 263), none, none, some (.aload_n 0, 1, 0), some (.iload_n 1, 1, 0), some (.invokevirtual 343, 3, 269), none, none, some (.bipush 7, 2, 0), none, some (.ixor, 1, 0), some (.ireturn, 1, 0), some (.aload_n 0, 1, 0), some (.getfield 322, 3, 131), none, none, some (.iconst 4, 1, 0), some (.if_icmp .ne 25, 3, 56), none, none, some (.aload_n 0, 1, 0), some (.bipush 41, 2, 0), none, some (.invokevirtual 316, 3, 263), none, none, some (.aload_n 0, 1, 0), some (.iload_n 1, 1, 0), some (.iconst 1, 1, 0), some (.isub, 1, 0), some (.invokevirtual 343, 3, 269), none, none, some (.istore_n 2, 1, 0), some (.iload_n 2, 1, 0), some (.aload_n 0, 1, 0), some (.iconst 2, 1, 0), some (.invokevirtual 331, 3, 266), none, none, some (.iadd, 1, 0), some (.ireturn, 1, 0), some (.aload_n 0, 1, 0), some (.iload_n 1, 1, 0), some (.invokevirtual 343, 3, 269), none, none, some (.ireturn, 1, 0)]
def am_c211 : List (Option am_I) := [some (.aload_n 0, 1, 0), some (.iconst 0, 1, 0), some (.putfield 313, 3, 129), none, none, some (.aload_n 0, 1, 0), some (.iload_n 1, 1, 0), some (.invokevirtual 148, 3, 222), none, none, some (.ifCond .eq 12, 3, 22), none, none, some (.iload_n 2, 1, 0), some (.iconst 0, 1, 0), some (.iconst 2, 1, 0), some (.invokestatic 66, 3, 207), none, none, some (.ifCond .ne 5, 3, 24), none, none, some (.iconst 0, 1, 0), some (.ireturn, 1, 0), some (.aload_n 0, 1, 0), some (.aload_n 0, 1, 0), some (.getfield 9, 3, 99), none, none, some (.bipush 26, 2, 0), none, some (.iload_n 1, 1, 0), some (.iadd, 1, 0), some (.iaload, 1, 0), some (.putfield 322, 3, 131), none, none, some (.aload_n 0, 1, 0), some (.iload_n 1, 1, 0), some (.putfield 319, 3, 130), none, none, some (.aload_n 0, 1, 0), some (.aload_n 0, 1, 0), some (.getfield 9, 3, 99), none, none, some (.bipush 32, 2, 0), none, some (.iload_n 1, 1, 0), some (.iadd, 1, 0), some (.iaload, 1, 0), some (.putfield 334, 3, 132), none, none, some (.iload_n 2, 1, 0), some (.ifCond .ne 11, 3, 67), none, none, some (.aload_n 0, 1, 0), some (.iload_n 3, 1, 0), some (.invokevirtual 331, 3, 266), none, none, some (.goto 21, 3, 85), none, none, some (.iload_n 2, 1, 0), some (.iconst 1, 1, 0), some (.if_icmp .ne 11, 3, 80), none, none, some (.aload_n 0, 1, 0), some (.iload_n 3, 1, 0), some (.invokevirtual 340, 3, 268), none, none, some (.goto 8, 3, 85), none, none, some (.aload_n 0, 1, 0), some (.iload_n 3, 1, 0), some (.invokevirtual 346, 3, 270), none, none, some (.ireturn, 1, 0)]
def am_c212 : List (Option am_I) := [some (.iload_n 1, 1, 0), some (.iconst 0, 1, 0), some (.aload_n 0, 1, 0), some (.getfield 313, 3, 129), none, none, some (.bipush 20, 2, 0), none, some (.if_icmp .ge 10, 3, 18), none, none, some (.aload_n 0, 1, 0), some (.getfield 313, 3, 129), none, none, some (.goto 5, 3, 20), none, none, some (.bipush 20, 2, 0), none, some (.iconst 1, 1, 0), some (.isub, 1, 0), some (.invokestatic 66, 3, 207), none, none, some (.ifCond .eq 12, 3, 37), none, none, some (.aload_n 0, 1, 0), some (.getfield 59, 3, 114), none, none, some (.iload_n 1, 1, 0), some (.iaload, 1, 0), some (.goto 4, 3, 38), none, none, some (.iconst (-1), 1, 0), some (.ireturn, 1, 0)]
def am_c213 : List (Option am_I) := [some (.aload_n 0, 1, 0), some (.iload_n 1, 1, 0), some (.invokevirtual 148, 3, 222), none, none, some (.ifCond .eq 13, 3, 18), none, none, some (.iload_n 2, 1, 0), some (.iconst 0, 1, 0), some (.bipush 6, 2, 0), none, some (.invokestatic 66, 3, 207), none, none, some (.ifCond .ne 5, 3, 20), none, none, some (.iconst (-1), 1, 0), some (.ireturn, 1, 0), some (.aload_n 0, 1, 0), some (.getfield 9, 3, 99), none, none, some (.bipush 26, 2, 0), none, some (.iload_n 1, 1, 0), some (.iadd, 1, 0), some (.iaload, 1, 0), some (.iload_n 2, 1, 0), some (.invokestatic 325, 3, 264), none, none, some (.ifCond .eq 15, 3, 48), none, none, some (.aload_n 0, 1, 0), some (.getfield 9, 3, 99), none, none, some (.bipush 32, 2, 0), none, some (.iload_n 1, 1, 0), some (.iadd, 1, 0), some (.iaload, 1, 0), some (.goto 5, 3, 50), none, none, some (.bipush (-6), 2, 0), none, some (.ireturn, 1, 0)]
def am_c214 : List (Option am_I) := [some (.iconst 0, 1, 0), some (.istore_n 1, 1, 0), some (.iload_n 1, 1, 0), some (.sipush 878, 3, 0), none, none, some (.if_icmp .ge 21, 3, 27), none, none, some (.aload_n 0, 1, 0), some (.getfield 15, 3, 100), none, none, some (.iload_n 1, 1, 0), some (.aload_n 0, 1, 0), some (.getfield 9, 3, 99), none, none, some (.iload_n 1, 1, 0), some (.iaload, 1, 0), some (.iastore, 1, 0), some (.iinc 1 1, 3, 0), none, none, some (.goto (-22), 3, 2), none, none, some (.aload_n 0, 1, 0), some (.iconst 1, 1, 0), some (.putfield 349, 3, 133), none, none, some (.aload_n 0, 1, 0), some (.getfield 9, 3, 99), none, none, some (.bipush 19, 2, 0), none, some (.iaload, 1, 0), some (.ireturn, 1, 0)]
def am_c215 : List (Option am_I) := [some (.aload_n 0, 1, 0), some (.getfield 349, 3, 133), none, none, some (.ifCond .ne 6, 3, 10), none, none, some (.bipush (-3), 2, 0), none, some (.ireturn, 1, 0), some (.iconst 0, 1, 0), some (.istore_n 1, 1, 0), some (.iload_n 1, 1, 0), some (.sipush 878, 3, 0), none, none, some (.if_icmp .ge 21, 3, 37), none, none, some (.aload_n 0, 1, 0), some (.getfield 9, 3, 99), none, none, some (.iload_n 1, 1, 0), some (.aload_n 0, 1, 0), some (.getfield 15, 3, 100), none, none, some (.iload_n 1, 1, 0), some (.iaload, 1, 0), some (.iastore, 1, 0), some (.iinc 1 1, 3, 0), none, none, some (.goto (-22), 3, 12), none, none, some (.aload_n 0, 1, 0), some (.getfield 9, 3, 99), none, none, some (.bipush 19, 2, 0), none, some (.iaload, 1, 0), some (.ireturn, 1, 0)]
def am_c216 : List (Option am_I) := [some (.iload_n 1, 1, 0), some (.tableswitch 84 0 5 #[39, 47, 55, 63, 71, 79], 39, 0), none, none, none, none, none, none, none, none, none, none, none, none, none, none, none, none, none, none, none, none, none, none, none, none, none, none, none, none, none, none, none, none, none, none, none, none, none, none, some (.aload_n 0, 1, 0), some (.getfield 9, 3, 99), none, none, some (.bipush 19, 2, 0), none, some (.iaload, 1, 0), some (.ireturn, 1, 0), some (.aload_n 0, 1, 0), some (.getfield 9, 3, 99), none, none, some (.bipush 20, 2, 0), none, some (.iaload, 1, 0), some (.ireturn, 1, 0), some (.aload_n 0, 1, 0), some (.getfield 9, 3, 99), none, none, some (.bipush 21, 2, 0), none, some (.iaload, 1, 0), some (.ireturn, 1, 0), some (.aload_n 0, 1, 0), some (.getfield 9, 3, 99), none, none, some (.bipush 22, 2, 0), none, some (.iaload, 1, 0), some (.ireturn, 1, 0), some (.aload_n 0, 1, 0), some (.getfield 9, 3, 99), none, none, some (.bipush 23, 2, 0), none, some (.iaload, 1, 0), some (.ireturn, 1, 0), some (.aload_n 0, 1, 0), some (.getfield 313, 3, 129), none, none, some (.ireturn, 1, 0), some (.iconst (-1), 1, 0), some (.ireturn, 1, 0)]
def am_c217 : List (Option am_I) := [some (.iload_n 0, 1, 0), some (.iload_n 0, 1, 0), some (.iconst 1, 1, 0), some (.iushr, 1, 0), some (.ldc_w 265, 3, 1431655765), none, none, some (.iand, 1, 0), some (.isub, 1, 0), some (.istore_n 0, 1, 0), some (.iload_n 0, 1, 0), some (.ldc_w 266, 3, 858993459), none, none, some (.iand, 1, 0), some (.iload_n 0, 1, 0), some (.iconst 2, 1, 0), some (.iushr, 1, 0), some (.ldc_w 266, 3, 858993459), none, none, some (.iand, 1, 0), some (.iadd, 1, 0), some (.istore_n 0, 1, 0), some (.iload_n 0, 1, 0), some (.iload_n 0, 1, 0), some (.iconst 4, 1, 0), some (.iushr, 1, 0), some (.iadd, 1, 0), some (.ldc_w 267, 3, 252645135), none, none, some (.iand, 1, 0), some (.istore_n 0, 1, 0), some (.iload_n 0, 1, 0), some (.iload_n 0, 1, 0), some (.bipush 8, 2, 0), none, some (.iushr, 1, 0), some (.iadd, 1, 0), some (.istore_n 0, 1, 0), some (.iload_n 0, 1, 0), some (.iload_n 0, 1, 0), some (.bipush 16, 2, 0), none, some (.iushr, 1, 0), some (.iadd, 1, 0), some (.istore_n 0, 1, 0), some (.iload_n 0, 1, 0), some (.bipush 63, 2, 0), none, some (.iand, 1, 0), some (.ireturn, 1, 0)]
def am_c218 : List (Option am_I) := [some (.iload_n 0, 1, 0), some (.iload_n 1, 1, 0), some (.if_icmp .lt 7, 3, 9), none, none, some (.iload_n 0, 1, 0), some (.goto 4, 3, 10), none, none, some (.iload_n 1, 1, 0), some (.ireturn, 1, 0)]
def am_c219 : List (Option am_I) := [some (.iload_n 0, 1, 0), some (.iload_n 1, 1, 0), some (.if_icmp .gt 7, 3, 9), none, none, some (.iload_n 0, 1, 0), some (.goto 4, 3, 10), none, none, some (.iload_n 1, 1, 0), some (.ireturn, 1, 0)]
def am_c220 : List (Option am_I) := [some (.aload_n 0, 1, 0), some (.getfield 9, 3, 134), none, none, some (.arraylength, 1, 0), some (.aload_n 0, 1, 0), some (.invokevirtual 335, 3, 271), none, none, some (.ishr, 1, 0), some (.ireturn, 1, 0)]
def am_c221 : List (Option am_I) := [some (.aload_n 0, 1, 0), some (.invokevirtual 492, 3, 272), none, none, some (.ifCond .eq 12, 3, 16), none, none, some (.aload_n 0, 1, 0), some (.getfield 9, 3, 134), none, none, some (.iload_n 1, 1, 0), some (.invokestatic 495, 3, 273), none, none, some (.ireturn, 1, 0), some (.aload_n 0, 1, 0), some (.getfield 9, 3, 134), none, none, some (.iload_n 1, 1, 0), some (.invokestatic 498, 3, 274), none, none, some (.ireturn, 1, 0)]
def am_c222 : List (Option am_I) := [some (.getstatic 38, 3, 0), none, none, some (.ifCond .eq 10, 3, 13), none, none, some (.aload_n 0, 1, 0), some (.getfield 15, 3, 135), none, none, some (.goto 4, 3, 14), none, none, some (.iconst 1, 1, 0), some (.ireturn, 1, 0)]
def am_c223 : List (Option am_I) := [some (.getstatic 38, 3, 0), none, none, some (.ifCond .eq 14, 3, 17), none, none, some (.aload_n 0, 1, 0), some (.getfield 15, 3, 135), none, none, some (.ifCond .ne 7, 3, 17), none, none, some (.iconst 1, 1, 0), some (.goto 4, 3, 18), none, none, some (.iconst 0, 1, 0), some (.ireturn, 1, 0)]
def am_c224 : List (Option am_I) := [some (.iload_n 1, 1, 0), some (.aload_n 0, 1, 0), some (.arraylength, 1, 0), some (.invokestatic 9, 3, 275), none, none, some (.aload_n 0, 1, 0), some (.iload_n 1, 1, 0), some (.baload, 1, 0), some (.sipush 255, 3, 0), none, none, some (.iand, 1, 0), some (.i2c, 1, 0), some (.ireturn, 1, 0)]
def am_c225 : List (Option am_I) := [some (.iload_n 0, 1, 0), some (.iload_n 1, 1, 0), some (.getstatic 1053, 3, 1), none, none, some (.invokestatic 1059, 3, 276), none, none, some (.pop, 1, 0), some (.return_, 1, 0)]
def am_c226 : List (Option am_I) := [some (.iload_n 0, 1, 0), some (.ifCond .lt 8, 3, 9), none, none, some (.iload_n 0, 1, 0), some (.iload_n 1, 1, 0), some (.if_icmp .lt 10, 3, 16), none, none, some (.aload_n 2, 1, 0), some (.iload_n 0, 1, 0), some (.iload_n 1, 1, 0), none, none, none, some (.athrow, 1, 0), some (.iload_n 0, 1, 0), some (.ireturn, 1, 0)]
def am_c227 : List (Option am_I) := [some (.return_, 1, 0)]
def am_code : List (List (Option am_I)) := [am_c0, am_c1, am_c2, am_c3, am_c4, am_c5, am_c6, am_c7, am_c8, am_c9, am_c10, am_c11, am_c12, am_c13, am_c14, am_c15, am_c16, am_c17, am_c18, am_c19, am_c20, am_c21, am_c22, am_c23, am_c24, am_c25, am_c26, am_c27, am_c28, am_c29, am_c30, am_c31, am_c32, am_c33, am_c34, am_c35, am_c36, am_c37, am_c38, am_c39, am_c40, am_c41, am_c42, am_c43, am_c44, am_c45, am_c46, am_c47, am_c48, am_c49, am_c50, am_c51, am_c52, am_c53, am_c54, am_c55, am_c56, am_c57, am_c58, am_c59, am_c60, am_c61, am_c62, am_c63, am_c64, am_c65, am_c66, am_c67, am_c68, am_c69, am_c70, am_c71, am_c72, am_c73, am_c74, am_c75, am_c76, am_c77, am_c78, am_c79, am_c80, am_c81, am_c82, am_c83, am_c84, am_c85, am_c86, am_c87, am_c88, am_c89, am_c90, am_c91, am_c92, am_c93, am_c94, am_c95, am_c96, am_c97, am_c98, am_c99, am_c100, am_c101, am_c102, am_c103, am_c104, am_c105, am_c106, am_c107, am_c108, am_c109, am_c110, am_c111, am_c112, am_c113, am_c114, am_c115, am_c116, am_c117, am_c118, am_c119, am_c120, am_c121, am_c122, am_c123, am_c124, am_c125, am_c126, am_c127, am_c128, am_c129, am_c130, am_c131, am_c132, am_c133, am_c134, am_c135, am_c136, am_c137, am_c138, am_c139, am_c140, am_c141, am_c142, am_c143, am_c144, am_c145, am_c146, am_c147, am_c148, am_c149, am_c150, am_c151, am_c152, am_c153, am_c154, am_c155, am_c156, am_c157, am_c158, am_c159, am_c160, am_c161, am_c162, am_c163, am_c164, am_c165, am_c166, am_c167, am_c168, am_c169, am_c170, am_c171, am_c172, am_c173, am_c174, am_c175, am_c176, am_c177, am_c178, am_c179, am_c180, am_c181, am_c182, am_c183, am_c184, am_c185, am_c186, am_c187, am_c188, am_c189, am_c190, am_c191, am_c192, am_c193, am_c194, am_c195, am_c196, am_c197, am_c198, am_c199, am_c200, am_c201, am_c202, am_c203, am_c204, am_c205, am_c206, am_c207, am_c208, am_c209, am_c210, am_c211, am_c212, am_c213, am_c214, am_c215, am_c216, am_c217, am_c218, am_c219, am_c220, am_c221, am_c222, am_c223, am_c224, am_c225, am_c226, am_c227]
def am_fl : List (String × Nat × String × List (Nat × Nat)) := [
  (RX0, 7, RX0, [(0, 2)]),
  (RX1, 9, RX1, [(1, 0)]),
  (RX1, 15, RX1, [(1, 1)]),
  (RX1, 18, RX1, [(1, 2)]),
  (RX1, 21, RX1, [(1, 3)]),
  (RX1, 24, RX1, [(1, 4)]),
  (RX1, 28, RX1, [(1, 5)]),
  (RX1, 31, RX1, [(1, 6)]),
  (RX1, 34, RX1, [(1, 7)]),
  (RX1, 37, RX1, [(1, 8)]),
  (RX1, 40, RX1, [(1, 9)]),
  (RX2, 7, RX2, [(2, 2)]),
  (RX2, 13, RX2, [(2, 1)]),
  (RX3, 12, RX3, [(3, 0)]),
  (RX3, 20, RX3, [(3, 1)]),
  (RX3, 24, RX3, [(3, 2)]),
  (RX3, 30, RX3, [(3, 3)]),
  (RX3, 33, RX3, [(3, 4)]),
  (RX3, 39, RX3, [(3, 5)]),
  (RX3, 43, RX3, [(3, 6)]),
  (RX3, 46, RX3, [(3, 7)]),
  (RX3, 50, RX3, [(3, 8)]),
  (RX3, 53, RX3, [(3, 9)]),
  (RX3, 56, RX3, [(3, 10)]),
  (RX3, 59, RX3, [(3, 11)]),
  (RX3, 62, RX3, [(3, 12)]),
  (RX3, 65, RX3, [(3, 13)]),
  (RX3, 96, RX4, [(0, 0), (2, 0), (4, 0), (5, 0), (6, 0), (8, 0), (9, 0)]),
  (RX3, 120, RX1, [(1, 0)]),
  (RX4, 7, RX4, [(0, 0), (2, 0), (4, 0), (5, 0), (6, 0), (8, 0), (9, 0)]),
  (RX4, 13, RX4, [(0, 1), (2, 1), (4, 1), (5, 1), (6, 1), (8, 1), (9, 1)]),
  (RX4, 16, RX4, [(0, 2), (2, 2), (4, 2), (5, 2), (6, 2), (8, 2), (9, 2)]),
  (RX5, 7, RX5, [(2, 1), (5, 1)]),
  (RX5, 19, RX10, [(10, 7)]),
  (RX6, 7, RX6, [(6, 2), (9, 2)]),
  (RX7, 9, RX7, [(7, 0)]),
  (RX7, 15, RX7, [(7, 1)]),
  (RX7, 18, RX7, [(7, 2)]),
  (RX7, 21, RX7, [(7, 3)]),
  (RX7, 35, RX3, [(3, 2)]),
  (RX7, 48, RX3, [(3, 11)]),
  (RX9, 7, RX9, [(9, 1)]),
  (RX9, 19, RX9, [(9, 2)]),
  (RX10, 9, RX10, [(10, 2)]),
  (RX10, 15, RX10, [(10, 3)]),
  (RX10, 21, RX10, [(10, 4)]),
  (RX10, 24, RX10, [(10, 5)]),
  (RX10, 27, RX10, [(10, 6)]),
  (RX10, 30, RX10, [(10, 7)]),
  (RX10, 33, RX10, [(10, 8)]),
  (RX10, 36, RX10, [(10, 9)]),
  (RX10, 39, RX10, [(10, 10)]),
  (RX10, 42, RX10, [(10, 11)]),
  (RX10, 45, RX10, [(10, 12)]),
  (RX10, 48, RX10, [(10, 13)]),
  (RX10, 51, RX10, [(10, 0)]),
  (RX10, 55, RX3, [(3, 0)]),
  (RX10, 61, RX10, [(10, 1)]),
  (RX10, 65, RX3, [(3, 2)]),
  (RX10, 68, RX3, [(3, 11)]),
  (RX10, 88, RX3, [(3, 1)]),
  (RX10, 92, RX7, [(7, 0)]),
  (RX10, 112, RX3, [(3, 4)]),
  (RX11, 12, RX11, [(11, 0)]),
  (RX11, 18, RX11, [(11, 1)]),
  (RX11, 24, RX11, [(11, 2)]),
  (RX11, 33, RX11, [(11, 3)]),
  (RX11, 37, RX11, [(11, 4)]),
  (RX11, 41, RX11, [(11, 5)]),
  (RX11, 45, RX11, [(11, 6)]),
  (RX11, 51, RX11, [(11, 7)]),
  (RX11, 55, RX11, [(11, 8)]),
  (RX11, 59, RX3, [(3, 8)]),
  (RX11, 63, RX3, [(3, 7)]),
  (RX11, 66, RX3, [(3, 6)]),
  (RX11, 73, RX1, [(1, 1)]),
  (RX11, 76, RX3, [(3, 5)]),
  (RX11, 82, RX3, [(3, 2)]),
  (RX11, 120, RX3, [(3, 4)]),
  (RX11, 127, RX3, [(3, 1)]),
  (RX11, 131, RX4, [(0, 0), (2, 0), (4, 0), (5, 0), (6, 0), (8, 0), (9, 0)]),
  (RX11, 134, RX4, [(0, 2), (2, 2), (4, 2), (5, 2), (6, 2), (8, 2), (9, 2)]),
  (RX11, 137, RX3, [(3, 0)]),
  (RX11, 140, RX7, [(7, 3)]),
  (RX11, 152, RX3, [(3, 3)]),
  (RX11, 156, RX7, [(7, 0)]),
  (RX11, 159, RX1, [(1, 0)]),
  (RX11, 162, RX7, [(7, 1)]),
  (RX11, 165, RX7, [(7, 2)]),
  (RX11, 172, RX3, [(3, 11)]),
  (RX11, 179, RX10, [(10, 3)]),
  (RX11, 185, RX10, [(10, 4)]),
  (RX11, 188, RX10, [(10, 5)]),
  (RX11, 205, RX3, [(3, 12)]),
  (RX11, 261, RX10, [(10, 12)]),
  (RX11, 274, RX3, [(3, 10)]),
  (RX11, 277, RX3, [(3, 9)]),
  (RX11, 280, RX10, [(10, 2)]),
  (RX11, 283, RX10, [(10, 8)]),
  (RX12, 9, RX12, [(12, 1)]),
  (RX12, 15, RX12, [(12, 2)]),
  (RX12, 18, RX12, [(12, 3)]),
  (RX12, 21, RX12, [(12, 10)]),
  (RX12, 24, RX12, [(12, 11)]),
  (RX12, 28, RX12, [(12, 14)]),
  (RX12, 31, RX12, [(12, 15)]),
  (RX12, 34, RX12, [(12, 16)]),
  (RX12, 37, RX12, [(12, 17)]),
  (RX12, 40, RX12, [(12, 18)]),
  (RX12, 43, RX12, [(12, 19)]),
  (RX12, 46, RX12, [(12, 24)]),
  (RX12, 50, RX12, [(12, 28)]),
  (RX12, 53, RX12, [(12, 29)]),
  (RX12, 56, RX12, [(12, 30)]),
  (RX12, 59, RX12, [(12, 31)]),
  (RX12, 70, RX12, [(12, 6)]),
  (RX12, 73, RX12, [(12, 7)]),
  (RX12, 76, RX12, [(12, 8)]),
  (RX12, 97, RX12, [(12, 5)]),
  (RX12, 100, RX12, [(12, 9)]),
  (RX12, 170, RX12, [(12, 12)]),
  (RX12, 173, RX12, [(12, 13)]),
  (RX12, 184, RX12, [(12, 20)]),
  (RX12, 248, RX12, [(12, 22)]),
  (RX12, 251, RX12, [(12, 23)]),
  (RX12, 254, RX12, [(12, 21)]),
  (RX12, 282, RX12, [(12, 25)]),
  (RX12, 300, RX12, [(12, 26)]),
  (RX12, 303, RX12, [(12, 27)]),
  (RX12, 313, RX12, [(12, 32)]),
  (RX12, 319, RX12, [(12, 34)]),
  (RX12, 322, RX12, [(12, 33)]),
  (RX12, 334, RX12, [(12, 35)]),
  (RX12, 349, RX12, [(12, 4)]),
  (RJ0, 9, RJ0, [(13, 0)]),
  (RJ0, 15, RJ0, [(13, 1)])]
def am_cl : List (String × Nat × Nat × List (Nat × Nat)) := [
  (RL, 9, 0, [(0, 87)]),
  (RL, 12, 0, [(0, 125)]),
  (RL, 13, 1, [(11, 88)]),
  (RL, 17, 1, [(12, 134)]),
  (RL, 18, 0, [(11, 89)]),
  (RL, 22, 0, [(12, 147)]),
  (RL, 23, 2, [(11, 90)]),
  (RL, 27, 2, [(12, 149)]),
  (RL, 28, 4, [(11, 92)]),
  (RL, 32, 4, [(12, 150)]),
  (RL, 33, 2, [(11, 93)]),
  (RL, 36, 2, [(12, 151)]),
  (RL, 37, 2, [(11, 94)]),
  (RL, 40, 2, [(12, 152)]),
  (RL, 41, 1, [(11, 95)]),
  (RL, 44, 1, [(12, 156)]),
  (RL, 45, 2, [(11, 96)]),
  (RL, 49, 2, [(12, 157)]),
  (RL, 50, 2, [(11, 97)]),
  (RL, 53, 2, [(12, 160)]),
  (RL, 54, 3, [(11, 98)]),
  (RL, 58, 3, [(12, 168)]),
  (RL, 59, 2, [(11, 99)]),
  (RL, 62, 2, [(12, 179)]),
  (RL, 63, 1, [(11, 100)]),
  (RL, 66, 1, [(12, 182)]),
  (RL, 67, 2, [(11, 101)]),
  (RL, 70, 2, [(12, 183)]),
  (RL, 71, 2, [(11, 102)]),
  (RL, 74, 2, [(12, 185)]),
  (RL, 75, 2, [(11, 103)]),
  (RL, 78, 2, [(12, 187)]),
  (RL, 79, 3, [(11, 104)]),
  (RL, 83, 3, [(12, 189)]),
  (RL, 84, 1, [(11, 107)]),
  (RL, 87, 1, [(12, 191)]),
  (RL, 88, 1, [(11, 108)]),
  (RL, 91, 1, [(12, 192)]),
  (RL, 92, 3, [(11, 109)]),
  (RL, 95, 3, [(12, 195)]),
  (RL, 96, 0, [(11, 111)]),
  (RL, 99, 0, [(12, 198)]),
  (RL, 100, 1, [(11, 112)]),
  (RL, 103, 1, [(12, 200)]),
  (RL, 104, 1, [(11, 114)]),
  (RL, 107, 1, [(12, 201)]),
  (RL, 108, 0, [(11, 115)]),
  (RL, 111, 0, [(12, 202)]),
  (RL, 112, 3, [(11, 116)]),
  (RL, 115, 3, [(12, 211)]),
  (RL, 116, 1, [(11, 117)]),
  (RL, 119, 1, [(12, 212)]),
  (RL, 120, 2, [(11, 118)]),
  (RL, 123, 2, [(12, 213)]),
  (RL, 124, 0, [(11, 119)]),
  (RL, 127, 0, [(12, 214)]),
  (RL, 128, 0, [(11, 120)]),
  (RL, 131, 0, [(12, 215)]),
  (RL, 132, 1, [(11, 121)]),
  (RL, 135, 1, [(12, 216)]),
  (RX0, 1, 3, [(0, 58)]),
  (RX0, 13, 2, [(0, 41)]),
  (RX0, 17, 2, [(0, 39)]),
  (RX1, 3, 0, [(0, 227)]),
  (RX1, 43, 2, [(0, 219)]),
  (RX1, 49, 1, [(1, 10)]),
  (RX1, 53, 1, [(1, 8)]),
  (RX1, 56, 0, [(1, 7)]),
  (RX1, 60, 0, [(13, 220)]),
  (RX1, 65, 1, [(13, 221)]),
  (RX1, 69, 0, [(1, 11)]),
  (RX1, 72, 0, [(1, 12)]),
  (RX1, 75, 1, [(1, 13)]),
  (RX1, 80, 1, [(1, 9)]),
  (RX1, 89, 1, [(1, 14)]),
  (RX1, 92, 1, [(1, 17)]),
  (RX1, 96, 0, [(1, 15)]),
  (RX1, 102, 1, [(1, 16)]),
  (RX1, 108, 3, [(1, 19)]),
  (RX1, 112, 2, [(0, 20)]),
  (RX2, 1, 3, [(0, 42)]),
  (RX2, 16, 1, [(10, 71)]),
  (RX2, 22, 2, [(10, 72)]),
  (RX2, 26, 2, [(0, 43)]),
  (RX2, 30, 2, [(0, 41)]),
  (RX2, 33, 2, [(0, 40)]),
  (RX2, 37, 2, [(2, 44)]),
  (RX3, 3, 0, [(0, 227)]),
  (RX3, 11, 0, [(0, 48)]),
  (RX3, 38, 0, [(0, 5)]),
  (RX3, 68, 3, [(0, 32)]),
  (RX3, 71, 1, [(7, 49)]),
  (RX3, 75, 5, []),
  (RX3, 81, 1, [(7, 53)]),
  (RX3, 85, 0, [(3, 28)]),
  (RX3, 88, 2, [(7, 52)]),
  (RX3, 92, 2, [(3, 29)]),
  (RX3, 99, 2, [(1, 18)]),
  (RX3, 103, 2, [(0, 59), (2, 34), (4, 34), (5, 34), (6, 46), (8, 59), (9, 46)]),
  (RX3, 107, 1, [(0, 2), (2, 35), (4, 35), (5, 35), (6, 35), (8, 35), (9, 35)]),
  (RX3, 111, 2, [(0, 219)]),
  (RX3, 117, 2, [(0, 218)]),
  (RX3, 123, 1, [(0, 3), (2, 36), (4, 36), (5, 36), (6, 36), (8, 36), (9, 36)]),
  (RX3, 127, 1, [(7, 51)]),
  (RX4, 1, 0, [(0, 227)]),
  (RX4, 25, 2, [(10, 72)]),
  (RX4, 31, 2, [(0, 41)]),
  (RX4, 34, 2, [(0, 38), (2, 44), (4, 38), (5, 44), (6, 38), (8, 38), (9, 63)]),
  (RX4, 38, 2, [(0, 4), (2, 39), (4, 39), (5, 39), (6, 47), (8, 39), (9, 47)]),
  (RX5, 1, 3, [(0, 32)]),
  (RX5, 13, 2, [(10, 72)]),
  (RX5, 22, 2, [(10, 73)]),
  (RX5, 25, 2, [(0, 41)]),
  (RX5, 28, 2, [(0, 38)]),
  (RX6, 1, 3, [(0, 32)]),
  (RX6, 13, 2, [(0, 41)]),
  (RX6, 17, 2, [(0, 39)]),
  (RX7, 3, 0, [(0, 227)]),
  (RX7, 25, 5, []),
  (RX7, 31, 2, [(7, 52)]),
  (RX7, 40, 1, [(7, 50)]),
  (RX7, 44, 3, [(3, 30)]),
  (RX7, 52, 1, [(0, 217)]),
  (RX7, 58, 0, [(7, 55)]),
  (RX7, 62, 0, [(7, 56)]),
  (RX8, 1, 3, [(0, 32)]),
  (RX8, 7, 2, [(0, 41)]),
  (RX8, 13, 2, [(0, 40)]),
  (RX9, 1, 3, [(0, 45)]),
  (RX9, 13, 2, [(10, 72)]),
  (RX9, 22, 2, [(10, 73)]),
  (RX9, 25, 2, [(0, 41)]),
  (RX9, 28, 2, [(0, 38)]),
  (RX10, 3, 0, [(0, 227)]),
  (RX10, 62, 0, [(10, 67)]),
  (RX10, 71, 2, [(10, 68)]),
  (RX10, 75, 0, [(10, 69)]),
  (RX10, 79, 0, [(10, 74)]),
  (RX10, 82, 1, [(7, 50)]),
  (RX10, 95, 1, [(0, 3), (2, 36), (4, 36), (5, 36), (6, 36), (8, 36), (9, 36)]),
  (RX10, 100, 2, [(0, 37), (2, 22), (4, 37), (5, 43), (6, 37), (8, 37), (9, 62)]),
  (RX10, 104, 1, [(10, 75)]),
  (RX10, 108, 2, [(10, 72)]),
  (RX10, 115, 1, [(7, 51)]),
  (RX10, 118, 5, []),
  (RX10, 124, 2, [(10, 76)]),
  (RX10, 128, 2, [(10, 77)]),
  (RX10, 132, 0, [(10, 79)]),
  (RX10, 135, 0, [(10, 80)]),
  (RX10, 138, 0, [(10, 81)]),
  (RX10, 141, 2, [(0, 219)]),
  (RX10, 147, 0, [(7, 55)]),
  (RX10, 150, 1, [(10, 70)]),
  (RX10, 153, 1, [(10, 78)]),
  (RX10, 157, 1, [(10, 83)]),
  (RX10, 160, 0, [(10, 84)]),
  (RX10, 163, 0, [(10, 85)]),
  (RX10, 167, 2, [(10, 86)]),
  (RX11, 3, 0, [(0, 227)]),
  (RX11, 11, 0, [(0, 24)]),
  (RX11, 23, 0, [(0, 48)]),
  (RX11, 30, 1, [(0, 64)]),
  (RX11, 50, 0, [(0, 5)]),
  (RX11, 69, 2, [(1, 6)]),
  (RX11, 79, 0, [(3, 28)]),
  (RX11, 85, 3, [(0, 91)]),
  (RX11, 89, 1, [(3, 26)]),
  (RX11, 95, 3, [(0, 42)]),
  (RX11, 100, 3, [(0, 45)]),
  (RX11, 103, 3, [(0, 58)]),
  (RX11, 106, 3, [(0, 21)]),
  (RX11, 109, 3, [(0, 61)]),
  (RX11, 112, 3, [(0, 1)]),
  (RX11, 115, 3, [(0, 32)]),
  (RX11, 116, 1, [(11, 122)]),
  (RX11, 123, 4, [(3, 27)]),
  (RX11, 143, 1, [(7, 50)]),
  (RX11, 146, 1, [(11, 123)]),
  (RX11, 149, 1, [(7, 51)]),
  (RX11, 168, 2, [(7, 52)]),
  (RX11, 175, 1, [(10, 65)]),
  (RX11, 182, 1, [(10, 70)]),
  (RX11, 191, 1, [(0, 124)]),
  (RX11, 194, 0, [(10, 66)]),
  (RX11, 197, 1, [(10, 78)]),
  (RX11, 201, 3, [(10, 82)]),
  (RX11, 208, 3, [(3, 30)]),
  (RX11, 214, 1, [(11, 105)]),
  (RX11, 218, 2, [(0, 106)]),
  (RX11, 224, 2, [(7, 54)]),
  (RX11, 228, 2, [(11, 110)]),
  (RX11, 232, 1, [(3, 31)]),
  (RX11, 236, 1, [(0, 217)]),
  (RX11, 241, 1, [(7, 49)]),
  (RX11, 244, 2, [(7, 57)]),
  (RX11, 248, 0, [(7, 55)]),
  (RX11, 252, 0, [(7, 56)]),
  (RX11, 255, 0, [(11, 113)]),
  (RX11, 258, 0, [(10, 84)]),
  (RX11, 264, 5, []),
  (RX11, 270, 0, [(10, 85)]),
  (RX11, 284, 2, [(0, 38), (2, 44), (4, 38), (5, 44), (6, 38), (8, 38), (9, 63)]),
  (RX11, 288, 2, [(0, 4), (2, 39), (4, 39), (5, 39), (6, 47), (8, 39), (9, 47)]),
  (RX11, 291, 2, [(0, 60), (2, 23), (4, 40), (5, 40), (6, 40), (8, 60), (9, 40)]),
  (RX11, 294, 1, [(0, 33), (2, 33), (4, 33), (5, 33), (6, 33), (8, 33), (9, 33)]),
  (RX11, 297, 1, [(3, 25)]),
  (RX12, 3, 0, [(0, 227)]),
  (RX12, 66, 3, [(0, 126)]),
  (RX12, 80, 0, [(12, 135)]),
  (RX12, 84, 0, [(13, 220)]),
  (RX12, 89, 1, [(13, 221)]),
  (RX12, 93, 1, [(12, 136)]),
  (RX12, 103, 0, [(12, 141)]),
  (RX12, 106, 1, [(12, 140)]),
  (RX12, 109, 0, [(12, 143)]),
  (RX12, 114, 1, [(12, 139)]),
  (RX12, 120, 0, [(12, 138)]),
  (RX12, 123, 0, [(12, 142)]),
  (RX12, 126, 1, [(12, 137)]),
  (RX12, 132, 2, [(12, 144)]),
  (RX12, 138, 0, [(12, 145)]),
  (RX12, 145, 0, [(12, 146)]),
  (RX12, 148, 1, [(12, 127)]),
  (RX12, 152, 1, [(12, 128)]),
  (RX12, 155, 1, [(12, 130)]),
  (RX12, 158, 1, [(12, 131)]),
  (RX12, 161, 0, [(12, 148)]),
  (RX12, 164, 0, [(12, 153)]),
  (RX12, 167, 0, [(12, 154)]),
  (RX12, 176, 2, [(12, 158)]),
  (RX12, 180, 2, [(12, 159)]),
  (RX12, 187, 1, [(12, 165)]),
  (RX12, 190, 3, [(12, 164)]),
  (RX12, 194, 0, [(12, 163)]),
  (RX12, 197, 1, [(0, 155)]),
  (RX12, 201, 1, [(12, 162)]),
  (RX12, 204, 1, [(12, 166)]),
  (RX12, 207, 0, [(12, 161)]),
  (RX12, 210, 0, [(12, 167)]),
  (RX12, 213, 2, [(12, 170)]),
  (RX12, 216, 2, [(12, 171)]),
  (RX12, 219, 2, [(12, 172)]),
  (RX12, 222, 2, [(12, 173)]),
  (RX12, 225, 0, [(12, 174)]),
  (RX12, 228, 0, [(12, 175)]),
  (RX12, 231, 0, [(12, 176)]),
  (RX12, 234, 1, [(12, 169)]),
  (RX12, 238, 1, [(12, 177)]),
  (RX12, 241, 1, [(0, 129)]),
  (RX12, 244, 2, [(12, 178)]),
  (RX12, 257, 5, [(12, 180)]),
  (RX12, 261, 2, [(12, 181)]),
  (RX12, 264, 2, [(12, 184)]),
  (RX12, 267, 2, [(12, 186)]),
  (RX12, 275, 3, [(0, 188)]),
  (RX12, 279, 1, [(12, 190)]),
  (RX12, 285, 0, [(12, 132)]),
  (RX12, 288, 2, [(12, 193)]),
  (RX12, 291, 0, [(12, 194)]),
  (RX12, 294, 0, [(12, 133)]),
  (RX12, 297, 0, [(12, 196)]),
  (RX12, 306, 0, [(12, 197)]),
  (RX12, 310, 1, [(12, 199)]),
  (RX12, 316, 1, [(12, 203)]),
  (RX12, 325, 2, [(0, 204)]),
  (RX12, 328, 1, [(12, 205)]),
  (RX12, 331, 1, [(12, 206)]),
  (RX12, 337, 1, [(12, 207)]),
  (RX12, 340, 1, [(12, 208)]),
  (RX12, 343, 1, [(12, 209)]),
  (RX12, 346, 1, [(12, 210)]),
  (RJ0, 335, 0, [(13, 222)]),
  (RJ0, 492, 0, [(13, 223)]),
  (RJ0, 495, 2, [(0, 224)]),
  (RJ0, 498, 2, []),
  (RJ1, 9, 2, [(0, 225)]),
  (RJ0, 1059, 3, [(0, 226)])]
def am_cx : List (Nat × MethodName × String × Nat) := [
  (2, yX11_init, RX11, 87),
  (2, yX12_init, RX12, 125),
  (0, yX11_feed, RX11, 88),
  (0, yX12_feed, RX12, 134),
  (0, yX11_club, RX11, 89),
  (0, yX12_club, RX12, 147),
  (0, yX11_member, RX11, 90),
  (0, yX12_member, RX12, 149),
  (0, yX11_book, RX11, 92),
  (0, yX12_book, RX12, 150),
  (0, yX11_of, RX11, 93),
  (0, yX12_of, RX12, 151),
  (0, yX11_at, RX11, 94),
  (0, yX12_at, RX12, 152),
  (0, yX11_told, RX11, 95),
  (0, yX12_told, RX12, 156),
  (0, yX11_had, RX11, 96),
  (0, yX12_had, RX12, 157),
  (0, yX11_like, RX11, 97),
  (0, yX12_like, RX12, 160),
  (0, yX11_order, RX11, 98),
  (0, yX12_order, RX12, 168),
  (0, yX11_chosen, RX11, 99),
  (0, yX12_chosen, RX12, 179),
  (0, yX11_alone, RX11, 100),
  (0, yX12_alone, RX12, 182),
  (0, yX11_gain, RX11, 101),
  (0, yX12_gain, RX12, 183),
  (0, yX11_reads, RX11, 102),
  (0, yX12_reads, RX12, 185),
  (0, yX11_comes, RX11, 103),
  (0, yX12_comes, RX12, 187),
  (0, yX11_enough, RX11, 104),
  (0, yX12_enough, RX12, 189),
  (0, yX11_month, RX11, 107),
  (0, yX12_month, RX12, 191),
  (0, yX11_by, RX11, 108),
  (0, yX12_by, RX12, 192),
  (0, yX11_run, RX11, 109),
  (0, yX12_run, RX12, 195),
  (0, yX11_best, RX11, 111),
  (0, yX12_best, RX12, 198),
  (0, yX11_row, RX11, 112),
  (0, yX12_row, RX12, 200),
  (0, yX11_hand, RX11, 114),
  (0, yX12_hand, RX12, 201),
  (0, yX11_looked, RX11, 115),
  (0, yX12_looked, RX12, 202),
  (0, yX11_act, RX11, 116),
  (0, yX12_act, RX12, 211),
  (0, yX11_trace, RX11, 117),
  (0, yX12_trace, RX12, 212),
  (0, yX11_as, RX11, 118),
  (0, yX12_as, RX12, 213),
  (0, yX11_image, RX11, 119),
  (0, yX12_image, RX12, 214),
  (0, yX11_undo, RX11, 120),
  (0, yX12_undo, RX12, 215),
  (0, yX11_count, RX11, 121),
  (0, yX12_count, RX12, 216),
  (2, yX8_init, RX8, 58),
  (1, ⟨"ClubReads$Away", "begin", "(I[I)V"⟩, RX4, 41),
  (2, ⟨"ClubReads$ShortLiking", "readOn", "(I[I)I"⟩, RX4, 39),
  (2, objectInit, "java/lang/Object", 227),
  (1, yJ9_min_7cf53, RJ9, 219),
  (0, yX1_parseClause, RX1, 10),
  (0, yX1_take, RX1, 8),
  (0, yX1_peek, RX1, 7),
  (0, yJ0_length_8abf5, RJ0, 220),
  (0, yJ0_charAt_5068e, RJ0, 221),
  (0, yX1_parseWord, RX1, 11),
  (0, yX1_parseNumber, RX1, 12),
  (0, yX1_parseAny, RX1, 13),
  (0, yX1_takeAll, RX1, 9),
  (0, yX1_parseOne, RX1, 14),
  (0, yX1_put, RX1, 17),
  (0, yX1_parseTest, RX1, 15),
  (0, yX1_parseSign, RX1, 16),
  (0, yX1_holds, RX1, 19),
  (1, yX1_testHolds, RX1, 20),
  (2, yX5_init, RX5, 42),
  (0, yX10_isHere, RX10, 71),
  (0, yX10_putOrder, RX10, 72),
  (2, yX5_say, RX5, 43),
  (1, ⟨"ClubReads$Following", "begin", "(I[I)V"⟩, RX4, 41),
  (2, ⟨"ClubReads$Paying", "talk", "(I[I)I"⟩, RX4, 40),
  (0, ⟨"ClubReads$Following", "wish", "(I[I)I"⟩, RX5, 44),
  (2, objectInit, "java/lang/Object", 227),
  (2, yX7_init, RX7, 48),
  (2, yX1_init, RX1, 5),
  (2, yX4_init, RX4, 32),
  (0, yX7_copyFrom, RX7, 49),
  (1, ⟨"java/lang/System", "arraycopy", "(Ljava/lang/Object;ILjava/lang/Object;II)V"⟩, RJ10, 0),
  (0, yX7_enter, RX7, 53),
  (0, yX3_measureAll, RX3, 28),
  (0, yX7_setHad, RX7, 52),
  (0, yX3_measure, RX3, 29),
  (0, yX1_sum, RX1, 18),
  (0, yX4_extraLike, RX4, 34),
  (0, yX4_oddsOf, RX4, 35),
  (1, yJ9_min_7cf53, RJ9, 219),
  (1, yJ9_max_7cf53, RJ9, 218),
  (0, yX4_staysAway, RX4, 36),
  (0, yX7_isHad, RX7, 51),
  (2, objectInit, "java/lang/Object", 227),
  (0, yX10_putOrder, RX10, 72),
  (1, yX4_begin, RX4, 41),
  (0, yX4_wish, RX4, 38),
  (0, yX4_readOn, RX4, 39),
  (2, yX4_init, RX4, 32),
  (0, yX10_putOrder, RX10, 72),
  (0, yX10_putLast, RX10, 73),
  (1, ⟨"ClubReads$Paying", "begin", "(I[I)V"⟩, RX4, 41),
  (2, yX4_wish, RX4, 38),
  (2, yX4_init, RX4, 32),
  (1, ⟨"ClubReads$Proud", "begin", "(I[I)V"⟩, RX4, 41),
  (2, yX4_readOn, RX4, 39),
  (2, objectInit, "java/lang/Object", 227),
  (1, ⟨"java/lang/System", "arraycopy", "(Ljava/lang/Object;ILjava/lang/Object;II)V"⟩, RJ10, 0),
  (0, yX7_setHad, RX7, 52),
  (0, yX7_isHere, RX7, 50),
  (0, yX3_attends, RX3, 30),
  (1, yJ6_bitCount_0f7a4, RJ6, 217),
  (0, yX7_countHere, RX7, 55),
  (0, yX7_sumGlad, RX7, 56),
  (2, yX4_init, RX4, 32),
  (1, ⟨"ClubReads$ShortLiking", "begin", "(I[I)V"⟩, RX4, 41),
  (2, yX4_talk, RX4, 40),
  (2, yX6_init, RX6, 45),
  (0, yX10_putOrder, RX10, 72),
  (0, yX10_putLast, RX10, 73),
  (1, ⟨"ClubReads$Striking", "begin", "(I[I)V"⟩, RX4, 41),
  (2, ⟨"ClubReads$Proud", "wish", "(I[I)I"⟩, RX4, 38),
  (2, objectInit, "java/lang/Object", 227),
  (0, yX10_listOpen, RX10, 67),
  (0, yX10_sortOpen, RX10, 68),
  (0, yX10_findFavourite, RX10, 69),
  (0, yX10_clearTallies, RX10, 74),
  (0, yX7_isHere, RX7, 50),
  (0, yX4_staysAway, RX4, 36),
  (0, yX4_say, RX4, 37),
  (0, yX10_hear, RX10, 75),
  (0, yX10_putOrder, RX10, 72),
  (0, yX7_isHad, RX7, 51),
  (1, ⟨"java/lang/System", "arraycopy", "(Ljava/lang/Object;ILjava/lang/Object;II)V"⟩, RJ10, 0),
  (0, yX10_tally, RX10, 76),
  (0, yX10_mostOf, RX10, 77),
  (0, yX10_pickRounds, RX10, 79),
  (0, yX10_pickPairs, RX10, 80),
  (0, yX10_pickTurns, RX10, 81),
  (1, yJ9_min_7cf53, RJ9, 219),
  (0, yX7_countHere, RX7, 55),
  (0, yX10_speaks, RX10, 70),
  (0, yX10_pick, RX10, 78),
  (0, yX10_silence, RX10, 83),
  (0, yX10_startRows, RX10, 84),
  (0, yX10_nextRow, RX10, 85),
  (0, yX10_swap, RX10, 86),
  (2, objectInit, "java/lang/Object", 227),
  (2, yX3_init, RX3, 24),
  (2, yX7_init, RX7, 48),
  (2, yX10_init, RX10, 64),
  (2, yX1_init, RX1, 5),
  (0, yX1_parse, RX1, 6),
  (0, yX3_measureAll, RX3, 28),
  (1, yX11_newMember, RX11, 91),
  (0, yX3_addMember, RX3, 26),
  (2, yX5_init, RX5, 42),
  (2, yX6_init, RX6, 45),
  (2, yX8_init, RX8, 58),
  (2, yX2_init, RX2, 21),
  (2, yX9_init, RX9, 61),
  (2, yX0_init, RX0, 1),
  (2, yX4_init, RX4, 32),
  (0, yX11_isMember, RX11, 122),
  (0, yX3_addBook, RX3, 27),
  (0, yX7_isHere, RX7, 50),
  (0, yX11_isBook, RX11, 123),
  (0, yX7_isHad, RX7, 51),
  (0, yX7_setHad, RX7, 52),
  (0, yX10_collect, RX10, 65),
  (0, yX10_speaks, RX10, 70),
  (1, yX11_isWay, RX11, 124),
  (0, yX10_speakTrue, RX10, 66),
  (0, yX10_pick, RX10, 78),
  (0, yX10_tellOtherwise, RX10, 82),
  (0, yX3_attends, RX3, 30),
  (0, yX11_spreadChances, RX11, 105),
  (1, yX11_commonDivisor, RX11, 106),
  (0, yX7_passMonth, RX7, 54),
  (0, yX11_tryMonths, RX11, 110),
  (0, yX3_putForward, RX3, 31),
  (1, yJ6_bitCount_0f7a4, RJ6, 217),
  (0, yX7_copyFrom, RX7, 49),
  (0, yX7_isBetter, RX7, 57),
  (0, yX7_countHere, RX7, 55),
  (0, yX7_sumGlad, RX7, 56),
  (0, yX11_findBestRow, RX11, 113),
  (0, yX10_startRows, RX10, 84),
  (1, ⟨"java/lang/System", "arraycopy", "(Ljava/lang/Object;ILjava/lang/Object;II)V"⟩, RJ10, 0),
  (0, yX10_nextRow, RX10, 85),
  (0, yX4_wish, RX4, 38),
  (0, yX4_readOn, RX4, 39),
  (0, yX4_talk, RX4, 40),
  (0, yX4_isOfKind, RX4, 33),
  (0, yX3_copyFrom, RX3, 25),
  (2, objectInit, "java/lang/Object", 227),
  (1, yX12_in, RX12, 126),
  (0, yX12_here, RX12, 135),
  (0, yJ0_length_8abf5, RJ0, 220),
  (0, yJ0_charAt_5068e, RJ0, 221),
  (0, yX12_must, RX12, 136),
  (0, yX12_factor, RX12, 141),
  (0, yX12_emits, RX12, 140),
  (0, yX12_some, RX12, 143),
  (0, yX12_among, RX12, 139),
  (0, yX12_figures, RX12, 138),
  (0, yX12_every, RX12, 142),
  (0, yX12_spells, RX12, 137),
  (0, yX12_much, RX12, 144),
  (0, yX12_clauseOfL, RX12, 145),
  (0, yX12_clauseHere, RX12, 146),
  (0, yX12_isMember, RX12, 127),
  (0, yX12_isBook, RX12, 128),
  (0, yX12_isHere, RX12, 130),
  (0, yX12_isOpen, RX12, 131),
  (0, yX12_comeNow, RX12, 148),
  (0, yX12_membersHere, RX12, 153),
  (0, yX12_openBooks, RX12, 154),
  (0, yX12_looks, RX12, 158),
  (0, yX12_likeOf, RX12, 159),
  (0, yX12_isAwayNow, RX12, 165),
  (0, yX12_saysOf, RX12, 164),
  (0, yX12_firstOfMost, RX12, 163),
  (1, yX12_count1, RX12, 155),
  (0, yX12_sorts, RX12, 162),
  (0, yX12_speaks, RX12, 166),
  (0, yX12_looksForLikes, RX12, 161),
  (0, yX12_looksForOrders, RX12, 167),
  (0, yX12_placeIn, RX12, 170),
  (0, yX12_countOf, RX12, 171),
  (0, yX12_mostBy, RX12, 172),
  (0, yX12_aheadBy, RX12, 173),
  (0, yX12_byRounds, RX12, 174),
  (0, yX12_byPairs, RX12, 175),
  (0, yX12_byTurns, RX12, 176),
  (0, yX12_hears, RX12, 169),
  (0, yX12_chooses, RX12, 177),
  (1, yX12_isWay, RX12, 129),
  (0, yX12_chosenBy, RX12, 178),
  (0, yX12_ordersFrom, RX12, 180),
  (0, yX12_tellsOther, RX12, 181),
  (0, yX12_readsOf, RX12, 184),
  (0, yX12_doesCome, RX12, 186),
  (1, yX12_lowest, RX12, 188),
  (0, yX12_goes, RX12, 190),
  (0, yX12_keeps, RX12, 132),
  (0, yX12_runs, RX12, 193),
  (0, yX12_membersHad, RX12, 194),
  (0, yX12_goesBack, RX12, 133),
  (0, yX12_gladHere, RX12, 196),
  (0, yX12_isBetter, RX12, 197),
  (0, yX12_rowsFrom, RX12, 199),
  (0, yX12_ranBody, RX12, 203),
  (1, yX12_isUnder, RX12, 204),
  (0, yX12_plainWishes, RX12, 205),
  (0, yX12_wishesActs, RX12, 206),
  (0, yX12_plainReads, RX12, 207),
  (0, yX12_readsActs, RX12, 208),
  (0, yX12_plainTalks, RX12, 209),
  (0, yX12_talksActs, RX12, 210),
  (0, yJ0_coder_7d493, RJ0, 222),
  (0, yJ0_isLatin1_aae02, RJ0, 223),
  (1, yJ1_charAt_3b067, RJ1, 224),
  (1, yJ2_charAt_3b067, RJ2, 0),
  (1, yJ0_checkIndex_df160, RJ0, 225),
  (1, yJ3_checkIndex_8e157, RJ3, 226)]
def am_cix : List (List (Nat × List Nat)) := [
  [(0, [111, 110, 0, 0, 0])],
  [(0, [1048, 1047, 0, 0, 0])],
  [(11, [376, 377, 378])],
  [(12, [1160, 1161, 1162])],
  [(11, [380, 381, 382])],
  [(12, [1167, 1168, 1169])],
  [(11, [541, 542, 543])],
  [(12, [1227, 1228, 1229])],
  [(11, [619, 620, 621])],
  [(12, [1231, 1232, 1233])],
  [(11, [635, 636, 637])],
  [(12, [1239, 1240, 1241])],
  [(11, [643, 644, 645])],
  [(12, [1243, 1244, 1245])],
  [(11, [655, 656, 657])],
  [(12, [1251, 1252, 1253])],
  [(11, [659, 660, 661])],
  [(12, [1275, 1276, 1277])],
  [(11, [664, 665, 666])],
  [(12, [1279, 1280, 1281])],
  [(11, [668, 669, 670])],
  [(12, [1291, 1292, 1293])],
  [(11, [756, 757, 758])],
  [(12, [1326, 1327, 1328])],
  [(11, [800, 801, 802])],
  [(12, [1373, 1374, 1375])],
  [(11, [825, 826, 827])],
  [(12, [1385, 1386, 1387])],
  [(11, [829, 830, 831])],
  [(12, [1389, 1390, 1391])],
  [(11, [833, 834, 835])],
  [(12, [1397, 1398, 1399])],
  [(11, [842, 843, 844])],
  [(12, [1405, 1406, 1407])],
  [(11, [855, 856, 857])],
  [(12, [1414, 1415, 1416])],
  [(11, [866, 867, 868])],
  [(12, [1422, 1423, 1424])],
  [(11, [870, 871, 872])],
  [(12, [1426, 1427, 1428])],
  [(11, [889, 890, 891])],
  [(12, [1446, 1447, 1448])],
  [(11, [904, 905, 906])],
  [(12, [1458, 1459, 1460])],
  [(11, [915, 916, 917])],
  [(12, [1466, 1467, 1468])],
  [(11, [919, 920, 921])],
  [(12, [1470, 1471, 1472])],
  [(11, [923, 924, 925])],
  [(12, [1474, 1475, 1476])],
  [(11, [1005, 1006, 1007])],
  [(12, [1509, 1510, 1511])],
  [(11, [1009, 1010, 1011])],
  [(12, [1513, 1514, 1515])],
  [(11, [1027, 1028, 1029])],
  [(12, [1517, 1518, 1519])],
  [(11, [1037, 1038, 1039])],
  [(12, [1521, 1522, 1523])],
  [(11, [1041, 1042, 1043])],
  [(12, [1525, 1526, 1527])],
  [(0, [571, 603, 0, 607, 0])],
  [(0, [937, 960, 961])],
  [(0, [954, 962, 963, 607, 577])],
  [(0, [114, 156, 0, 190, 0])],
  [(0, [389, 388, 0])],
  [(1, [391, 393, 0])],
  [(1, [456, 458, 4])],
  [(1, [399, 401, 2])],
  [(13, [408, 409, 410])],
  [(13, [418, 419, 420])],
  [(1, [395, 397, 1])],
  [(1, [463, 465, 5])],
  [(1, [467, 469, 6])],
  [(1, [404, 406, 3])],
  [(1, [471, 473, 7])],
  [(1, [485, 487, 10])],
  [(1, [475, 477, 8])],
  [(1, [480, 482, 9])],
  [(1, [501, 503, 12])],
  [(0, [506, 505, 0])],
  [(0, [551, 583, 0, 587, 0])],
  [(10, [715, 716, 717])],
  [(10, [719, 720, 721])],
  [(0, [727, 726, 1529, 587, 0])],
  [(0, [937, 990, 991])],
  [(0, [978, 992, 993, 587, 557])],
  [(2, [995, 996, 998, 933, 933, 934])],
  [(0, [114, 121, 0, 285, 0])],
  [(0, [125, 0, 0, 0, 0])],
  [(0, [154, 0, 0, 0, 0])],
  [(0, [193, 192, 0, 0, 0])],
  [(7, [1035, 879, 880])],
  [],
  [(7, [614, 615, 616])],
  [(3, [618, 490, 491])],
  [(7, [631, 632, 633])],
  [(3, [493, 495, 11])],
  [(1, [497, 498, 499])],
  [(0, [508, 511, 512, 513, 509, 522]), (2, [508, 509, 515]), (4, [508, 509, 510]), (5, [508, 509, 516]), (6, [508, 511, 517, 518, 509, 522]), (8, [508, 511, 520, 513, 509, 522]), (9, [508, 511, 521, 518, 509, 522])],
  [(0, [523, 526, 527, 528, 524, 535]), (2, [523, 524, 530]), (4, [523, 524, 525]), (5, [523, 524, 531]), (6, [523, 524, 532]), (8, [523, 524, 533]), (9, [523, 524, 534])],
  [(0, [389, 536, 0])],
  [(0, [538, 537, 0])],
  [(0, [841, 697, 698, 699, 695, 706]), (2, [841, 695, 701]), (4, [841, 695, 696]), (5, [841, 695, 702]), (6, [841, 695, 703]), (8, [841, 695, 704]), (9, [841, 695, 705])],
  [(7, [887, 652, 653])],
  [(0, [114, 195, 0, 222, 0])],
  [(10, [743, 720, 721])],
  [(0, [937, 952, 0])],
  [(0, [976, 928, 931]), (2, [976, 930, 932, 933, 928, 951]), (4, [976, 928, 929]), (5, [976, 930, 940, 933, 928, 951]), (6, [976, 928, 941]), (8, [976, 928, 942]), (9, [976, 930, 943, 944, 928, 951])],
  [(0, [1004, 956, 957, 958, 954, 975]), (2, [1004, 954, 965]), (4, [1004, 954, 955]), (5, [1004, 954, 966]), (6, [1004, 956, 967, 968, 954, 975]), (8, [1004, 954, 973]), (9, [1004, 956, 974, 968, 954, 975])],
  [(0, [193, 553, 0, 557, 0])],
  [(10, [729, 720, 721])],
  [(10, [730, 731, 732])],
  [(0, [937, 935, 936])],
  [(0, [928, 939, 930, 557, 0])],
  [(0, [193, 563, 0, 567, 0])],
  [(0, [937, 970, 971])],
  [(0, [954, 972, 956, 567, 0])],
  [(0, [114, 127, 0, 145, 0])],
  [],
  [(7, [863, 632, 633])],
  [(7, [864, 640, 641])],
  [(3, [865, 838, 839])],
  [(0, [794, 793, 0])],
  [(7, [897, 790, 791])],
  [(7, [898, 899, 900])],
  [(0, [193, 573, 0, 577, 0])],
  [(0, [937, 984, 985])],
  [(0, [978, 986, 980, 577, 0])],
  [(0, [561, 593, 0, 597, 0])],
  [(10, [740, 720, 721])],
  [(10, [741, 731, 732])],
  [(0, [937, 946, 947])],
  [(0, [928, 948, 949, 597, 567])],
  [(0, [114, 293, 0, 344, 0])],
  [(10, [676, 678, 15])],
  [(10, [681, 683, 16])],
  [(10, [685, 687, 17])],
  [(10, [690, 692, 18])],
  [(7, [689, 640, 641])],
  [(0, [694, 697, 698, 699, 695, 706]), (2, [694, 695, 701]), (4, [694, 695, 696]), (5, [694, 695, 702]), (6, [694, 695, 703]), (8, [694, 695, 704]), (9, [694, 695, 705])],
  [(0, [707, 708, 711]), (2, [707, 710, 712, 713, 708, 742]), (4, [707, 708, 709]), (5, [707, 710, 734, 727, 708, 742]), (6, [707, 708, 735]), (8, [707, 708, 736]), (9, [707, 710, 737, 738, 708, 742])],
  [(10, [744, 746, 19])],
  [(10, [767, 720, 721])],
  [(7, [680, 652, 653])],
  [],
  [(10, [748, 750, 20])],
  [(10, [772, 774, 21])],
  [(10, [776, 778, 22])],
  [(10, [781, 783, 23])],
  [(10, [785, 787, 24])],
  [(0, [389, 780, 0])],
  [(7, [789, 790, 791])],
  [(10, [799, 753, 754])],
  [(10, [808, 769, 770])],
  [(10, [809, 811, 25])],
  [(10, [813, 814, 815])],
  [(10, [817, 818, 819])],
  [(10, [821, 823, 26])],
  [(0, [114, 113, 0, 374, 0])],
  [(0, [119, 118, 0, 0, 0])],
  [(0, [125, 0, 0, 0, 0])],
  [(0, [291, 290, 0, 0, 0])],
  [(0, [154, 0, 0, 0, 0])],
  [(1, [384, 385, 386])],
  [(3, [489, 490, 491])],
  [(0, [546, 545, 0])],
  [(3, [610, 611, 612])],
  [(0, [551, 550, 0, 0, 0])],
  [(0, [561, 560, 0, 0, 0])],
  [(0, [571, 570, 0, 0, 0])],
  [(0, [581, 580, 0, 0, 0])],
  [(0, [591, 590, 0, 0, 0])],
  [(0, [601, 600, 0, 0, 0])],
  [(0, [193, 609, 0, 0, 0])],
  [(11, [623, 625, 13])],
  [(3, [627, 628, 629])],
  [(7, [639, 640, 641])],
  [(11, [647, 649, 14])],
  [(7, [651, 652, 653])],
  [(7, [663, 632, 633])],
  [(10, [672, 673, 674])],
  [(10, [752, 753, 754])],
  [(0, [761, 760, 0])],
  [(10, [763, 764, 765])],
  [(10, [768, 769, 770])],
  [(10, [804, 805, 806])],
  [(3, [837, 838, 839])],
  [(11, [847, 849, 27])],
  [(0, [853, 852, 0])],
  [(7, [859, 860, 861])],
  [(11, [874, 876, 28])],
  [(3, [883, 884, 885])],
  [(0, [794, 888, 0])],
  [(7, [878, 879, 880])],
  [(7, [893, 894, 895])],
  [(7, [902, 790, 791])],
  [(7, [903, 899, 900])],
  [(11, [908, 910, 29])],
  [(10, [912, 814, 815])],
  [],
  [(10, [914, 818, 819])],
  [(0, [927, 928, 931]), (2, [927, 930, 932, 933, 928, 951]), (4, [927, 928, 929]), (5, [927, 930, 940, 933, 928, 951]), (6, [927, 928, 941]), (8, [927, 928, 942]), (9, [927, 930, 943, 944, 928, 951])],
  [(0, [953, 956, 957, 958, 954, 975]), (2, [953, 954, 965]), (4, [953, 954, 955]), (5, [953, 954, 966]), (6, [953, 956, 967, 968, 954, 975]), (8, [953, 954, 973]), (9, [953, 956, 974, 968, 954, 975])],
  [(0, [977, 980, 981, 982, 978, 1003]), (2, [977, 980, 987, 988, 978, 1003]), (4, [977, 978, 979]), (5, [977, 978, 999]), (6, [977, 978, 1000]), (8, [977, 980, 1001, 982, 978, 1003]), (9, [977, 978, 1002])],
  [(0, [1013, 1014, 1017]), (2, [1013, 1014, 1018]), (4, [1013, 1014, 1015]), (5, [1013, 1014, 1019]), (6, [1013, 1014, 1020]), (8, [1013, 1014, 1021]), (9, [1013, 1014, 1022])],
  [(3, [1031, 1032, 1033])],
  [(0, [114, 1050, 0, 1158, 0])],
  [(0, [1165, 1164, 0])],
  [(12, [1175, 1177, 31])],
  [(13, [1196, 409, 410])],
  [(13, [1197, 419, 420])],
  [(12, [1183, 1185, 33])],
  [(12, [1210, 1212, 39])],
  [(12, [1214, 1216, 40])],
  [(12, [1202, 1204, 37])],
  [(12, [1219, 1221, 41])],
  [(12, [1198, 1200, 36])],
  [(12, [1206, 1208, 38])],
  [(12, [1192, 1194, 35])],
  [(12, [1188, 1190, 34])],
  [(12, [1179, 1181, 32])],
  [(12, [1171, 1173, 30])],
  [(12, [1235, 1237, 42])],
  [(12, [1247, 1249, 43])],
  [(12, [1263, 1265, 46])],
  [(12, [1271, 1273, 48])],
  [(12, [1255, 1257, 44])],
  [(12, [1259, 1261, 45])],
  [(12, [1267, 1269, 47])],
  [(12, [1287, 1289, 50])],
  [(12, [1283, 1285, 49])],
  [(12, [1314, 1316, 55])],
  [(12, [1318, 1320, 56])],
  [(12, [1322, 1324, 57])],
  [(0, [1304, 1303, 0])],
  [(12, [1306, 1308, 53])],
  [(12, [1310, 1312, 54])],
  [(12, [1295, 1297, 51])],
  [(12, [1299, 1301, 52])],
  [(12, [1357, 1359, 64])],
  [(12, [1353, 1355, 63])],
  [(12, [1349, 1351, 62])],
  [(12, [1361, 1363, 65])],
  [(12, [1345, 1347, 61])],
  [(12, [1365, 1367, 66])],
  [(12, [1369, 1371, 67])],
  [(12, [1337, 1339, 59])],
  [(12, [1341, 1343, 60])],
  [(0, [1331, 1330, 0])],
  [(12, [1333, 1335, 58])],
  [(12, [1381, 1383, 69])],
  [(12, [1377, 1379, 68])],
  [(12, [1393, 1395, 70])],
  [(12, [1401, 1403, 71])],
  [(0, [1412, 1411, 0])],
  [(12, [1418, 1420, 72])],
  [(12, [1430, 1432, 73])],
  [(12, [1434, 1436, 74])],
  [(12, [1438, 1440, 75])],
  [(12, [1442, 1444, 76])],
  [(12, [1454, 1456, 78])],
  [(12, [1450, 1452, 77])],
  [(12, [1462, 1464, 79])],
  [(12, [1485, 1487, 81])],
  [(0, [1483, 1482, 0])],
  [(12, [1489, 1491, 82])],
  [(12, [1478, 1480, 80])],
  [(12, [1497, 1499, 84])],
  [(12, [1493, 1495, 83])],
  [(12, [1505, 1507, 86])],
  [(12, [1501, 1503, 85])],
  [(13, [412, 413, 414])],
  [(13, [422, 423, 424])],
  [(0, [427, 426, 0])],
  [],
  [(0, [430, 429, 0])],
  [(0, [435, 434, 0])]]
def am_fix : List (List (Nat × List Nat)) := [
  [(0, [213, 214])],
  [(1, [157, 0])],
  [(1, [160, 0])],
  [(1, [162, 0])],
  [(1, [163, 0])],
  [(1, [164, 0])],
  [(1, [165, 0])],
  [(1, [166, 0])],
  [(1, [167, 0])],
  [(1, [168, 0])],
  [(1, [169, 0])],
  [(2, [207, 208])],
  [(2, [204, 205])],
  [(3, [223, 0])],
  [(3, [226, 0])],
  [(3, [229, 0])],
  [(3, [233, 0])],
  [(3, [235, 0])],
  [(3, [238, 0])],
  [(3, [240, 0])],
  [(3, [242, 0])],
  [(3, [244, 0])],
  [(3, [246, 0])],
  [(3, [248, 0])],
  [(3, [250, 0])],
  [(3, [254, 0])],
  [(3, [256, 0])],
  [(0, [197, 0]), (2, [197, 0]), (4, [197, 0]), (5, [197, 0]), (6, [197, 0]), (8, [197, 0]), (9, [197, 0])],
  [(1, [158, 0])],
  [(0, [196, 0]), (2, [196, 0]), (4, [196, 0]), (5, [196, 0]), (6, [196, 0]), (8, [196, 0]), (9, [196, 0])],
  [(0, [199, 0]), (2, [199, 0]), (4, [199, 0]), (5, [199, 0]), (6, [199, 0]), (8, [199, 0]), (9, [199, 0])],
  [(0, [206, 0]), (2, [206, 0]), (4, [206, 0]), (5, [206, 0]), (6, [206, 0]), (8, [206, 0]), (9, [206, 0])],
  [(2, [200, 201]), (5, [200, 201])],
  [(10, [307, 0])],
  [(6, [209, 210]), (9, [209, 210])],
  [(7, [128, 0])],
  [(7, [131, 0])],
  [(7, [133, 0])],
  [(7, [135, 0])],
  [(3, [232, 0])],
  [(3, [252, 0])],
  [(9, [202, 203])],
  [(9, [211, 212])],
  [(10, [297, 0])],
  [(10, [299, 0])],
  [(10, [301, 0])],
  [(10, [303, 0])],
  [(10, [305, 0])],
  [(10, [306, 0])],
  [(10, [308, 0])],
  [(10, [310, 0])],
  [(10, [311, 0])],
  [(10, [312, 0])],
  [(10, [313, 0])],
  [(10, [315, 0])],
  [(10, [295, 0])],
  [(3, [224, 0])],
  [(10, [296, 0])],
  [(3, [230, 0])],
  [(3, [251, 0])],
  [(3, [227, 0])],
  [(7, [129, 0])],
  [(3, [236, 0])],
  [(11, [347, 0])],
  [(11, [348, 0])],
  [(11, [349, 0])],
  [(11, [350, 0])],
  [(11, [351, 0])],
  [(11, [352, 0])],
  [(11, [353, 0])],
  [(11, [354, 0])],
  [(11, [355, 0])],
  [(3, [245, 0])],
  [(3, [243, 0])],
  [(3, [241, 0])],
  [(1, [161, 0])],
  [(3, [239, 0])],
  [(3, [231, 0])],
  [(3, [237, 0])],
  [(3, [228, 0])],
  [(0, [198, 0]), (2, [198, 0]), (4, [198, 0]), (5, [198, 0]), (6, [198, 0]), (8, [198, 0]), (9, [198, 0])],
  [(0, [215, 0]), (2, [215, 0]), (4, [215, 0]), (5, [215, 0]), (6, [215, 0]), (8, [215, 0]), (9, [215, 0])],
  [(3, [225, 0])],
  [(7, [136, 0])],
  [(3, [234, 0])],
  [(7, [130, 0])],
  [(1, [159, 0])],
  [(7, [132, 0])],
  [(7, [134, 0])],
  [(3, [253, 0])],
  [(10, [300, 0])],
  [(10, [302, 0])],
  [(10, [304, 0])],
  [(3, [255, 0])],
  [(10, [314, 0])],
  [(3, [249, 0])],
  [(3, [247, 0])],
  [(10, [298, 0])],
  [(10, [309, 0])],
  [(12, [1051, 0])],
  [(12, [1052, 0])],
  [(12, [1053, 0])],
  [(12, [1060, 0])],
  [(12, [1061, 0])],
  [(12, [1064, 0])],
  [(12, [1065, 0])],
  [(12, [1066, 0])],
  [(12, [1067, 0])],
  [(12, [1068, 0])],
  [(12, [1069, 0])],
  [(12, [1074, 0])],
  [(12, [1078, 0])],
  [(12, [1079, 0])],
  [(12, [1080, 0])],
  [(12, [1081, 0])],
  [(12, [1056, 0])],
  [(12, [1057, 0])],
  [(12, [1058, 0])],
  [(12, [1055, 0])],
  [(12, [1059, 0])],
  [(12, [1062, 0])],
  [(12, [1063, 0])],
  [(12, [1070, 0])],
  [(12, [1072, 0])],
  [(12, [1073, 0])],
  [(12, [1071, 0])],
  [(12, [1075, 0])],
  [(12, [1076, 0])],
  [(12, [1077, 0])],
  [(12, [1082, 0])],
  [(12, [1084, 0])],
  [(12, [1083, 0])],
  [(12, [1085, 0])],
  [(12, [1054, 0])],
  [(13, [1539])],
  [(13, [1540])]]
def am_mix : List (Nat × Nat) := [(0, 87), (602, 105), (529, 105), (700, 105), (959, 105), (155, 91), (387, 91), (402, 91), (459, 91), (407, 91), (394, 91), (398, 91), (466, 91), (470, 91), (474, 91), (478, 91), (483, 91), (488, 91), (500, 91), (504, 91), (507, 91), (582, 103), (714, 103), (989, 103), (120, 89), (1034, 89), (613, 89), (630, 89), (492, 89), (496, 89), (840, 89), (886, 89), (194, 92), (1023, 92), (522, 92), (535, 92), (706, 92), (742, 92), (951, 92), (975, 92), (1003, 92), (938, 92), (552, 100), (728, 100), (934, 100), (562, 101), (519, 101), (969, 101), (126, 90), (881, 90), (642, 90), (654, 90), (634, 90), (617, 90), (862, 90), (792, 90), (901, 90), (896, 90), (572, 102), (514, 102), (983, 102), (592, 104), (739, 104), (945, 104), (292, 93), (675, 93), (766, 93), (679, 93), (684, 93), (688, 93), (755, 93), (718, 93), (722, 93), (733, 93), (693, 93), (747, 93), (751, 93), (775, 93), (771, 93), (779, 93), (784, 93), (788, 93), (807, 93), (812, 93), (816, 93), (820, 93), (824, 93), (112, 88), (379, 88), (383, 88), (544, 88), (547, 88), (622, 88), (638, 88), (646, 88), (658, 88), (662, 88), (667, 88), (671, 88), (759, 88), (803, 88), (828, 88), (832, 88), (836, 88), (845, 88), (850, 88), (854, 88), (858, 88), (869, 88), (873, 88), (877, 88), (892, 88), (907, 88), (911, 88), (918, 88), (922, 88), (926, 88), (1008, 88), (1012, 88), (1030, 88), (1040, 88), (1044, 88), (626, 88), (650, 88), (762, 88), (1049, 94), (1166, 94), (1238, 94), (1250, 94), (1332, 94), (1266, 94), (1274, 94), (1433, 94), (1445, 94), (1163, 94), (1178, 94), (1186, 94), (1195, 94), (1201, 94), (1222, 94), (1217, 94), (1213, 94), (1209, 94), (1205, 94), (1191, 94), (1182, 94), (1174, 94), (1170, 94), (1258, 94), (1230, 94), (1234, 94), (1242, 94), (1246, 94), (1262, 94), (1270, 94), (1305, 94), (1254, 94), (1278, 94), (1290, 94), (1286, 94), (1282, 94), (1298, 94), (1309, 94), (1325, 94), (1321, 94), (1317, 94), (1313, 94), (1302, 94), (1294, 94), (1340, 94), (1360, 94), (1356, 94), (1352, 94), (1364, 94), (1348, 94), (1368, 94), (1372, 94), (1344, 94), (1336, 94), (1329, 94), (1384, 94), (1380, 94), (1376, 94), (1388, 94), (1396, 94), (1392, 94), (1404, 94), (1400, 94), (1413, 94), (1408, 94), (1421, 94), (1417, 94), (1425, 94), (1437, 94), (1441, 94), (1429, 94), (1457, 94), (1453, 94), (1449, 94), (1465, 94), (1461, 94), (1469, 94), (1473, 94), (1488, 94), (1484, 94), (1492, 94), (1481, 94), (1500, 94), (1496, 94), (1508, 94), (1504, 94), (1477, 94), (1512, 94), (1516, 94), (1520, 94), (1524, 94), (1528, 94), (795, 107), (539, 95), (390, 95), (411, 96), (421, 96), (415, 96), (425, 96), (428, 97), (431, 96), (436, 98), (115, 0)]
def am_lix : List (List Nat) := [[604, 605, 606], [170, 172, 174, 176, 178, 180, 182, 184, 186, 188], [584, 585, 586], [257, 259, 261, 263, 265, 267, 269, 271, 273, 275, 277, 279, 281, 283], [216, 218, 220], [554, 555, 556], [564, 565, 566], [137, 139, 141, 143], [574, 575, 576], [594, 595, 596], [316, 318, 320, 322, 324, 326, 328, 330, 332, 334, 336, 338, 340, 342], [356, 358, 360, 362, 364, 366, 368, 370, 372], [1086, 1088, 1090, 1092, 1094, 1096, 1098, 1100, 1102, 1104, 1106, 1108, 1110, 1112, 1114, 1116, 1118, 1120, 1122, 1124, 1126, 1128, 1130, 1132, 1134, 1136, 1138, 1140, 1142, 1144, 1146, 1148, 1150, 1152, 1154, 1156]]
def am_iix : List (Nat × Nat) := [(599, 105), (152, 91), (579, 103), (117, 89), (191, 92), (549, 100), (559, 101), (123, 90), (569, 102), (589, 104), (289, 93), (109, 88), (1046, 94)]
def am_oi : Nat := 227
def am_fts : List (List Nat) := [[0, 0, 0], [0, 0, 0, 0, 2, 2, 2, 2, 2, 0], [0, 0, 0], [2, 2, 0, 2, 0, 2, 0, 2, 0, 2, 0, 2, 2, 2], [0, 0, 0], [0, 0, 0], [0, 0, 0], [0, 0, 0, 2], [0, 0, 0], [0, 0, 0], [2, 2, 2, 0, 2, 2, 0, 0, 2, 2, 2, 2, 2, 2], [2, 2, 2, 2, 2, 2, 2, 2, 3], [0, 2, 2, 2, 3, 0, 0, 0, 3, 0, 2, 2, 0, 0, 2, 2, 2, 2, 2, 2, 0, 3, 3, 0, 2, 0, 0, 0, 2, 2, 2, 2, 0, 0, 0, 0]]
def am_lcs : List Int := [-9223372036854775808, 10]
def am_strs : List (List Int) := [[114, 101, 97, 100], [99, 111, 109, 101], [105, 107, 101], [111, 97, 116, 104], [109, 107, 98, 112, 111, 115], [60, 61, 62], [105, 107, 101, 32], [111, 97, 116, 104, 32], [114, 101, 97, 100, 32], [99, 111, 109, 101, 32]]
def am_srs : List (String × Nat × Nat) := [(RX1, 78, 0), (RX1, 84, 1), (RX1, 85, 2), (RX1, 87, 3), (RX1, 100, 4), (RX1, 106, 5), (RX12, 130, 6), (RX12, 112, 4), (RX12, 118, 5), (RX12, 136, 7), (RX12, 141, 8), (RX12, 143, 9)]
def am_nests : List Cond := [.methodLinkNest RX3 11 yX7_init "ClubReads", .methodLinkNest RX3 38 yX1_init "ClubReads", .methodLinkNest RX11 23 yX7_init "ClubReads", .methodLinkNest RX11 50 yX1_init "ClubReads"]
end
section
/-! THE SMALL MACHINE: a run of the tables' code over a memory of numbered cells, by fuel. Values: an int, a long, a cell's number or null, a thing outside (0 the script, 1+2j the text j, 2+2j its bytes, 1000 a value that is passed on alone). -/
abbrev am_V : Type := Int ⊕ (Int ⊕ (Option Nat ⊕ Nat))
/-- kinds and sizes of the cells, their ints, longs, references. Kinds: 0 .. 12 an object of that number, 20 int[], 21 long[], 22 boolean[], 23 int[][], 24 members -/
abbrev am_M : Type := List (Nat × Nat) × (Nat → Nat → Int) × (Nat → Nat → Int) × (Nat → Nat → Option Nat)
abbrev am_R : Type := Option am_V × am_M
abbrev am_K : Type := Nat → Nat → Nat → List (Nat × am_V) → List am_V → am_M → Option am_R
def am_ins (mid pc : Nat) : Option am_I := (am_code.getD mid []).getD pc none
def am_y (mid : Nat) : MethodName := (am_ms.getD mid (objectInit, object_method_1_code, 1, none)).1
def am_b (mid : Nat) : ByteArray := (am_ms.getD mid (objectInit, object_method_1_code, 1, none)).2.1
def am_l (mid : Nat) : Nat := (am_ms.getD mid (objectInit, object_method_1_code, 1, none)).2.2.1
def am_r (mid : Nat) : Option FieldType := (am_ms.getD mid (objectInit, object_method_1_code, 1, none)).2.2.2
def am_F (x c : Nat) : Option Nat := match am_fl[x]? with
  | some q => q.2.2.2.lookup c
  | none => none
def am_N (x : Nat) : Nat := match am_cl[x]? with
  | some q => q.2.2.1
  | none => 0
def am_T (x c : Nat) : Option Nat := match am_cl[x]? with
  | some q => q.2.2.2.lookup c
  | none => none
def am_ft (c f : Nat) : Nat := (am_fts.getD c []).getD f 9
def am_nf (c : Nat) : Nat := (am_fts.getD c []).length
def am_w (z : Int) : Int := (Int32.ofInt z).toInt
def am_cat (v : am_V) : Nat := match v with
  | .inr (.inl _) => 2
  | _ => 1
def am_st1 (lv : List (Nat × am_V)) (i : Nat) (v : am_V) : List (Nat × am_V) := (i, v) :: lv.filter (fun q => !(q.1 == i) && !(q.1 + 1 == i && am_cat q.2 == 2))
def am_st2 (lv : List (Nat × am_V)) (i : Nat) (v : am_V) : List (Nat × am_V) := (i, v) :: lv.filter (fun q => !(q.1 == i) && (!(q.1 == i + 1) && !(q.1 + 1 == i && am_cat q.2 == 2)))
def am_ldi (lv : List (Nat × am_V)) (i : Nat) : Option Int := match lv.lookup i with
  | some (.inl v) => some v
  | _ => none
def am_ldj (lv : List (Nat × am_V)) (i : Nat) : Option Int := match lv.lookup i with
  | some (.inr (.inl v)) => some v
  | _ => none
def am_lda (lv : List (Nat × am_V)) (i : Nat) : Option (Option Nat ⊕ Nat) := match lv.lookup i with
  | some (.inr (.inr v)) => some v
  | _ => none
def am_args : Nat → List am_V → List (Nat × am_V)
  | _, [] => []
  | i, v :: vs => (i, v) :: am_args (if am_cat v = 2 then i + 2 else i + 1) vs
def am_cats (st : List am_V) : Nat := (st.map am_cat).sum
def am_gf (M : am_M) (c k f : Nat) : am_V := match am_ft c f with
  | 0 => .inl (M.2.1 k f)
  | 3 => .inl (M.2.1 k f)
  | 1 => .inr (.inl (M.2.2.1 k f))
  | _ => .inr (.inr (.inl (M.2.2.2 k f)))
def am_up {α : Type} (f : Nat → Nat → α) (k i : Nat) (v : α) : Nat → Nat → α := fun k' i' => if k' = k ∧ i' = i then v else f k' i'
def am_z {α : Type} (f : Nat → Nat → α) (k : Nat) (v : α) : Nat → Nat → α := fun k' i' => if k' = k then v else f k' i'
def am_pI (M : am_M) (k i : Nat) (v : Int) : am_M := (M.1, am_up M.2.1 k i v, M.2.2.1, M.2.2.2)
def am_pJ (M : am_M) (k i : Nat) (v : Int) : am_M := (M.1, M.2.1, am_up M.2.2.1 k i v, M.2.2.2)
def am_pR (M : am_M) (k i : Nat) (v : Option Nat) : am_M := (M.1, M.2.1, M.2.2.1, am_up M.2.2.2 k i v)
/-- a value into a field of a kind: what the memory is then -/
def am_pf (M : am_M) (c k f : Nat) (v : am_V) : Option am_M := match am_ft c f, v with
  | 0, .inl z => some (am_pI M k f z)
  | 3, .inl z => if z = 0 ∨ z = 1 then some (am_pI M k f z) else none
  | 2, .inr (.inr (.inl r)) => some (am_pR M k f r)
  | _, _ => none
/-- a new cell behind all others -/
def am_nw (M : am_M) (s : Nat × Nat) : am_M := (M.1 ++ [s], am_z M.2.1 M.1.length 0, am_z M.2.2.1 M.1.length 0, am_z M.2.2.2 M.1.length none)
/-- n rows of k ints under one cell of n references -/
def am_mna (M : am_M) (n k : Nat) : am_M := (M.1 ++ (23, n) :: List.replicate n (20, k),
  (fun q i => if M.1.length ≤ q ∧ q < M.1.length + 1 + n then 0 else M.2.1 q i),
  (fun q i => if M.1.length ≤ q ∧ q < M.1.length + 1 + n then 0 else M.2.2.1 q i),
  (fun q i => if M.1.length ≤ q ∧ q < M.1.length + 1 + n then (if q = M.1.length ∧ i < n then some (M.1.length + 1 + i) else none) else M.2.2.2 q i))
def am_in (j : Int) (n : Nat) : Prop := 0 ≤ j ∧ j < n ∧ j < 10000
theorem am_in_dec (j : Int) (n : Nat) : am_in j n ↔ (decide (0 ≤ j) && (decide (j < n) && decide (j < 10000))) = true := by
  unfold am_in; simp
def am_inb (j : Int) (n : Nat) : Bool := decide (0 ≤ j) && (decide (j < n) && decide (j < 10000))
def am_cd (c : ClassFile.Cond) (a b : Int) : Bool := match c with
  | .eq => decide (a = b)
  | .ne => decide (¬ a = b)
  | .lt => decide (a < b)
  | .ge => decide (b ≤ a)
  | .gt => decide (b < a)
  | .le => decide (a ≤ b)
def am_i2 (K : am_K) (d mid pc : Nat) (lv : List (Nat × am_V)) (st : List am_V) (M : am_M) (f : Int → Int → Option Int) : Option am_R := match st with
  | .inl y :: .inl z :: st => match f z y with
    | some v => K d mid pc lv (.inl v :: st) M
    | none => none
  | _ => none
def am_j2 (K : am_K) (d mid pc : Nat) (lv : List (Nat × am_V)) (st : List am_V) (M : am_M) (f : Int → Int → Option Int) : Option am_R := match st with
  | .inr (.inl y) :: .inr (.inl z) :: st => match f z y with
    | some v => K d mid pc lv (.inr (.inl v) :: st) M
    | none => none
  | _ => none
def am_call (K : am_K) (d mid pc : Nat) (lv : List (Nat × am_V)) (rest : List am_V) (M : am_M) (mid' : Nat) (as : List am_V) : Option am_R := match d with
  | 0 => none
  | d + 1 => if am_cats rest ≤ 8 ∧ am_cats as ≤ am_l mid' then match K d mid' 0 (am_args 0 as) [] M with
      | some r => K (d + 1) mid pc lv (r.1.toList ++ rest) r.2
      | none => none
    else none
/-- what a method of that type may hand back -/
def am_rok (mid : Nat) (v : Option am_V) : Bool := match am_r mid, v with
  | none, none => true
  | some .int, some (.inl _) => true
  | some .boolean, some (.inl z) => decide (z = 0) || decide (z = 1)
  | some .char, some (.inl z) => decide (0 ≤ z) && decide (z < 65536)
  | some .byte, some (.inl z) => decide (-128 ≤ z) && decide (z < 128)
  | some .long, some (.inr (.inl _)) => true
  | some (.object _), some (.inr (.inr _)) => true
  | _, _ => false
def am_ret (mid : Nat) (v : Option am_V) (M : am_M) : Option am_R := if am_rok mid v = true then some (v, M) else none
def am_op (i : Instr) : Option (Int → Int → Option Int) := match i with
  | .iadd => some fun z y => some (z + y)
  | .isub => some fun z y => some (z - y)
  | .imul => some fun z y => some (z * y)
  | .iand => some fun z y => some (Int32.ofInt z &&& Int32.ofInt y).toInt
  | .ior => some fun z y => some (Int32.ofInt z ||| Int32.ofInt y).toInt
  | .ixor => some fun z y => some (Int32.ofInt z ^^^ Int32.ofInt y).toInt
  | .ishl => some fun z y => some (Int32.ofInt z <<< (Int32.ofInt y &&& 31)).toInt
  | .ishr => some fun z y => some (Int32.ofInt z >>> (Int32.ofInt y &&& 31)).toInt
  | .iushr => some fun z y => some ((Int32.ofInt z).toUInt32 >>> ((Int32.ofInt y).toUInt32 &&& Int32.toUInt32 31)).toInt32.toInt
  | .idiv => some fun z y => if Int32.ofInt y = 0 then none else some (Int32.ofInt z / Int32.ofInt y).toInt
  | .irem => some fun z y => if Int32.ofInt y = 0 then none else some (Int32.ofInt z - Int32.ofInt z / Int32.ofInt y * Int32.ofInt y).toInt
  | _ => none
def am_opj (i : Instr) : Option (Int → Int → Option Int) := match i with
  | .ladd => some fun z y => some (z + y)
  | .lmul => some fun z y => some (z * y)
  | .ldiv => some fun z y => if Int64.ofInt y = 0 then none else some (Int64.ofInt z / Int64.ofInt y).toInt
  | .lrem => some fun z y => if Int64.ofInt y = 0 then none else some (Int64.ofInt z - Int64.ofInt z / Int64.ofInt y * Int64.ofInt y).toInt
  | _ => none
def am_kd (M : am_M) (v : am_V) : Option Nat := match v with
  | .inr (.inr (.inl (some k))) => match M.1[k]? with
    | some s => if s.1 < 13 then some s.1 else none
    | none => none
  | .inr (.inr (.inr e)) => if e % 2 = 1 ∧ e < 21 then some 13 else none
  | _ => none
/-- which of the own kinds a value of kind c may be taken for: by the words of the launch -/
def am_io (x c : Nat) : Option Bool := match x with
  | 5 => some (c == 5 || c == 2)
  | 6 => some (c == 6 || c == 9)
  | 8 => some (c == 8 || c == 0)
  | _ => none
def am_mem (c : Nat) : Bool := c == 0 || c == 2 || c == 4 || c == 5 || c == 6 || c == 8 || c == 9
/-- the instructions that make one step: the next place, locals, stack, memory -/
def am_s (X : Nat × (Nat → Int)) (pc : Nat) (lv : List (Nat × am_V)) (st : List am_V) (M : am_M) (i : Instr) (n x : Nat) : Option (Nat × List (Nat × am_V) × List am_V × am_M) :=
  match i with
  | .iconst v => some (pc + n, lv, .inl v :: st, M)
  | .bipush v => some (pc + n, lv, .inl v :: st, M)
  | .sipush v => some (pc + n, lv, .inl v :: st, M)
  | .lconst v => some (pc + n, lv, .inr (.inl ((v : Nat) : Int)) :: st, M)
  | .iload_n k => (am_ldi lv k).map fun v => (pc + n, lv, .inl v :: st, M)
  | .iload k => (am_ldi lv k).map fun v => (pc + n, lv, .inl v :: st, M)
  | .lload_n k => (am_ldj lv k).map fun v => (pc + n, lv, .inr (.inl v) :: st, M)
  | .lload k => (am_ldj lv k).map fun v => (pc + n, lv, .inr (.inl v) :: st, M)
  | .aload_n k => (am_lda lv k).map fun v => (pc + n, lv, .inr (.inr v) :: st, M)
  | .aload k => (am_lda lv k).map fun v => (pc + n, lv, .inr (.inr v) :: st, M)
  | .istore_n k => match st with
    | .inl v :: st => some (pc + n, am_st1 lv k (.inl v), st, M)
    | _ => none
  | .istore k => match st with
    | .inl v :: st => some (pc + n, am_st1 lv k (.inl v), st, M)
    | _ => none
  | .lstore_n k => match st with
    | .inr (.inl v) :: st => some (pc + n, am_st2 lv k (.inr (.inl v)), st, M)
    | _ => none
  | .lstore k => match st with
    | .inr (.inl v) :: st => some (pc + n, am_st2 lv k (.inr (.inl v)), st, M)
    | _ => none
  | .astore_n k => match st with
    | .inr (.inr (.inl (some v))) :: st => some (pc + n, am_st1 lv k (.inr (.inr (.inl (some v)))), st, M)
    | _ => none
  | .astore k => match st with
    | .inr (.inr (.inl (some v))) :: st => some (pc + n, am_st1 lv k (.inr (.inr (.inl (some v)))), st, M)
    | _ => none
  | .iinc k v => (am_ldi lv k).map fun z => (pc + n, am_st1 lv k (.inl (z + v)), st, M)
  | .ineg => match st with
    | .inl z :: st => some (pc + n, lv, .inl (-z) :: st, M)
    | _ => none
  | .i2l => match st with
    | .inl z :: st => some (pc + n, lv, .inr (.inl (am_w z)) :: st, M)
    | _ => none
  | .i2c => match st with
    | .inl z :: st => some (pc + n, lv, .inl ((Int32.ofInt z).toUInt32 % 65536).toInt32.toInt :: st, M)
    | _ => none
  | .lcmp => match st with
    | .inr (.inl y) :: .inr (.inl z) :: st => some (pc + n, lv, .inl (lg_cmp (Int64.ofInt z) (Int64.ofInt y)).toInt :: st, M)
    | _ => none
  | .dup => match st with
    | v :: st => if am_cat v = 1 then some (pc + n, lv, v :: v :: st, M) else none
    | _ => none
  | .dup2 => match st with
    | v :: w :: st => if am_cat v = 1 ∧ am_cat w = 1 then some (pc + n, lv, v :: w :: v :: w :: st, M) else none
    | _ => none
  | .pop => match st with
    | v :: st => if am_cat v = 1 then some (pc + n, lv, st, M) else none
    | _ => none
  | .goto _ => some (x, lv, st, M)
  | .ifCond c _ => match st with
    | .inl z :: st => if am_cd c (am_w z) 0 = true then some (x, lv, st, M) else some (pc + n, lv, st, M)
    | _ => none
  | .if_icmp c _ => match st with
    | .inl y :: .inl z :: st => if am_cd c (am_w z) (am_w y) = true then some (x, lv, st, M) else some (pc + n, lv, st, M)
    | _ => none
  | .tableswitch dflt lo hi offs => match st with
    | .inl z :: st => if am_w z < lo ∨ hi < am_w z then some (((pc : Int) + dflt).toNat, lv, st, M) else match offs[(am_w z - lo).toNat]? with
      | some off => some (((pc : Int) + off).toNat, lv, st, M)
      | none => none
    | _ => none
  | .lookupswitch dflt ps => match st with
    | .inl z :: st => some (((pc : Int) + Op.lookupswitch.offset ps.toList dflt (am_w z)).toNat, lv, st, M)
    | _ => none
  | .ldc _ => some (pc + n, lv, .inr (.inr (.inr x)) :: st, M)
  | .ldc_w _ => some (pc + n, lv, .inl x :: st, M)
  | .ldc2_w _ => some (pc + n, lv, .inr (.inl (am_lcs.getD x 0)) :: st, M)
  | .getstatic _ => match x with
    | 0 => some (pc + n, lv, .inl 1 :: st, M)
    | _ => some (pc + n, lv, .inr (.inr (.inr 1000)) :: st, M)
  | .getfield _ => match st with
    | .inr (.inr (.inl (some k))) :: st => match M.1[k]? with
      | some s => match am_F x s.1 with
        | some f => if s.1 < 13 ∧ f < s.2 then some (pc + n, lv, am_gf M s.1 k f :: st, M) else none
        | none => none
      | none => none
    | .inr (.inr (.inr e)) :: st => if e % 2 = 1 ∧ e < 21 then match am_F x 13 with
        | some 0 => some (pc + n, lv, .inr (.inr (.inr (e + 1))) :: st, M)
        | some 1 => some (pc + n, lv, .inl 0 :: st, M)
        | _ => none
      else none
    | _ => none
  | .putfield _ => match st with
    | v :: .inr (.inr (.inl (some k))) :: st => match M.1[k]? with
      | some s => match am_F x s.1 with
        | some f => if s.1 < 13 ∧ f < s.2 then (am_pf M s.1 k f v).map fun M' => (pc + n, lv, st, M') else none
        | none => none
      | none => none
    | _ => none
  | .arraylength => match st with
    | .inr (.inr (.inl (some k))) :: st => match M.1[k]? with
      | some s => if 20 ≤ s.1 ∧ s.1 < 25 then some (pc + n, lv, .inl s.2 :: st, M) else none
      | none => none
    | .inr (.inr (.inr e)) :: st => if e = 0 then some (pc + n, lv, .inl X.1 :: st, M) else if e % 2 = 0 ∧ e < 22 then some (pc + n, lv, .inl (am_strs.getD (e / 2 - 1) []).length :: st, M) else none
    | _ => none
  | .iaload => match st with
    | .inl j :: .inr (.inr (.inl (some k))) :: st => match M.1[k]? with
      | some s => if s.1 = 20 ∧ am_inb j s.2 = true then some (pc + n, lv, .inl (M.2.1 k j.toNat) :: st, M) else none
      | none => none
    | .inl j :: .inr (.inr (.inr e)) :: st => if e = 0 ∧ am_inb j X.1 = true then some (pc + n, lv, .inl (X.2 j.toNat) :: st, M) else none
    | _ => none
  | .baload => match st with
    | .inl j :: .inr (.inr (.inl (some k))) :: st => match M.1[k]? with
      | some s => if s.1 = 22 ∧ am_inb j s.2 = true then some (pc + n, lv, .inl (M.2.1 k j.toNat) :: st, M) else none
      | none => none
    | .inl j :: .inr (.inr (.inr e)) :: st => if e % 2 = 0 ∧ 0 < e ∧ e < 22 ∧ am_inb j (am_strs.getD (e / 2 - 1) []).length = true then some (pc + n, lv, .inl ((am_strs.getD (e / 2 - 1) []).getD j.toNat 0) :: st, M) else none
    | _ => none
  | .laload => match st with
    | .inl j :: .inr (.inr (.inl (some k))) :: st => match M.1[k]? with
      | some s => if s.1 = 21 ∧ am_inb j s.2 = true then some (pc + n, lv, .inr (.inl (M.2.2.1 k j.toNat)) :: st, M) else none
      | none => none
    | _ => none
  | .aaload => match st with
    | .inl j :: .inr (.inr (.inl (some k))) :: st => match M.1[k]? with
      | some s => if (s.1 = 23 ∨ s.1 = 24) ∧ am_inb j s.2 = true then some (pc + n, lv, .inr (.inr (.inl (M.2.2.2 k j.toNat))) :: st, M) else none
      | none => none
    | _ => none
  | .iastore => match st with
    | .inl v :: .inl j :: .inr (.inr (.inl (some k))) :: st => match M.1[k]? with
      | some s => if s.1 = 20 ∧ am_inb j s.2 = true then some (pc + n, lv, st, am_pI M k j.toNat v) else none
      | none => none
    | _ => none
  | .bastore => match st with
    | .inl v :: .inl j :: .inr (.inr (.inl (some k))) :: st => match M.1[k]? with
      | some s => if s.1 = 22 ∧ am_inb j s.2 = true ∧ (v = 0 ∨ v = 1) then some (pc + n, lv, st, am_pI M k j.toNat v) else none
      | none => none
    | _ => none
  | .lastore => match st with
    | .inr (.inl v) :: .inl j :: .inr (.inr (.inl (some k))) :: st => match M.1[k]? with
      | some s => if s.1 = 21 ∧ am_inb j s.2 = true then some (pc + n, lv, st, am_pJ M k j.toNat v) else none
      | none => none
    | _ => none
  | .aastore => match st with
    | .inr (.inr (.inl (some v))) :: .inl j :: .inr (.inr (.inl (some k))) :: st => match M.1[k]?, M.1[v]? with
      | some s, some sv => if s.1 = 24 ∧ am_inb j s.2 = true ∧ am_mem sv.1 = true then some (pc + n, lv, st, am_pR M k j.toNat (some v)) else none
      | _, _ => none
    | _ => none
  | .new _ => if x < 13 then some (pc + n, lv, .inr (.inr (.inl (some M.1.length))) :: st, am_nw M (x, am_nf x)) else none
  | .newarray t => match st with
    | .inl k :: st => if 0 ≤ k ∧ k ≤ 10000 then match t with
        | .int => some (pc + n, lv, .inr (.inr (.inl (some M.1.length))) :: st, am_nw M (20, k.toNat))
        | .long => some (pc + n, lv, .inr (.inr (.inl (some M.1.length))) :: st, am_nw M (21, k.toNat))
        | .boolean => some (pc + n, lv, .inr (.inr (.inl (some M.1.length))) :: st, am_nw M (22, k.toNat))
        | _ => none
      else none
    | _ => none
  | .anewarray _ => match st with
    | .inl k :: st => if 0 ≤ k ∧ k ≤ 10000 then some (pc + n, lv, .inr (.inr (.inl (some M.1.length))) :: st, am_nw M (24, k.toNat)) else none
    | _ => none
  | .multianewarray _ _ => match st with
    | .inl k :: .inl q :: st => if 0 ≤ k ∧ k ≤ 10000 ∧ 0 ≤ q ∧ q ≤ 10000 then some (pc + n, lv, .inr (.inr (.inl (some M.1.length))) :: st, am_mna M q.toNat k.toNat) else none
    | _ => none
  | .instanceof _ => match st with
    | .inr (.inr (.inl (some k))) :: st => match M.1[k]? with
      | some s => if am_mem s.1 = true then (am_io x s.1).map fun b => (pc + n, lv, .inl (if b then 1 else 0) :: st, M) else none
      | none => none
    | _ => none
  | i => match am_op i with
    | some f => match st with
      | .inl y :: .inl z :: st => (f z y).map fun v => (pc + n, lv, .inl v :: st, M)
      | _ => none
    | none => match am_opj i with
      | some f => match st with
        | .inr (.inl y) :: .inr (.inl z) :: st => (f z y).map fun v => (pc + n, lv, .inr (.inl v) :: st, M)
        | _ => none
      | none => none
/-- System.arraycopy over rows of ints -/
def am_cp (M : am_M) (st : List am_V) : Option (List am_V × am_M) := match st with
  | .inl n :: .inl dp :: .inr (.inr (.inl (some k))) :: .inl sp :: .inr (.inr (.inl (some q))) :: st => match M.1[k]?, M.1[q]? with
    | some s, some t => if s.1 = 20 ∧ t.1 = 20 ∧ 0 ≤ n ∧ 0 ≤ dp ∧ 0 ≤ sp ∧ sp + n ≤ t.2 ∧ dp + n ≤ s.2 ∧ sp + n ≤ 10000 ∧ dp + n ≤ 10000 ∧ am_cats st ≤ 8 then
        some (st, (M.1, (fun c i => if c = k ∧ (dp.toNat ≤ i ∧ i < dp.toNat + n.toNat) then M.2.1 q (sp.toNat + (i - dp.toNat)) else M.2.1 c i), M.2.2.1, M.2.2.2))
      else none
    | _, _ => none
  | _ => none
/-- one instruction, what comes behind it by K -/
def am_x (X : Nat × (Nat → Int)) (K : am_K) (d mid pc : Nat) (lv : List (Nat × am_V)) (st : List am_V) (M : am_M) (i : Instr) (n x : Nat) : Option am_R :=
  match i with
  | .ireturn => match st with
    | [.inl v] => am_ret mid (some (.inl v)) M
    | _ => none
  | .lreturn => match st with
    | [.inr (.inl v)] => am_ret mid (some (.inr (.inl v))) M
    | _ => none
  | .areturn => match st with
    | [.inr (.inr v)] => am_ret mid (some (.inr (.inr v))) M
    | _ => none
  | .return_ => match st with
    | [] => am_ret mid none M
    | _ => none
  | .invokestatic _ => match am_T x 0 with
    | some t => if am_N x ≤ st.length then am_call K d mid (pc + n) lv (st.drop (am_N x)) M t (st.take (am_N x)).reverse else none
    | none => match am_N x with
      | 5 => match d with
        | 0 => none
        | d + 1 => match am_cp M st with
          | some q => K (d + 1) mid (pc + n) lv q.1 q.2
          | none => none
      | _ => none
  | .invokespecial _ => match st.drop (am_N x) with
    | v :: rest => match am_kd M v with
      | some _ => match am_T x 0 with
        | some t => if t = am_oi then (match d with
            | 0 => none
            | d + 1 => if am_cats rest ≤ 8 ∧ am_N x = 0 then K (d + 1) mid (pc + n) lv rest M else none)
          else if am_N x ≤ st.length then am_call K d mid (pc + n) lv rest M t (v :: (st.take (am_N x)).reverse) else none
        | none => none
      | none => none
    | [] => none
  | .invokevirtual _ => match st.drop (am_N x) with
    | v :: rest => match am_kd M v with
      | some c => match am_T x c with
        | some t => if am_N x ≤ st.length then am_call K d mid (pc + n) lv rest M t (v :: (st.take (am_N x)).reverse) else none
        | none => none
      | none => none
    | [] => none
  | i => match am_s X pc lv st M i n x with
    | some q => K d mid q.1 q.2.1 q.2.2.1 q.2.2.2
    | none => none
def am_step (X : Nat × (Nat → Int)) (K : am_K) : am_K := fun d mid pc lv st M => match am_ins mid pc with
  | some q => am_x X K d mid pc lv st M q.1 q.2.1 q.2.2
  | none => none
/-- the run by fuel -/
def am_run (X : Nat × (Nat → Int)) : Nat → am_K := fun n => Nat.rec (fun _ _ _ _ _ _ => none) (fun _ K => am_step X K) n
theorem am_run_succ (X : Nat × (Nat → Int)) (n : Nat) : am_run X (n + 1) = am_step X (am_run X n) := rfl
end
section
/-! THE SMALL MACHINE AND THE MACHINE: how numbered cells lie in the heap -/
abbrev am_G : Type := va_G × (Nat → ClassId) × (Nat → Option Nat)
def am_tb : List Cond := lw_tbl.filter goodWord
def am_tr (G : am_G) (a : Nat → Nat) (v : am_V) : Value := match v with
  | .inl z => .int (Int32.ofInt z)
  | .inr (.inl z) => .long (Int64.ofInt z)
  | .inr (.inr (.inl r)) => va_rf (r.map a)
  | .inr (.inr (.inr e)) => va_rf (G.2.2 e)
def am_sv (G : am_G) (a : Nat → Nat) (st : List am_V) : List Value := st.map (am_tr G a)
def am_lv (G : am_G) (a : Nat → Nat) (lv : List (Nat × am_V)) : List (Nat × Value) := lv.map (fun q => (q.1, am_tr G a q.2))
def am_ce (G : am_G) (a : Nat → Nat) (M : am_M) (k : Nat) (s : Nat × Nat) : va_E :=
  if s.1 = 20 then .inl (G.2.1 0, s.2, .inl (fun i => Int32.ofInt (M.2.1 k i)))
  else if s.1 = 21 then .inl (G.2.1 1, s.2, .inr (.inl (fun i => Int64.ofInt (M.2.2.1 k i))))
  else if s.1 = 22 then .inl (G.2.1 2, s.2, .inl (fun i => Int32.ofInt (M.2.1 k i)))
  else if s.1 = 23 then .inl (G.2.1 3, s.2, .inr (.inr (.inr (.inr (fun i => (M.2.2.2 k i).map a)))))
  else if s.1 = 24 then .inl (G.2.1 4, s.2, .inr (.inr (.inr (.inr (fun i => (M.2.2.2 k i).map a)))))
  else .inr (s.1, (List.range s.2).map (fun i => am_tr G a (am_gf M s.1 k i)))
def am_ws (G : am_G) (a : Nat → Nat) (M : am_M) : va_W := M.1.mapIdx (fun k s => (a k, am_ce G a M k s))
def am_tys (G : am_G) : List (ClassId × FieldType) := [(G.2.1 0, .int), (G.2.1 1, .long), (G.2.1 2, .boolean), (G.2.1 3, .array .int), (G.2.1 4, .object "ClubReads$Member")]
def am_sz (M : am_M) : Nat := (M.1.map (fun q => q.2)).sum
def am_wfv (n : Nat) (v : am_V) : Prop := ∀ r, v = .inr (.inr (.inl (some r))) → r < n
def am_wfs (n : Nat) (st : List am_V) : Prop := ∀ v ∈ st, am_wfv n v
def am_wfl (n : Nat) (lv : List (Nat × am_V)) : Prop := ∀ q ∈ lv, am_wfv n q.2
def am_wf (M : am_M) : Prop := ∀ k i r, M.2.2.2 k i = some r → r < M.1.length
def am_ag (n : Nat) (a a' : Nat → Nat) : Prop := ∀ i, i < n → a' i = a i
theorem am_tr_cat (G : am_G) (a : Nat → Nat) (v : am_V) : (am_tr G a v).category = am_cat v := by
  rcases v with z | z | r | e
  · rfl
  · rfl
  · cases r <;> rfl
  · show (va_rf (G.2.2 e)).category = 1
    cases G.2.2 e <;> rfl
theorem am_tr_ag {G : am_G} {a a' : Nat → Nat} {n : Nat} {v : am_V} (h : am_ag n a a') (hv : am_wfv n v) : am_tr G a' v = am_tr G a v := by
  rcases v with z | z | r | e
  · rfl
  · rfl
  · cases r with
    | none => rfl
    | some r => show va_rf (some (a' r)) = va_rf (some (a r)); rw [h r (hv r rfl)]
  · rfl
theorem am_sv_ag {G : am_G} {a a' : Nat → Nat} {n : Nat} {st : List am_V} (h : am_ag n a a') (hv : am_wfs n st) : am_sv G a' st = am_sv G a st := List.map_congr_left fun v hm => am_tr_ag h (hv v hm)
theorem am_lv_ag {G : am_G} {a a' : Nat → Nat} {n : Nat} {lv : List (Nat × am_V)} (h : am_ag n a a') (hv : am_wfl n lv) : am_lv G a' lv = am_lv G a lv := List.map_congr_left fun q hm => by rw [am_tr_ag h (hv q hm)]
theorem am_lv_st1 (G : am_G) (a : Nat → Nat) (lv : List (Nat × am_V)) (i : Nat) (v : am_V) : (i, am_tr G a v) :: (am_lv G a lv).filter (fun q => !(q.1 == i) && !(q.1 + 1 == i && q.2.category == 2)) = am_lv G a (am_st1 lv i v) := by
  unfold am_st1 am_lv
  rw [List.map_cons, List.filter_map]
  congr 2
  apply List.filter_congr
  intro q _
  simp only [Function.comp, am_tr_cat]
theorem am_lv_st2 (G : am_G) (a : Nat → Nat) (lv : List (Nat × am_V)) (i : Nat) (v : am_V) : (i, am_tr G a v) :: (am_lv G a lv).filter (fun q => !(q.1 == i) && (!(q.1 == i + 1) && !(q.1 + 1 == i && q.2.category == 2))) = am_lv G a (am_st2 lv i v) := by
  unfold am_st2 am_lv
  rw [List.map_cons, List.filter_map]
  congr 2
  apply List.filter_congr
  intro q _
  simp only [Function.comp, am_tr_cat]
theorem am_lv_args (G : am_G) (a : Nat → Nat) (as : List am_V) (i : Nat) : am_lv G a (am_args i as) = lv_args i (am_sv G a as) := by
  induction as generalizing i with
  | nil => rfl
  | cons v vs ih =>
    show (i, am_tr G a v) :: am_lv G a (am_args _ vs) = (i, am_tr G a v) :: lv_args _ (am_sv G a vs)
    rw [ih, am_tr_cat]
theorem am_wf_st1 {n : Nat} {lv : List (Nat × am_V)} {i : Nat} {v : am_V} (h : am_wfl n lv) (hv : am_wfv n v) : am_wfl n (am_st1 lv i v) := by
  intro q hq
  rcases List.mem_cons.mp hq with rfl | hq
  · exact hv
  · exact h q (List.mem_filter.mp hq).1
theorem am_wf_st2 {n : Nat} {lv : List (Nat × am_V)} {i : Nat} {v : am_V} (h : am_wfl n lv) (hv : am_wfv n v) : am_wfl n (am_st2 lv i v) := by
  intro q hq
  rcases List.mem_cons.mp hq with rfl | hq
  · exact hv
  · exact h q (List.mem_filter.mp hq).1
theorem am_wf_args {n : Nat} {as : List am_V} (h : am_wfs n as) (i : Nat) : am_wfl n (am_args i as) := by
  induction as generalizing i with
  | nil => intro q hq; cases hq
  | cons v vs ih =>
    intro q hq
    rcases List.mem_cons.mp hq with rfl | hq
    · exact h _ List.mem_cons_self
    · exact ih (fun w hw => h w (List.mem_cons_of_mem _ hw)) _ q hq
theorem am_look {lv : List (Nat × am_V)} {i : Nat} {v : am_V} (h : lv.lookup i = some v) : (i, v) ∈ lv := by
  induction lv with
  | nil => cases h
  | cons q l ih =>
    obtain ⟨j, w⟩ := q
    rw [List.lookup_cons] at h
    by_cases e : i = j
    · subst e
      simp at h
      subst h
      exact List.mem_cons_self
    · have : (i == j) = false := by simpa using e
      rw [this] at h
      exact List.mem_cons_of_mem _ (ih h)
theorem am_at {G : am_G} {a : Nat → Nat} {ls : Array Slot} {nL : Nat} {lv : List (Nat × am_V)} {i : Nat} {v : am_V} (h : lv_has ls nL (am_lv G a lv)) (hl : lv.lookup i = some v) : ls[i]? = some (.val (am_tr G a v)) :=
  h.2.2 (i, am_tr G a v) (List.mem_map.mpr ⟨(i, v), am_look hl, rfl⟩)
theorem am_lt_of_at {G : am_G} {a : Nat → Nat} {ls : Array Slot} {nL : Nat} {lv : List (Nat × am_V)} {i : Nat} {v : am_V} (h : lv_has ls nL (am_lv G a lv)) (hl : lv.lookup i = some v) : i < nL := by
  rw [← h.1]; exact lv_lt (am_at h hl)
theorem am_ldi_look {lv : List (Nat × am_V)} {i : Nat} {v : Int} (h : am_ldi lv i = some v) : lv.lookup i = some (.inl v) := by
  unfold am_ldi at h
  split at h
  · rename_i w hw; cases h; exact hw
  · cases h
theorem am_ldj_look {lv : List (Nat × am_V)} {i : Nat} {v : Int} (h : am_ldj lv i = some v) : lv.lookup i = some (.inr (.inl v)) := by
  unfold am_ldj at h
  split at h
  · rename_i w hw; cases h; exact hw
  · cases h
theorem am_lda_look {lv : List (Nat × am_V)} {i : Nat} {v : Option Nat ⊕ Nat} (h : am_lda lv i = some v) : lv.lookup i = some (.inr (.inr v)) := by
  unfold am_lda at h
  split at h
  · rename_i w hw; cases h; exact hw
  · cases h
/-- a reference is null or an address -/
theorem am_tr_ref (G : am_G) (a : Nat → Nat) (v : Option Nat ⊕ Nat) : am_tr G a (.inr (.inr v)) = .null ∨ ∃ x, am_tr G a (.inr (.inr v)) = .ref x := by
  rcases v with r | e
  · cases r with
    | none => exact Or.inl rfl
    | some r => exact Or.inr ⟨a r, rfl⟩
  · show va_rf (G.2.2 e) = _ ∨ ∃ x, va_rf (G.2.2 e) = _
    cases G.2.2 e with
    | none => exact Or.inl rfl
    | some x => exact Or.inr ⟨x, rfl⟩
theorem am_ws_get {G : am_G} {a : Nat → Nat} {M : am_M} {k : Nat} {s : Nat × Nat} (h : M.1[k]? = some s) : (am_ws G a M)[k]? = some (a k, am_ce G a M k s) := by
  unfold am_ws
  rw [List.getElem?_mapIdx, h]
  rfl
theorem am_ce_congr {G : am_G} {a : Nat → Nat} {M M' : am_M} {k : Nat} (h1 : M'.2.1 k = M.2.1 k) (h2 : M'.2.2.1 k = M.2.2.1 k) (h3 : M'.2.2.2 k = M.2.2.2 k) (s : Nat × Nat) : am_ce G a M' k s = am_ce G a M k s := by
  have e : ∀ i, am_gf M' s.1 k i = am_gf M s.1 k i := fun i => by unfold am_gf; rw [h1, h2, h3]
  unfold am_ce
  simp only [h1, h2, h3, e]
theorem am_ws_set {G : am_G} {a : Nat → Nat} {M M' : am_M} {k : Nat} {s : Nat × Nat} (h1 : M'.1 = M.1) (hs : M.1[k]? = some s) (hoff : ∀ q, q ≠ k → M'.2.1 q = M.2.1 q ∧ M'.2.2.1 q = M.2.2.1 q ∧ M'.2.2.2 q = M.2.2.2 q) {z : va_E} (hz : z = am_ce G a M' k s) : (am_ws G a M).set k (a k, z) = am_ws G a M' := by
  subst hz
  apply List.ext_getElem?
  intro q
  unfold am_ws
  rw [List.getElem?_set, List.getElem?_mapIdx, List.getElem?_mapIdx, List.length_mapIdx, h1]
  by_cases e : k = q
  · subst e
    rw [if_pos rfl, if_pos (List.getElem?_eq_some_iff.mp hs).1, hs]
    rfl
  · rw [if_neg e]
    obtain ⟨o1, o2, o3⟩ := hoff q (fun h => e h.symm)
    cases M.1[q]? with
    | none => rfl
    | some s' => simp only [Option.map_some, am_ce_congr o1 o2 o3]
theorem am_up_ne {α : Type} {f : Nat → Nat → α} {k i q : Nat} {v : α} (h : q ≠ k) : am_up f k i v q = f q := by
  funext j
  unfold am_up
  rw [if_neg (fun e => h e.1)]
theorem am_up_row {α : Type} {f : Nat → Nat → α} {k i j : Nat} {v : α} : am_up f k i v k j = if j = i then v else f k j := by
  unfold am_up
  by_cases e : j = i
  · rw [if_pos ⟨rfl, e⟩, if_pos e]
  · rw [if_neg (fun q => e q.2), if_neg e]
theorem am_z_ne {α : Type} {f : Nat → Nat → α} {k q : Nat} {v : α} (h : q ≠ k) : am_z f k v q = f q := by
  funext j
  unfold am_z
  rw [if_neg h]
theorem am_ce_ag {G : am_G} {a a' : Nat → Nat} {M : am_M} (hw : am_wf M) (h : am_ag M.1.length a a') (k : Nat) (s : Nat × Nat) : am_ce G a' M k s = am_ce G a M k s := by
  have e1 : ∀ i, (M.2.2.2 k i).map a' = (M.2.2.2 k i).map a := fun i => by
    cases hr : M.2.2.2 k i with
    | none => rfl
    | some r => simp only [Option.map_some]; rw [h r (hw k i r hr)]
  have e2 : ∀ i, am_tr G a' (am_gf M s.1 k i) = am_tr G a (am_gf M s.1 k i) := fun i => by
    apply am_tr_ag h
    intro r hr
    unfold am_gf at hr
    split at hr
    · cases hr
    · cases hr
    · cases hr
    · have hr2 : M.2.2.2 k i = some r := by injection hr with h1; injection h1 with h2; injection h2
      exact hw k i r hr2
  unfold am_ce
  simp only [e1, e2]
theorem am_ws_ag {G : am_G} {a a' : Nat → Nat} {M : am_M} (hw : am_wf M) (h : am_ag M.1.length a a') : am_ws G a' M = am_ws G a M := by
  apply List.ext_getElem?
  intro q
  unfold am_ws
  rw [List.getElem?_mapIdx, List.getElem?_mapIdx]
  cases hq : M.1[q]? with
  | none => rfl
  | some s =>
    simp only [Option.map_some, am_ce_ag hw h]
    rw [h q (List.getElem?_eq_some_iff.mp hq).1]
end
section
/-! one step of the small machine is one step of the machine -/
def am_kin : List Nat := [0, 2, 4, 5, 6, 8, 9]
def am_cn (c : Nat) : String := (vwCl.getD c (RX0, TX0, 0)).1
def am_sl : List Nat := am_strs.map List.length
def am_sb : List (List Int32) := am_strs.map (fun t => t.map Int32.ofInt)
/-- what holds of the launch and of what lies outside, at a method's entry -/
def am_Ex (G : am_G) (X : Nat × (Nat → Int)) (A : Nat → Prop) (s : State) : Prop :=
  (∀ w ∈ am_nests, va_Nw w s) ∧ (∀ c ∈ am_kin, c ≠ 4 → va_Nw (.castable (am_cn c) RX4) s) ∧ (∀ x ∈ [5, 6, 8], ∀ c ∈ am_kin, c ≠ x → match am_io x c with
    | some true => va_Nw (.castable (am_cn c) (am_cn x)) s
    | _ => va_Nc (am_cn c) (am_cn x) s) ∧ va_AO RX4 s ∧ va_AOA .int s ∧
  (∃ adK adV : Nat → Nat, vk_S 10 am_sl am_sb adK adV A s s.heap ∧ (∀ j, j < 10 → G.2.2 (1 + 2 * j) = some (adK j) ∧ G.2.2 (2 + 2 * j) = some (adV j)) ∧ ∀ q ∈ am_srs, ∃ tx, vk_R q.1 q.2.1 tx (adK q.2.2) s) ∧
  (∃ b : Nat, G.2.2 0 = some b ∧ va_T .int b X.1 (fun j => .int (Int32.ofInt (X.2 j))) A s s.heap) ∧
  va_Z "java/lang/String" "COMPACT_STRINGS" "Z" (.int 1) A s s.heap ∧ va_Z "jdk/internal/util/Preconditions" "SIOOBE_FORMATTER" "Ljava/util/function/BiFunction;" (va_rf (G.2.2 1000)) A s s.heap
/-- a method stands at its code -/
def am_Cx (G : am_G) (X : Nat × (Nat → Int)) (p : Program) (s : State) (m : MethodId) (args : Array Value) (meth : Method) (c : Code) (mid : Nat) (A : Nat → Prop) : Prop :=
  p.tables.exec = Jvm.exec ∧ c.code = am_b mid ∧ c.maxLocals = am_l mid ∧ s.vm.findClass (am_y mid).cls = some m.cls ∧ (∀ w ∈ am_tb, w.before args s = true) ∧ va_K G.1 vwCl (am_tys G) s ∧ ((am_y mid).name = "<init>" → meth.name = "<init>") ∧ (∀ q : Nat, s.heap.size ≤ q → A q) ∧ am_Ex G X A s
/-- the cells lie in the heap -/
def am_Wd (G : am_G) (a : Nat → Nat) (M : am_M) (A : Nat → Prop) (s : State) (H : Heap) (locs : List Loc) : Prop :=
  va_P G.1 vwCl (am_ws G a M) H ∧ va_D A (am_ws G a M) ∧ va_S A s.heap H locs
def am_Stp (l : Launch) (G : am_G) (X : Nat × (Nat → Int)) (mid pc : Nat) (lv : List (Nat × am_V)) (st : List am_V) (M : am_M) (pc' : Nat) (lv' : List (Nat × am_V)) (st' : List am_V) (M' : am_M) : Prop :=
  (M.1.length ≤ M'.1.length ∧ am_sz M ≤ am_sz M') ∧
  (am_wf M → am_wfl M.1.length lv → am_wfs M.1.length st → am_wf M' ∧ am_wfl M'.1.length lv' ∧ am_wfs M'.1.length st') ∧
  ∀ (p : Program) (e : Env) (R : Room) (s : State) (m : MethodId) (args : Array Value) (below : List Frame) (meth : Method) (c : Code) (A : Nat → Prop) (Q : State → Prop) (a : Nat → Nat) (ls : Array Slot) (H : Heap) (locs : List Loc) (cells slots : Nat),
    am_Cx G X p s m args meth c mid A → lv_has ls (am_l mid) (am_lv G a lv) → am_wf M → am_wfl M.1.length lv → am_wfs M.1.length st → am_Wd G a M A s H locs →
    cells + (M'.1.length - M.1.length) ≤ R.cells → slots + (am_sz M' - am_sz M) ≤ R.slots →
    (∀ (a' : Nat → Nat) (ls' : Array Slot) (H' : Heap) (locs' : List Loc), am_ag M.1.length a a' → lv_has ls' (am_l mid) (am_lv G a' lv') → am_Wd G a' M' A s H' locs' →
      W p l e R s m args below meth c H' locs' (cells + (M'.1.length - M.1.length)) (slots + (am_sz M' - am_sz M)) Q (F0 m pc' ls' (am_sv G a' st'))) →
    W p l e R s m args below meth c H locs cells slots Q (F0 m pc ls (am_sv G a st))
theorem am_wfs_tl {n : Nat} {v : am_V} {st : List am_V} (h : am_wfs n (v :: st)) : am_wfs n st := fun w hw => h w (List.mem_cons_of_mem _ hw)
theorem am_wfs_hd {n : Nat} {v : am_V} {st : List am_V} (h : am_wfs n (v :: st)) : am_wfv n v := h v List.mem_cons_self
theorem am_wfs_cons {n : Nat} {v : am_V} {st : List am_V} (hv : am_wfv n v) (h : am_wfs n st) : am_wfs n (v :: st) := fun w hw => by
  rcases List.mem_cons.mp hw with rfl | hw
  · exact hv
  · exact h w hw
theorem am_wfv_i (n : Nat) (z : Int) : am_wfv n (.inl z) := fun _ h => by cases h
theorem am_wfv_j (n : Nat) (z : Int) : am_wfv n (.inr (.inl z)) := fun _ h => by cases h
theorem am_wfv_e (n : Nat) (z : Nat) : am_wfv n (.inr (.inr (.inr z))) := fun _ h => by cases h
theorem am_wfv_r {n : Nat} {r : Option Nat} (h : ∀ k, r = some k → k < n) : am_wfv n (.inr (.inr (.inl r))) := fun k hk => h k (by injection hk with h1; injection h1 with h2; injection h2)
theorem am_ag_rf (n : Nat) (a : Nat → Nat) : am_ag n a a := fun _ _ => rfl
section
variable {l : Launch} {G : am_G} {X : Nat × (Nat → Int)} {mid pc pc' : Nat} {lv lv' : List (Nat × am_V)} {st st' : List am_V} {M M' : am_M}
theorem am_Stp.loc (hw : am_wfl M.1.length lv → am_wfs M.1.length st → am_wfl M.1.length lv' ∧ am_wfs M.1.length st')
    (hr : ∀ (p : Program) (e : Env) (R : Room) (s : State) (m : MethodId) (args : Array Value) (below : List Frame) (meth : Method) (c : Code) (A : Nat → Prop) (Q : State → Prop) (a : Nat → Nat) (ls : Array Slot) (H : Heap) (locs : List Loc) (cells slots : Nat),
      am_Cx G X p s m args meth c mid A → lv_has ls (am_l mid) (am_lv G a lv) → am_Wd G a M A s H locs →
      (∀ ls' : Array Slot, lv_has ls' (am_l mid) (am_lv G a lv') → W p l e R s m args below meth c H locs cells slots Q (F0 m pc' ls' (am_sv G a st'))) →
      W p l e R s m args below meth c H locs cells slots Q (F0 m pc ls (am_sv G a st))) : am_Stp l G X mid pc lv st M pc' lv' st' M := by
  refine ⟨⟨Nat.le_refl _, Nat.le_refl _⟩, fun w1 w2 w3 => ⟨w1, hw w2 w3⟩, ?_⟩
  intro p e R s m args below meth c A Q a ls H locs cells slots C hl w1 w2 w3 hW _ _ k
  rw [Nat.sub_self, Nat.sub_self] at k
  exact hr p e R s m args below meth c A Q a ls H locs cells slots C hl hW (fun ls' hl' => k a ls' H locs (am_ag_rf _ _) hl' hW)
theorem am_Stp.pure (hw : am_wfl M.1.length lv → am_wfs M.1.length st → am_wfs M.1.length st')
    (hr : ∀ (p : Program) (e : Env) (R : Room) (s : State) (m : MethodId) (args : Array Value) (below : List Frame) (meth : Method) (c : Code) (A : Nat → Prop) (Q : State → Prop) (a : Nat → Nat) (ls : Array Slot) (H : Heap) (locs : List Loc) (cells slots : Nat),
      am_Cx G X p s m args meth c mid A → lv_has ls (am_l mid) (am_lv G a lv) → am_Wd G a M A s H locs →
      W p l e R s m args below meth c H locs cells slots Q (F0 m pc' ls (am_sv G a st')) →
      W p l e R s m args below meth c H locs cells slots Q (F0 m pc ls (am_sv G a st))) : am_Stp l G X mid pc lv st M pc' lv st' M :=
  am_Stp.loc (fun w2 w3 => ⟨w2, hw w2 w3⟩) (fun p e R s m args below meth c A Q a ls H locs cells slots C hl hW k => hr p e R s m args below meth c A Q a ls H locs cells slots C hl hW (k ls hl))
/-- as pure, with what is known of the memory -/
theorem am_Stp.pureW (hw : am_wf M → am_wfl M.1.length lv → am_wfs M.1.length st → am_wfs M.1.length st')
    (hr : ∀ (p : Program) (e : Env) (R : Room) (s : State) (m : MethodId) (args : Array Value) (below : List Frame) (meth : Method) (c : Code) (A : Nat → Prop) (Q : State → Prop) (a : Nat → Nat) (ls : Array Slot) (H : Heap) (locs : List Loc) (cells slots : Nat),
      am_Cx G X p s m args meth c mid A → lv_has ls (am_l mid) (am_lv G a lv) → am_Wd G a M A s H locs →
      W p l e R s m args below meth c H locs cells slots Q (F0 m pc' ls (am_sv G a st')) →
      W p l e R s m args below meth c H locs cells slots Q (F0 m pc ls (am_sv G a st))) : am_Stp l G X mid pc lv st M pc' lv st' M := by
  refine ⟨⟨Nat.le_refl _, Nat.le_refl _⟩, fun w1 w2 w3 => ⟨w1, w2, hw w1 w2 w3⟩, ?_⟩
  intro p e R s m args below meth c A Q a ls H locs cells slots C hl w1 w2 w3 hW _ _ k
  rw [Nat.sub_self, Nat.sub_self] at k
  exact hr p e R s m args below meth c A Q a ls H locs cells slots C hl hW (k a ls H locs (am_ag_rf _ _) hl hW)
/-- a cell is written -/
theorem am_Stp.put (h1 : M'.1 = M.1) (hw : am_wf M → am_wfs M.1.length st → am_wf M' ∧ am_wfs M.1.length st')
    (hr : ∀ (p : Program) (e : Env) (R : Room) (s : State) (m : MethodId) (args : Array Value) (below : List Frame) (meth : Method) (c : Code) (A : Nat → Prop) (Q : State → Prop) (a : Nat → Nat) (ls : Array Slot) (H : Heap) (locs : List Loc) (cells slots : Nat),
      am_Cx G X p s m args meth c mid A → lv_has ls (am_l mid) (am_lv G a lv) → am_wfs M.1.length st → am_Wd G a M A s H locs →
      (∀ (H' : Heap) (locs' : List Loc), am_Wd G a M' A s H' locs' → W p l e R s m args below meth c H' locs' cells slots Q (F0 m pc' ls (am_sv G a st'))) →
      W p l e R s m args below meth c H locs cells slots Q (F0 m pc ls (am_sv G a st))) : am_Stp l G X mid pc lv st M pc' lv st' M' := by
  have hz : am_sz M' = am_sz M := by unfold am_sz; rw [h1]
  refine ⟨⟨by rw [h1]; exact Nat.le_refl _, by rw [hz]; exact Nat.le_refl _⟩, fun w1 w2 w3 => ?_, ?_⟩
  · rw [h1]
    exact ⟨(hw w1 w3).1, w2, (hw w1 w3).2⟩
  intro p e R s m args below meth c A Q a ls H locs cells slots C hl w1 w2 w3 hW _ _ k
  rw [hz, h1, Nat.sub_self, Nat.sub_self] at k
  exact hr p e R s m args below meth c A Q a ls H locs cells slots C hl w3 hW (fun H' locs' hW' => k a ls H' locs' (am_ag_rf _ _) hl hW')
end

section
variable {l : Launch} {G : am_G} {X : Nat × (Nat → Int)} {mid pc n x : Nat} {lv : List (Nat × am_V)} {st : List am_V} {M : am_M} {q : Nat × List (Nat × am_V) × List am_V × am_M}

theorem am_k_iconst {v : Int} (hd : decode (am_b mid) pc = .ok (.iconst v, 1)) (h : am_s X pc lv st M (.iconst v) 1 x = some q) : am_Stp l G X mid pc lv st M q.1 q.2.1 q.2.2.1 q.2.2.2 := by
  cases h
  exact am_Stp.pure (fun _ w => am_wfs_cons (am_wfv_i _ _) w) (fun p e R s m args below meth c A Q a ls H locs cells slots C hl hW k => lv_iconst C.1 C.2.1 hd rfl k)
theorem am_k_bipush {v : Int} (hd : decode (am_b mid) pc = .ok (.bipush v, 2)) (hv : (Int8.ofInt v).toInt32 = Int32.ofInt v) (h : am_s X pc lv st M (.bipush v) 2 x = some q) : am_Stp l G X mid pc lv st M q.1 q.2.1 q.2.2.1 q.2.2.2 := by
  cases h
  exact am_Stp.pure (fun _ w => am_wfs_cons (am_wfv_i _ _) w) (fun p e R s m args below meth c A Q a ls H locs cells slots C hl hW k => lv_bipush C.1 C.2.1 hd hv k)
theorem am_k_sipush {v : Int} (hd : decode (am_b mid) pc = .ok (.sipush v, 3)) (hv : (Int16.ofInt v).toInt32 = Int32.ofInt v) (h : am_s X pc lv st M (.sipush v) 3 x = some q) : am_Stp l G X mid pc lv st M q.1 q.2.1 q.2.2.1 q.2.2.2 := by
  cases h
  exact am_Stp.pure (fun _ w => am_wfs_cons (am_wfv_i _ _) w) (fun p e R s m args below meth c A Q a ls H locs cells slots C hl hW k => lv_sipush C.1 C.2.1 hd hv k)
theorem am_k_lconst {v : Fin 2} (hd : decode (am_b mid) pc = .ok (.lconst v, 1)) (hv : Int64.ofNat (v : Nat) = Int64.ofInt ((v : Nat) : Int)) (h : am_s X pc lv st M (.lconst v) 1 x = some q) : am_Stp l G X mid pc lv st M q.1 q.2.1 q.2.2.1 q.2.2.2 := by
  cases h
  exact am_Stp.pure (fun _ w => am_wfs_cons (am_wfv_j _ _) w) (fun p e R s m args below meth c A Q a ls H locs cells slots C hl hW k => lv_lconst C.1 C.2.1 hd hv k)
theorem am_k_iload_n {v : Fin 4} (hd : decode (am_b mid) pc = .ok (.iload_n v, 1)) (h : am_s X pc lv st M (.iload_n v) 1 x = some q) : am_Stp l G X mid pc lv st M q.1 q.2.1 q.2.2.1 q.2.2.2 := by
  obtain ⟨z, hz, rfl⟩ := Option.map_eq_some_iff.mp (show (am_ldi lv v).map _ = some q from h)
  exact am_Stp.pure (fun _ w => am_wfs_cons (am_wfv_i _ _) w) (fun p e R s m args below meth c A Q a ls H locs cells slots C hl hW k => lv_iload_n C.1 C.2.1 hd rfl (am_at hl (am_ldi_look hz)) k)
theorem am_k_iload {v : Nat} (hd : decode (am_b mid) pc = .ok (.iload v, 2)) (h : am_s X pc lv st M (.iload v) 2 x = some q) : am_Stp l G X mid pc lv st M q.1 q.2.1 q.2.2.1 q.2.2.2 := by
  obtain ⟨z, hz, rfl⟩ := Option.map_eq_some_iff.mp (show (am_ldi lv v).map _ = some q from h)
  exact am_Stp.pure (fun _ w => am_wfs_cons (am_wfv_i _ _) w) (fun p e R s m args below meth c A Q a ls H locs cells slots C hl hW k => lv_iload C.1 C.2.1 hd (am_at hl (am_ldi_look hz)) k)
theorem am_k_lload_n {v : Fin 4} (hd : decode (am_b mid) pc = .ok (.lload_n v, 1)) (h : am_s X pc lv st M (.lload_n v) 1 x = some q) : am_Stp l G X mid pc lv st M q.1 q.2.1 q.2.2.1 q.2.2.2 := by
  obtain ⟨z, hz, rfl⟩ := Option.map_eq_some_iff.mp (show (am_ldj lv v).map _ = some q from h)
  exact am_Stp.pure (fun _ w => am_wfs_cons (am_wfv_j _ _) w) (fun p e R s m args below meth c A Q a ls H locs cells slots C hl hW k => lv_lload_n C.1 C.2.1 hd rfl (am_at hl (am_ldj_look hz)) k)
theorem am_k_lload {v : Nat} (hd : decode (am_b mid) pc = .ok (.lload v, 2)) (h : am_s X pc lv st M (.lload v) 2 x = some q) : am_Stp l G X mid pc lv st M q.1 q.2.1 q.2.2.1 q.2.2.2 := by
  obtain ⟨z, hz, rfl⟩ := Option.map_eq_some_iff.mp (show (am_ldj lv v).map _ = some q from h)
  exact am_Stp.pure (fun _ w => am_wfs_cons (am_wfv_j _ _) w) (fun p e R s m args below meth c A Q a ls H locs cells slots C hl hW k => lv_lload C.1 C.2.1 hd (am_at hl (am_ldj_look hz)) k)
theorem am_k_aload_n {v : Fin 4} (hd : decode (am_b mid) pc = .ok (.aload_n v, 1)) (h : am_s X pc lv st M (.aload_n v) 1 x = some q) : am_Stp l G X mid pc lv st M q.1 q.2.1 q.2.2.1 q.2.2.2 := by
  obtain ⟨z, hz, rfl⟩ := Option.map_eq_some_iff.mp (show (am_lda lv v).map _ = some q from h)
  refine am_Stp.pure (fun w2 w => am_wfs_cons (w2 _ (am_look (am_lda_look hz))) w) (fun p e R s m args below meth c A Q a ls H locs cells slots C hl hW k => ?_)
  have ha := am_at hl (am_lda_look hz)
  have k : W p l e R s m args below meth c H locs cells slots Q (F0 m (pc + 1) ls (am_tr G a (.inr (.inr z)) :: am_sv G a st)) := k
  rcases am_tr_ref G a z with e0 | ⟨x0, e0⟩
  · rw [e0] at ha k
    exact lv_aload_nN C.1 C.2.1 hd rfl ha k
  · rw [e0] at ha k
    exact lv_aload_n C.1 C.2.1 hd rfl ha k
theorem am_k_aload {v : Nat} (hd : decode (am_b mid) pc = .ok (.aload v, 2)) (h : am_s X pc lv st M (.aload v) 2 x = some q) : am_Stp l G X mid pc lv st M q.1 q.2.1 q.2.2.1 q.2.2.2 := by
  obtain ⟨z, hz, rfl⟩ := Option.map_eq_some_iff.mp (show (am_lda lv v).map _ = some q from h)
  refine am_Stp.pure (fun w2 w => am_wfs_cons (w2 _ (am_look (am_lda_look hz))) w) (fun p e R s m args below meth c A Q a ls H locs cells slots C hl hW k => ?_)
  have ha := am_at hl (am_lda_look hz)
  have k : W p l e R s m args below meth c H locs cells slots Q (F0 m (pc + 2) ls (am_tr G a (.inr (.inr z)) :: am_sv G a st)) := k
  rcases am_tr_ref G a z with e0 | ⟨x0, e0⟩
  · rw [e0] at ha k
    exact lv_aloadN C.1 C.2.1 hd ha k
  · rw [e0] at ha k
    exact lv_aload C.1 C.2.1 hd ha k
theorem am_k_istore_n {v : Fin 4} (hd : decode (am_b mid) pc = .ok (.istore_n v, 1)) (hn : (v : Nat) < am_l mid) (h : am_s X pc lv st M (.istore_n v) 1 x = some q) : am_Stp l G X mid pc lv st M q.1 q.2.1 q.2.2.1 q.2.2.2 := by
  simp only [am_s] at h
  split at h
  · rename_i z st'
    cases h
    exact am_Stp.loc (fun w2 w => ⟨am_wf_st1 w2 (am_wfs_hd w), am_wfs_tl w⟩) (fun p e R s m args below meth c A Q a ls H locs cells slots C hl hW k => lv_istore_n C.1 C.2.1 hd rfl hl hn (am_lv_st1 G a lv _ (.inl z)) k)
  · cases h
theorem am_k_istore {v : Nat} (hd : decode (am_b mid) pc = .ok (.istore v, 2)) (hn : v < am_l mid) (h : am_s X pc lv st M (.istore v) 2 x = some q) : am_Stp l G X mid pc lv st M q.1 q.2.1 q.2.2.1 q.2.2.2 := by
  simp only [am_s] at h
  split at h
  · rename_i z st'
    cases h
    exact am_Stp.loc (fun w2 w => ⟨am_wf_st1 w2 (am_wfs_hd w), am_wfs_tl w⟩) (fun p e R s m args below meth c A Q a ls H locs cells slots C hl hW k => lv_istore C.1 C.2.1 hd hl hn (am_lv_st1 G a lv _ (.inl z)) k)
  · cases h
theorem am_k_lstore_n {v : Fin 4} (hd : decode (am_b mid) pc = .ok (.lstore_n v, 1)) (hn : (v : Nat) + 1 < am_l mid) (h : am_s X pc lv st M (.lstore_n v) 1 x = some q) : am_Stp l G X mid pc lv st M q.1 q.2.1 q.2.2.1 q.2.2.2 := by
  simp only [am_s] at h
  split at h
  · rename_i z st'
    cases h
    exact am_Stp.loc (fun w2 w => ⟨am_wf_st2 w2 (am_wfs_hd w), am_wfs_tl w⟩) (fun p e R s m args below meth c A Q a ls H locs cells slots C hl hW k => lv_lstore_n C.1 C.2.1 hd rfl hl hn (am_lv_st2 G a lv _ (.inr (.inl z))) k)
  · cases h
theorem am_k_lstore {v : Nat} (hd : decode (am_b mid) pc = .ok (.lstore v, 2)) (hn : v + 1 < am_l mid) (h : am_s X pc lv st M (.lstore v) 2 x = some q) : am_Stp l G X mid pc lv st M q.1 q.2.1 q.2.2.1 q.2.2.2 := by
  simp only [am_s] at h
  split at h
  · rename_i z st'
    cases h
    exact am_Stp.loc (fun w2 w => ⟨am_wf_st2 w2 (am_wfs_hd w), am_wfs_tl w⟩) (fun p e R s m args below meth c A Q a ls H locs cells slots C hl hW k => lv_lstore C.1 C.2.1 hd hl hn (am_lv_st2 G a lv _ (.inr (.inl z))) k)
  · cases h
theorem am_k_astore_n {v : Fin 4} (hd : decode (am_b mid) pc = .ok (.astore_n v, 1)) (hn : (v : Nat) < am_l mid) (h : am_s X pc lv st M (.astore_n v) 1 x = some q) : am_Stp l G X mid pc lv st M q.1 q.2.1 q.2.2.1 q.2.2.2 := by
  simp only [am_s] at h
  split at h
  · rename_i z st'
    cases h
    exact am_Stp.loc (fun w2 w => ⟨am_wf_st1 w2 (am_wfs_hd w), am_wfs_tl w⟩) (fun p e R s m args below meth c A Q a ls H locs cells slots C hl hW k => lv_astore_n C.1 C.2.1 hd rfl hl hn (am_lv_st1 G a lv _ (.inr (.inr (.inl (some z))))) k)
  · cases h
theorem am_k_astore {v : Nat} (hd : decode (am_b mid) pc = .ok (.astore v, 2)) (hn : v < am_l mid) (h : am_s X pc lv st M (.astore v) 2 x = some q) : am_Stp l G X mid pc lv st M q.1 q.2.1 q.2.2.1 q.2.2.2 := by
  simp only [am_s] at h
  split at h
  · rename_i z st'
    cases h
    exact am_Stp.loc (fun w2 w => ⟨am_wf_st1 w2 (am_wfs_hd w), am_wfs_tl w⟩) (fun p e R s m args below meth c A Q a ls H locs cells slots C hl hW k => lv_astore C.1 C.2.1 hd hl hn (am_lv_st1 G a lv _ (.inr (.inr (.inl (some z))))) k)
  · cases h
theorem am_k_iinc {v : Nat} {z0 : Int} (hd : decode (am_b mid) pc = .ok (.iinc v z0, 3)) (h : am_s X pc lv st M (.iinc v z0) 3 x = some q) : am_Stp l G X mid pc lv st M q.1 q.2.1 q.2.2.1 q.2.2.2 := by
  obtain ⟨z, hz, rfl⟩ := Option.map_eq_some_iff.mp (show (am_ldi lv v).map _ = some q from h)
  refine am_Stp.loc (fun w2 w => ⟨am_wf_st1 w2 (am_wfv_i _ _), w⟩) (fun p e R s m args below meth c A Q a ls H locs cells slots C hl hW k => ?_)
  obtain ⟨j, hj⟩ := List.getElem?_of_mem (List.mem_map.mpr ⟨_, am_look (am_ldi_look hz), rfl⟩ : (v, am_tr G a (.inl z)) ∈ am_lv G a lv)
  exact lv_iinc (k := j) C.1 C.2.1 hd hl hj (Int32.ofInt_add z z0).symm (am_lt_of_at hl (am_ldi_look hz)) (am_lv_st1 G a lv _ (.inl (z + z0))) k
theorem am_k_ineg (hd : decode (am_b mid) pc = .ok (.ineg, 1)) (h : am_s X pc lv st M (.ineg) 1 x = some q) : am_Stp l G X mid pc lv st M q.1 q.2.1 q.2.2.1 q.2.2.2 := by
  simp only [am_s] at h
  split at h
  · rename_i z st'
    cases h
    exact am_Stp.pure (fun _ w => am_wfs_cons (am_wfv_i _ _) (am_wfs_tl w)) (fun p e R s m args below meth c A Q a ls H locs cells slots C hl hW k => lv_ineg C.1 C.2.1 hd (by rw [← Int32.ofInt_neg]; exact k))
  · cases h
theorem am_k_i2l (hd : decode (am_b mid) pc = .ok (.i2l, 1)) (h : am_s X pc lv st M (.i2l) 1 x = some q) : am_Stp l G X mid pc lv st M q.1 q.2.1 q.2.2.1 q.2.2.2 := by
  simp only [am_s] at h
  split at h
  · rename_i z st'
    cases h
    exact am_Stp.pure (fun _ w => am_wfs_cons (am_wfv_j _ _) (am_wfs_tl w)) (fun p e R s m args below meth c A Q a ls H locs cells slots C hl hW k => lv_i2l C.1 C.2.1 hd (Int64.ofInt_int32ToInt (Int32.ofInt z)).symm k)
  · cases h
theorem am_k_i2c (hd : decode (am_b mid) pc = .ok (.i2c, 1)) (h : am_s X pc lv st M (.i2c) 1 x = some q) : am_Stp l G X mid pc lv st M q.1 q.2.1 q.2.2.1 q.2.2.2 := by
  simp only [am_s] at h
  split at h
  · rename_i z st'
    cases h
    exact am_Stp.pure (fun _ w => am_wfs_cons (am_wfv_i _ _) (am_wfs_tl w)) (fun p e R s m args below meth c A Q a ls H locs cells slots C hl hW k => lv_i2c C.1 C.2.1 hd (Int32.ofInt_toInt _).symm k)
  · cases h
theorem am_k_lcmp (hd : decode (am_b mid) pc = .ok (.lcmp, 1)) (h : am_s X pc lv st M (.lcmp) 1 x = some q) : am_Stp l G X mid pc lv st M q.1 q.2.1 q.2.2.1 q.2.2.2 := by
  simp only [am_s] at h
  split at h
  · rename_i y z st'
    cases h
    exact am_Stp.pure (fun _ w => am_wfs_cons (am_wfv_i _ _) (am_wfs_tl (am_wfs_tl w))) (fun p e R s m args below meth c A Q a ls H locs cells slots C hl hW k => W.lcmp C.1 C.2.1 hd (by rw [← Int32.ofInt_toInt (lg_cmp (Int64.ofInt z) (Int64.ofInt y))]; exact k))
  · cases h
theorem am_k_dup (hd : decode (am_b mid) pc = .ok (.dup, 1)) (h : am_s X pc lv st M (.dup) 1 x = some q) : am_Stp l G X mid pc lv st M q.1 q.2.1 q.2.2.1 q.2.2.2 := by
  simp only [am_s] at h
  split at h
  · rename_i v st'
    split at h
    · rename_i hc
      cases h
      exact am_Stp.pure (fun _ w => am_wfs_cons (am_wfs_hd w) w) (fun p e R s m args below meth c A Q a ls H locs cells slots C hl hW k => lv_dup C.1 C.2.1 hd ((am_tr_cat G a v).trans hc) k)
    · cases h
  · cases h
theorem am_k_pop (hd : decode (am_b mid) pc = .ok (.pop, 1)) (h : am_s X pc lv st M (.pop) 1 x = some q) : am_Stp l G X mid pc lv st M q.1 q.2.1 q.2.2.1 q.2.2.2 := by
  simp only [am_s] at h
  split at h
  · rename_i v st'
    split at h
    · rename_i hc
      cases h
      exact am_Stp.pure (fun _ w => am_wfs_tl w) (fun p e R s m args below meth c A Q a ls H locs cells slots C hl hW k => lv_pop C.1 C.2.1 hd ((am_tr_cat G a v).trans hc) k)
    · cases h
  · cases h
theorem am_k_dup2 (hd : decode (am_b mid) pc = .ok (.dup2, 1)) (h : am_s X pc lv st M (.dup2) 1 x = some q) : am_Stp l G X mid pc lv st M q.1 q.2.1 q.2.2.1 q.2.2.2 := by
  simp only [am_s] at h
  split at h
  · rename_i v u st'
    split at h
    · rename_i hc
      cases h
      exact am_Stp.pure (fun _ w => am_wfs_cons (am_wfs_hd w) (am_wfs_cons (am_wfs_hd (am_wfs_tl w)) w)) (fun p e R s m args below meth c A Q a ls H locs cells slots C hl hW k => lv_dup2_11 C.1 C.2.1 hd ((am_tr_cat G a v).trans hc.1) ((am_tr_cat G a u).trans hc.2) k)
    · cases h
  · cases h
theorem am_k_iadd (hd : decode (am_b mid) pc = .ok (.iadd, 1)) (h : am_s X pc lv st M (.iadd) 1 x = some q) : am_Stp l G X mid pc lv st M q.1 q.2.1 q.2.2.1 q.2.2.2 := by
  simp only [am_s, am_op, am_opj] at h
  split at h
  · rename_i y z st'
    cases h
    exact am_Stp.pure (fun _ w => am_wfs_cons (am_wfv_i _ _) (am_wfs_tl (am_wfs_tl w))) (fun p e R s m args below meth c A Q a ls H locs cells slots C hl hW k => lv_iadd C.1 C.2.1 hd (by rw [← Int32.ofInt_add]; exact k))
  · cases h
theorem am_k_isub (hd : decode (am_b mid) pc = .ok (.isub, 1)) (h : am_s X pc lv st M (.isub) 1 x = some q) : am_Stp l G X mid pc lv st M q.1 q.2.1 q.2.2.1 q.2.2.2 := by
  simp only [am_s, am_op, am_opj] at h
  split at h
  · rename_i y z st'
    cases h
    exact am_Stp.pure (fun _ w => am_wfs_cons (am_wfv_i _ _) (am_wfs_tl (am_wfs_tl w))) (fun p e R s m args below meth c A Q a ls H locs cells slots C hl hW k => lv_isub C.1 C.2.1 hd (by rw [← Int32.ofInt_sub]; exact k))
  · cases h
theorem am_k_imul (hd : decode (am_b mid) pc = .ok (.imul, 1)) (h : am_s X pc lv st M (.imul) 1 x = some q) : am_Stp l G X mid pc lv st M q.1 q.2.1 q.2.2.1 q.2.2.2 := by
  simp only [am_s, am_op, am_opj] at h
  split at h
  · rename_i y z st'
    cases h
    exact am_Stp.pure (fun _ w => am_wfs_cons (am_wfv_i _ _) (am_wfs_tl (am_wfs_tl w))) (fun p e R s m args below meth c A Q a ls H locs cells slots C hl hW k => lv_imul C.1 C.2.1 hd (by rw [← Int32.ofInt_mul]; exact k))
  · cases h
theorem am_k_iand (hd : decode (am_b mid) pc = .ok (.iand, 1)) (h : am_s X pc lv st M (.iand) 1 x = some q) : am_Stp l G X mid pc lv st M q.1 q.2.1 q.2.2.1 q.2.2.2 := by
  simp only [am_s, am_op, am_opj] at h
  split at h
  · rename_i y z st'
    cases h
    exact am_Stp.pure (fun _ w => am_wfs_cons (am_wfv_i _ _) (am_wfs_tl (am_wfs_tl w))) (fun p e R s m args below meth c A Q a ls H locs cells slots C hl hW k => lv_iand C.1 C.2.1 hd (by rw [← Int32.ofInt_toInt (_ &&& _)]; exact k))
  · cases h
theorem am_k_ior (hd : decode (am_b mid) pc = .ok (.ior, 1)) (h : am_s X pc lv st M (.ior) 1 x = some q) : am_Stp l G X mid pc lv st M q.1 q.2.1 q.2.2.1 q.2.2.2 := by
  simp only [am_s, am_op, am_opj] at h
  split at h
  · rename_i y z st'
    cases h
    exact am_Stp.pure (fun _ w => am_wfs_cons (am_wfv_i _ _) (am_wfs_tl (am_wfs_tl w))) (fun p e R s m args below meth c A Q a ls H locs cells slots C hl hW k => lv_ior C.1 C.2.1 hd (by rw [← Int32.ofInt_toInt (_ ||| _)]; exact k))
  · cases h
theorem am_k_ixor (hd : decode (am_b mid) pc = .ok (.ixor, 1)) (h : am_s X pc lv st M (.ixor) 1 x = some q) : am_Stp l G X mid pc lv st M q.1 q.2.1 q.2.2.1 q.2.2.2 := by
  simp only [am_s, am_op, am_opj] at h
  split at h
  · rename_i y z st'
    cases h
    exact am_Stp.pure (fun _ w => am_wfs_cons (am_wfv_i _ _) (am_wfs_tl (am_wfs_tl w))) (fun p e R s m args below meth c A Q a ls H locs cells slots C hl hW k => lv_ixor C.1 C.2.1 hd (by rw [← Int32.ofInt_toInt (_ ^^^ _)]; exact k))
  · cases h
theorem am_k_ishl (hd : decode (am_b mid) pc = .ok (.ishl, 1)) (h : am_s X pc lv st M (.ishl) 1 x = some q) : am_Stp l G X mid pc lv st M q.1 q.2.1 q.2.2.1 q.2.2.2 := by
  simp only [am_s, am_op, am_opj] at h
  split at h
  · rename_i y z st'
    cases h
    exact am_Stp.pure (fun _ w => am_wfs_cons (am_wfv_i _ _) (am_wfs_tl (am_wfs_tl w))) (fun p e R s m args below meth c A Q a ls H locs cells slots C hl hW k => lv_ishl C.1 C.2.1 hd (by rw [← Int32.ofInt_toInt (_ <<< _)]; exact k))
  · cases h
theorem am_k_ishr (hd : decode (am_b mid) pc = .ok (.ishr, 1)) (h : am_s X pc lv st M (.ishr) 1 x = some q) : am_Stp l G X mid pc lv st M q.1 q.2.1 q.2.2.1 q.2.2.2 := by
  simp only [am_s, am_op, am_opj] at h
  split at h
  · rename_i y z st'
    cases h
    exact am_Stp.pure (fun _ w => am_wfs_cons (am_wfv_i _ _) (am_wfs_tl (am_wfs_tl w))) (fun p e R s m args below meth c A Q a ls H locs cells slots C hl hW k => lv_ishr C.1 C.2.1 hd (by rw [← Int32.ofInt_toInt (_ >>> _)]; exact k))
  · cases h
theorem am_k_iushr (hd : decode (am_b mid) pc = .ok (.iushr, 1)) (h : am_s X pc lv st M (.iushr) 1 x = some q) : am_Stp l G X mid pc lv st M q.1 q.2.1 q.2.2.1 q.2.2.2 := by
  simp only [am_s, am_op, am_opj] at h
  split at h
  · rename_i y z st'
    cases h
    exact am_Stp.pure (fun _ w => am_wfs_cons (am_wfv_i _ _) (am_wfs_tl (am_wfs_tl w))) (fun p e R s m args below meth c A Q a ls H locs cells slots C hl hW k => lv_iushr C.1 C.2.1 hd (Int32.ofInt_toInt _).symm k)
  · cases h
theorem am_k_idiv (hd : decode (am_b mid) pc = .ok (.idiv, 1)) (h : am_s X pc lv st M (.idiv) 1 x = some q) : am_Stp l G X mid pc lv st M q.1 q.2.1 q.2.2.1 q.2.2.2 := by
  simp only [am_s, am_op, am_opj] at h
  split at h
  · rename_i y z st'
    split at h
    · cases h
    · rename_i hne
      cases h
      exact am_Stp.pure (fun _ w => am_wfs_cons (am_wfv_i _ _) (am_wfs_tl (am_wfs_tl w))) (fun p e R s m args below meth c A Q a ls H locs cells slots C hl hW k => lv_idiv C.1 C.2.1 hd hne (by rw [← Int32.ofInt_toInt (_ / _)]; exact k))
  · cases h
theorem am_k_irem (hd : decode (am_b mid) pc = .ok (.irem, 1)) (h : am_s X pc lv st M (.irem) 1 x = some q) : am_Stp l G X mid pc lv st M q.1 q.2.1 q.2.2.1 q.2.2.2 := by
  simp only [am_s, am_op, am_opj] at h
  split at h
  · rename_i y z st'
    split at h
    · cases h
    · rename_i hne
      cases h
      exact am_Stp.pure (fun _ w => am_wfs_cons (am_wfv_i _ _) (am_wfs_tl (am_wfs_tl w))) (fun p e R s m args below meth c A Q a ls H locs cells slots C hl hW k => lv_irem C.1 C.2.1 hd hne (by rw [← Int32.ofInt_toInt (_ - _)]; exact k))
  · cases h
theorem am_k_ladd (hd : decode (am_b mid) pc = .ok (.ladd, 1)) (h : am_s X pc lv st M (.ladd) 1 x = some q) : am_Stp l G X mid pc lv st M q.1 q.2.1 q.2.2.1 q.2.2.2 := by
  simp only [am_s, am_op, am_opj] at h
  split at h
  · rename_i y z st'
    cases h
    exact am_Stp.pure (fun _ w => am_wfs_cons (am_wfv_j _ _) (am_wfs_tl (am_wfs_tl w))) (fun p e R s m args below meth c A Q a ls H locs cells slots C hl hW k => lv_ladd C.1 C.2.1 hd (by rw [← Int64.ofInt_add]; exact k))
  · cases h
theorem am_k_lmul (hd : decode (am_b mid) pc = .ok (.lmul, 1)) (h : am_s X pc lv st M (.lmul) 1 x = some q) : am_Stp l G X mid pc lv st M q.1 q.2.1 q.2.2.1 q.2.2.2 := by
  simp only [am_s, am_op, am_opj] at h
  split at h
  · rename_i y z st'
    cases h
    exact am_Stp.pure (fun _ w => am_wfs_cons (am_wfv_j _ _) (am_wfs_tl (am_wfs_tl w))) (fun p e R s m args below meth c A Q a ls H locs cells slots C hl hW k => lv_lmul C.1 C.2.1 hd (by rw [← Int64.ofInt_mul]; exact k))
  · cases h
theorem am_k_ldiv (hd : decode (am_b mid) pc = .ok (.ldiv, 1)) (h : am_s X pc lv st M (.ldiv) 1 x = some q) : am_Stp l G X mid pc lv st M q.1 q.2.1 q.2.2.1 q.2.2.2 := by
  simp only [am_s, am_op, am_opj] at h
  split at h
  · rename_i y z st'
    split at h
    · cases h
    · rename_i hne
      cases h
      exact am_Stp.pure (fun _ w => am_wfs_cons (am_wfv_j _ _) (am_wfs_tl (am_wfs_tl w))) (fun p e R s m args below meth c A Q a ls H locs cells slots C hl hW k => lv_ldiv C.1 C.2.1 hd hne (by rw [← Int64.ofInt_toInt (_ / _)]; exact k))
  · cases h
theorem am_k_lrem (hd : decode (am_b mid) pc = .ok (.lrem, 1)) (h : am_s X pc lv st M (.lrem) 1 x = some q) : am_Stp l G X mid pc lv st M q.1 q.2.1 q.2.2.1 q.2.2.2 := by
  simp only [am_s, am_op, am_opj] at h
  split at h
  · rename_i y z st'
    split at h
    · cases h
    · rename_i hne
      cases h
      exact am_Stp.pure (fun _ w => am_wfs_cons (am_wfv_j _ _) (am_wfs_tl (am_wfs_tl w))) (fun p e R s m args below meth c A Q a ls H locs cells slots C hl hW k => lv_lrem C.1 C.2.1 hd hne (by rw [← Int64.ofInt_toInt (_ - _)]; exact k))
  · cases h
theorem am_k_goto {off : Int} (hd : decode (am_b mid) pc = .ok (.goto off, 3)) (ht : (pc : Int) + off = (x : Int)) (h : am_s X pc lv st M (.goto off) 3 x = some q) : am_Stp l G X mid pc lv st M q.1 q.2.1 q.2.2.1 q.2.2.2 := by
  cases h
  exact am_Stp.pure (fun _ w => w) (fun p e R s m args below meth c A Q a ls H locs cells slots C hl hW k => lv_goto C.1 C.2.1 hd ht k)
theorem am_w_eq {z y : Int} : am_w z = am_w y ↔ Int32.ofInt z = Int32.ofInt y := Int32.toInt_inj
theorem am_w_lt {z y : Int} : am_w z < am_w y ↔ Int32.ofInt z < Int32.ofInt y := Int32.lt_iff_toInt_lt.symm
theorem am_w_le {z y : Int} : am_w z ≤ am_w y ↔ Int32.ofInt z ≤ Int32.ofInt y := Int32.le_iff_toInt_le.symm
theorem am_w0 : am_w 0 = 0 := by decide +kernel
theorem am_o0 : Int32.ofInt 0 = 0 := by decide +kernel
theorem am_k_icmp_eq {off : Int} (hd : decode (am_b mid) pc = .ok (.if_icmp .eq off, 3)) (ht : (pc : Int) + off = (x : Int)) (h : am_s X pc lv st M (.if_icmp .eq off) 3 x = some q) : am_Stp l G X mid pc lv st M q.1 q.2.1 q.2.2.1 q.2.2.2 := by
  simp only [am_s] at h
  split at h
  · rename_i y z st'
    split at h
    · rename_i hc
      cases h
      simp only [am_cd, decide_eq_true_eq] at hc
      refine am_Stp.pure (fun _ w => am_wfs_tl (am_wfs_tl w)) (fun p e R s m args below meth c A Q a ls H locs cells slots C hl hW k => lv_icmp_eq C.1 C.2.1 hd ht (fun _ => k) (fun hp => absurd ?_ hp))
      exact am_w_eq.mp hc
    · rename_i hc
      cases h
      simp only [am_cd, decide_eq_true_eq] at hc
      refine am_Stp.pure (fun _ w => am_wfs_tl (am_wfs_tl w)) (fun p e R s m args below meth c A Q a ls H locs cells slots C hl hW k => lv_icmp_eq C.1 C.2.1 hd ht (fun hp => absurd ?_ hc) (fun _ => k))
      exact am_w_eq.mpr hp
  · cases h
theorem am_k_if_eq {off : Int} (hd : decode (am_b mid) pc = .ok (.ifCond .eq off, 3)) (ht : (pc : Int) + off = (x : Int)) (h : am_s X pc lv st M (.ifCond .eq off) 3 x = some q) : am_Stp l G X mid pc lv st M q.1 q.2.1 q.2.2.1 q.2.2.2 := by
  simp only [am_s] at h
  split at h
  · rename_i z st'
    split at h
    · rename_i hc
      cases h
      simp only [am_cd, decide_eq_true_eq] at hc
      refine am_Stp.pure (fun _ w => am_wfs_tl w) (fun p e R s m args below meth c A Q a ls H locs cells slots C hl hW k => lv_if_eq C.1 C.2.1 hd ht (fun _ => k) (fun hp => absurd ?_ hp))
      rw [← am_w0, am_w_eq, am_o0] at hc; exact hc
    · rename_i hc
      cases h
      simp only [am_cd, decide_eq_true_eq] at hc
      refine am_Stp.pure (fun _ w => am_wfs_tl w) (fun p e R s m args below meth c A Q a ls H locs cells slots C hl hW k => lv_if_eq C.1 C.2.1 hd ht (fun hp => absurd ?_ hc) (fun _ => k))
      rw [← am_w0, am_w_eq, am_o0]; exact hp
  · cases h
theorem am_k_icmp_ne {off : Int} (hd : decode (am_b mid) pc = .ok (.if_icmp .ne off, 3)) (ht : (pc : Int) + off = (x : Int)) (h : am_s X pc lv st M (.if_icmp .ne off) 3 x = some q) : am_Stp l G X mid pc lv st M q.1 q.2.1 q.2.2.1 q.2.2.2 := by
  simp only [am_s] at h
  split at h
  · rename_i y z st'
    split at h
    · rename_i hc
      cases h
      simp only [am_cd, decide_eq_true_eq] at hc
      refine am_Stp.pure (fun _ w => am_wfs_tl (am_wfs_tl w)) (fun p e R s m args below meth c A Q a ls H locs cells slots C hl hW k => lv_icmp_ne C.1 C.2.1 hd ht (fun _ => k) (fun hp => absurd hp ?_))
      exact fun e0 => hc (am_w_eq.mpr e0)
    · rename_i hc
      cases h
      simp only [am_cd, decide_eq_true_eq] at hc
      refine am_Stp.pure (fun _ w => am_wfs_tl (am_wfs_tl w)) (fun p e R s m args below meth c A Q a ls H locs cells slots C hl hW k => lv_icmp_ne C.1 C.2.1 hd ht (fun hp => absurd ?_ hc) (fun _ => k))
      exact fun e0 => hp (am_w_eq.mp e0)
  · cases h
theorem am_k_if_ne {off : Int} (hd : decode (am_b mid) pc = .ok (.ifCond .ne off, 3)) (ht : (pc : Int) + off = (x : Int)) (h : am_s X pc lv st M (.ifCond .ne off) 3 x = some q) : am_Stp l G X mid pc lv st M q.1 q.2.1 q.2.2.1 q.2.2.2 := by
  simp only [am_s] at h
  split at h
  · rename_i z st'
    split at h
    · rename_i hc
      cases h
      simp only [am_cd, decide_eq_true_eq] at hc
      refine am_Stp.pure (fun _ w => am_wfs_tl w) (fun p e R s m args below meth c A Q a ls H locs cells slots C hl hW k => lv_if_ne C.1 C.2.1 hd ht (fun _ => k) (fun hp => absurd hp ?_))
      rw [← am_w0, am_w_eq, am_o0] at hc; exact hc
    · rename_i hc
      cases h
      simp only [am_cd, decide_eq_true_eq] at hc
      refine am_Stp.pure (fun _ w => am_wfs_tl w) (fun p e R s m args below meth c A Q a ls H locs cells slots C hl hW k => lv_if_ne C.1 C.2.1 hd ht (fun hp => absurd ?_ hc) (fun _ => k))
      rw [← am_w0, am_w_eq, am_o0]; exact hp
  · cases h
theorem am_k_icmp_lt {off : Int} (hd : decode (am_b mid) pc = .ok (.if_icmp .lt off, 3)) (ht : (pc : Int) + off = (x : Int)) (h : am_s X pc lv st M (.if_icmp .lt off) 3 x = some q) : am_Stp l G X mid pc lv st M q.1 q.2.1 q.2.2.1 q.2.2.2 := by
  simp only [am_s] at h
  split at h
  · rename_i y z st'
    split at h
    · rename_i hc
      cases h
      simp only [am_cd, decide_eq_true_eq] at hc
      refine am_Stp.pure (fun _ w => am_wfs_tl (am_wfs_tl w)) (fun p e R s m args below meth c A Q a ls H locs cells slots C hl hW k => lv_icmp_lt C.1 C.2.1 hd ht (fun _ => k) (fun hp => absurd ?_ hp))
      exact am_w_lt.mp hc
    · rename_i hc
      cases h
      simp only [am_cd, decide_eq_true_eq] at hc
      refine am_Stp.pure (fun _ w => am_wfs_tl (am_wfs_tl w)) (fun p e R s m args below meth c A Q a ls H locs cells slots C hl hW k => lv_icmp_lt C.1 C.2.1 hd ht (fun hp => absurd ?_ hc) (fun _ => k))
      exact am_w_lt.mpr hp
  · cases h
theorem am_k_if_lt {off : Int} (hd : decode (am_b mid) pc = .ok (.ifCond .lt off, 3)) (ht : (pc : Int) + off = (x : Int)) (h : am_s X pc lv st M (.ifCond .lt off) 3 x = some q) : am_Stp l G X mid pc lv st M q.1 q.2.1 q.2.2.1 q.2.2.2 := by
  simp only [am_s] at h
  split at h
  · rename_i z st'
    split at h
    · rename_i hc
      cases h
      simp only [am_cd, decide_eq_true_eq] at hc
      refine am_Stp.pure (fun _ w => am_wfs_tl w) (fun p e R s m args below meth c A Q a ls H locs cells slots C hl hW k => lv_if_lt C.1 C.2.1 hd ht (fun _ => k) (fun hp => absurd ?_ hp))
      rw [← am_w0, am_w_lt, am_o0] at hc; exact hc
    · rename_i hc
      cases h
      simp only [am_cd, decide_eq_true_eq] at hc
      refine am_Stp.pure (fun _ w => am_wfs_tl w) (fun p e R s m args below meth c A Q a ls H locs cells slots C hl hW k => lv_if_lt C.1 C.2.1 hd ht (fun hp => absurd ?_ hc) (fun _ => k))
      rw [← am_w0, am_w_lt, am_o0]; exact hp
  · cases h
theorem am_k_icmp_ge {off : Int} (hd : decode (am_b mid) pc = .ok (.if_icmp .ge off, 3)) (ht : (pc : Int) + off = (x : Int)) (h : am_s X pc lv st M (.if_icmp .ge off) 3 x = some q) : am_Stp l G X mid pc lv st M q.1 q.2.1 q.2.2.1 q.2.2.2 := by
  simp only [am_s] at h
  split at h
  · rename_i y z st'
    split at h
    · rename_i hc
      cases h
      simp only [am_cd, decide_eq_true_eq] at hc
      refine am_Stp.pure (fun _ w => am_wfs_tl (am_wfs_tl w)) (fun p e R s m args below meth c A Q a ls H locs cells slots C hl hW k => lv_icmp_ge C.1 C.2.1 hd ht (fun _ => k) (fun hp => absurd ?_ hp))
      exact am_w_le.mp hc
    · rename_i hc
      cases h
      simp only [am_cd, decide_eq_true_eq] at hc
      refine am_Stp.pure (fun _ w => am_wfs_tl (am_wfs_tl w)) (fun p e R s m args below meth c A Q a ls H locs cells slots C hl hW k => lv_icmp_ge C.1 C.2.1 hd ht (fun hp => absurd ?_ hc) (fun _ => k))
      exact am_w_le.mpr hp
  · cases h
theorem am_k_if_ge {off : Int} (hd : decode (am_b mid) pc = .ok (.ifCond .ge off, 3)) (ht : (pc : Int) + off = (x : Int)) (h : am_s X pc lv st M (.ifCond .ge off) 3 x = some q) : am_Stp l G X mid pc lv st M q.1 q.2.1 q.2.2.1 q.2.2.2 := by
  simp only [am_s] at h
  split at h
  · rename_i z st'
    split at h
    · rename_i hc
      cases h
      simp only [am_cd, decide_eq_true_eq] at hc
      refine am_Stp.pure (fun _ w => am_wfs_tl w) (fun p e R s m args below meth c A Q a ls H locs cells slots C hl hW k => lv_if_ge C.1 C.2.1 hd ht (fun _ => k) (fun hp => absurd ?_ hp))
      rw [← am_w0, am_w_le, am_o0] at hc; exact hc
    · rename_i hc
      cases h
      simp only [am_cd, decide_eq_true_eq] at hc
      refine am_Stp.pure (fun _ w => am_wfs_tl w) (fun p e R s m args below meth c A Q a ls H locs cells slots C hl hW k => lv_if_ge C.1 C.2.1 hd ht (fun hp => absurd ?_ hc) (fun _ => k))
      rw [← am_w0, am_w_le, am_o0]; exact hp
  · cases h
theorem am_k_icmp_gt {off : Int} (hd : decode (am_b mid) pc = .ok (.if_icmp .gt off, 3)) (ht : (pc : Int) + off = (x : Int)) (h : am_s X pc lv st M (.if_icmp .gt off) 3 x = some q) : am_Stp l G X mid pc lv st M q.1 q.2.1 q.2.2.1 q.2.2.2 := by
  simp only [am_s] at h
  split at h
  · rename_i y z st'
    split at h
    · rename_i hc
      cases h
      simp only [am_cd, decide_eq_true_eq] at hc
      refine am_Stp.pure (fun _ w => am_wfs_tl (am_wfs_tl w)) (fun p e R s m args below meth c A Q a ls H locs cells slots C hl hW k => lv_icmp_gt C.1 C.2.1 hd ht (fun _ => k) (fun hp => absurd ?_ hp))
      exact am_w_lt.mp hc
    · rename_i hc
      cases h
      simp only [am_cd, decide_eq_true_eq] at hc
      refine am_Stp.pure (fun _ w => am_wfs_tl (am_wfs_tl w)) (fun p e R s m args below meth c A Q a ls H locs cells slots C hl hW k => lv_icmp_gt C.1 C.2.1 hd ht (fun hp => absurd ?_ hc) (fun _ => k))
      exact am_w_lt.mpr hp
  · cases h
theorem am_k_if_gt {off : Int} (hd : decode (am_b mid) pc = .ok (.ifCond .gt off, 3)) (ht : (pc : Int) + off = (x : Int)) (h : am_s X pc lv st M (.ifCond .gt off) 3 x = some q) : am_Stp l G X mid pc lv st M q.1 q.2.1 q.2.2.1 q.2.2.2 := by
  simp only [am_s] at h
  split at h
  · rename_i z st'
    split at h
    · rename_i hc
      cases h
      simp only [am_cd, decide_eq_true_eq] at hc
      refine am_Stp.pure (fun _ w => am_wfs_tl w) (fun p e R s m args below meth c A Q a ls H locs cells slots C hl hW k => lv_if_gt C.1 C.2.1 hd ht (fun _ => k) (fun hp => absurd ?_ hp))
      rw [← am_w0, am_w_lt, am_o0] at hc; exact hc
    · rename_i hc
      cases h
      simp only [am_cd, decide_eq_true_eq] at hc
      refine am_Stp.pure (fun _ w => am_wfs_tl w) (fun p e R s m args below meth c A Q a ls H locs cells slots C hl hW k => lv_if_gt C.1 C.2.1 hd ht (fun hp => absurd ?_ hc) (fun _ => k))
      rw [← am_w0, am_w_lt, am_o0]; exact hp
  · cases h
theorem am_k_icmp_le {off : Int} (hd : decode (am_b mid) pc = .ok (.if_icmp .le off, 3)) (ht : (pc : Int) + off = (x : Int)) (h : am_s X pc lv st M (.if_icmp .le off) 3 x = some q) : am_Stp l G X mid pc lv st M q.1 q.2.1 q.2.2.1 q.2.2.2 := by
  simp only [am_s] at h
  split at h
  · rename_i y z st'
    split at h
    · rename_i hc
      cases h
      simp only [am_cd, decide_eq_true_eq] at hc
      refine am_Stp.pure (fun _ w => am_wfs_tl (am_wfs_tl w)) (fun p e R s m args below meth c A Q a ls H locs cells slots C hl hW k => lv_icmp_le C.1 C.2.1 hd ht (fun _ => k) (fun hp => absurd ?_ hp))
      exact am_w_le.mp hc
    · rename_i hc
      cases h
      simp only [am_cd, decide_eq_true_eq] at hc
      refine am_Stp.pure (fun _ w => am_wfs_tl (am_wfs_tl w)) (fun p e R s m args below meth c A Q a ls H locs cells slots C hl hW k => lv_icmp_le C.1 C.2.1 hd ht (fun hp => absurd ?_ hc) (fun _ => k))
      exact am_w_le.mpr hp
  · cases h
theorem am_k_if_le {off : Int} (hd : decode (am_b mid) pc = .ok (.ifCond .le off, 3)) (ht : (pc : Int) + off = (x : Int)) (h : am_s X pc lv st M (.ifCond .le off) 3 x = some q) : am_Stp l G X mid pc lv st M q.1 q.2.1 q.2.2.1 q.2.2.2 := by
  simp only [am_s] at h
  split at h
  · rename_i z st'
    split at h
    · rename_i hc
      cases h
      simp only [am_cd, decide_eq_true_eq] at hc
      refine am_Stp.pure (fun _ w => am_wfs_tl w) (fun p e R s m args below meth c A Q a ls H locs cells slots C hl hW k => lv_if_le C.1 C.2.1 hd ht (fun _ => k) (fun hp => absurd ?_ hp))
      rw [← am_w0, am_w_le, am_o0] at hc; exact hc
    · rename_i hc
      cases h
      simp only [am_cd, decide_eq_true_eq] at hc
      refine am_Stp.pure (fun _ w => am_wfs_tl w) (fun p e R s m args below meth c A Q a ls H locs cells slots C hl hW k => lv_if_le C.1 C.2.1 hd ht (fun hp => absurd ?_ hc) (fun _ => k))
      rw [← am_w0, am_w_le, am_o0]; exact hp
  · cases h
end
end
section
/-! steps that read and write cells -/
def am_fok (k : Nat) (ty : FieldType) : Bool := match k, ty with
  | 0, .int => true
  | 3, .boolean => true
  | 2, .object _ => true
  | 2, .array _ => true
  | _, _ => false
def am_CO (c : Nat) (r : vw_C) (ty0 : Nat → FieldType) : Prop := vwCl[c]? = some r ∧ r.2.2 = am_nf c ∧ (∀ w ∈ u_ws r.1 r.2.1 r.2.2, w ∈ am_tb) ∧ Cond.instantiable r.1 r.2.2 ∈ am_tb ∧ Cond.initialized r.1 ∈ am_tb ∧ (∀ k, k < r.2.2 → parseFieldDescriptor (r.2.1 k).2.2.1 = some (ty0 k)) ∧ (∀ a, a < r.2.2 → ∀ b, b < r.2.2 → a ≠ b → (r.2.1 a).2.1 ≠ (r.2.1 b).2.1) ∧ ∀ k, k < r.2.2 → am_fok (am_ft c k) (ty0 k) = true
/-- the kinds' tables are the launch's -/
def am_COs : Prop := ∀ c, c < 13 → ∃ r ty0, am_CO c r ty0
/-- a field's place in the constant pool of a kind's code -/
def am_FO (own : String) (idx x : Nat) : Prop := ∀ c f, am_F x c = some f → c < 13 → ∀ r, vwCl[c]? = some r → f < r.2.2 ∧ ∃ ref, Cond.fieldLink own idx ref (r.2.1 f).2.1 (r.2.1 f).2.2.1 ∈ am_tb ∧ (ref = (r.2.1 f).1 ∨ Cond.sameField ref (r.2.1 f).1 (r.2.1 f).2.1 (r.2.1 f).2.2.1 ∈ am_tb)
def am_FF (mid x : Nat) : Prop := ∀ c f, am_F x c = some f → c < 13 → ∀ r, vwCl[c]? = some r → (r.2.1 f).2.2.2 = false ∨ ((r.2.1 f).2.2.2 = true ∧ (am_y mid).name = "<init>" ∧ (r.2.1 f).1 = (am_y mid).cls)
theorem am_inb_spec {j : Int} {n : Nat} (h : am_inb j n = true) : 0 ≤ j ∧ j < n ∧ j < 10000 := by
  unfold am_inb at h
  simpa using h
theorem am_i32 {j : Int} (h0 : 0 ≤ j) (h1 : j < 2147483648) : (Int32.ofInt j).toInt = j := by
  exact Int32.toInt_ofInt_of_le (by omega) (by omega)
theorem am_clamp {j : Int} (h0 : 0 ≤ j) (h1 : j < 2147483648) : (Int32.ofInt j).toNatClampNeg = j.toNat := by
  show (Int32.ofInt j).toInt.toNat = j.toNat
  rw [am_i32 h0 h1]
theorem am_nneg {j : Int} (h0 : 0 ≤ j) (h1 : j < 2147483648) : ¬ Int32.ofInt j < 0 := by
  rw [Int32.lt_iff_toInt_lt, am_i32 h0 h1]
  have : (0 : Int32).toInt = 0 := by decide
  omega
theorem am_vp {j : Int} {n : Nat} (h : am_inb j n = true) : vp_in (Int32.ofInt j) n ∧ (Int32.ofInt j).toNatClampNeg = j.toNat := by
  obtain ⟨h0, h1, h2⟩ := am_inb_spec h
  have hc := am_clamp h0 (show j < 2147483648 by omega)
  refine ⟨fun q => ?_, hc⟩
  rcases q with q | q
  · exact am_nneg h0 (by omega) q
  · rw [hc] at q; omega
theorem am_ty0 (G : am_G) : (am_tys G)[0]? = some (G.2.1 0, .int) := rfl
theorem am_ce20 {G : am_G} {a : Nat → Nat} {M : am_M} {k : Nat} {s : Nat × Nat} (h : s.1 = 20) : am_ce G a M k s = .inl (G.2.1 0, s.2, .inl (fun i => Int32.ofInt (M.2.1 k i))) := by unfold am_ce; rw [if_pos h]
theorem am_ce21 {G : am_G} {a : Nat → Nat} {M : am_M} {k : Nat} {s : Nat × Nat} (h : s.1 = 21) : am_ce G a M k s = .inl (G.2.1 1, s.2, .inr (.inl (fun i => Int64.ofInt (M.2.2.1 k i)))) := by unfold am_ce; rw [if_neg (by omega), if_pos h]
theorem am_ce22 {G : am_G} {a : Nat → Nat} {M : am_M} {k : Nat} {s : Nat × Nat} (h : s.1 = 22) : am_ce G a M k s = .inl (G.2.1 2, s.2, .inl (fun i => Int32.ofInt (M.2.1 k i))) := by unfold am_ce; rw [if_neg (by omega), if_neg (by omega), if_pos h]
theorem am_ce23 {G : am_G} {a : Nat → Nat} {M : am_M} {k : Nat} {s : Nat × Nat} (h : s.1 = 23) : am_ce G a M k s = .inl (G.2.1 3, s.2, .inr (.inr (.inr (.inr (fun i => (M.2.2.2 k i).map a))))) := by unfold am_ce; rw [if_neg (by omega), if_neg (by omega), if_neg (by omega), if_pos h]
theorem am_ce24 {G : am_G} {a : Nat → Nat} {M : am_M} {k : Nat} {s : Nat × Nat} (h : s.1 = 24) : am_ce G a M k s = .inl (G.2.1 4, s.2, .inr (.inr (.inr (.inr (fun i => (M.2.2.2 k i).map a))))) := by unfold am_ce; rw [if_neg (by omega), if_neg (by omega), if_neg (by omega), if_neg (by omega), if_pos h]
theorem am_ceo {G : am_G} {a : Nat → Nat} {M : am_M} {k : Nat} {s : Nat × Nat} (h : s.1 < 13) : am_ce G a M k s = .inr (s.1, (List.range s.2).map (fun i => am_tr G a (am_gf M s.1 k i))) := by unfold am_ce; rw [if_neg (by omega), if_neg (by omega), if_neg (by omega), if_neg (by omega), if_neg (by omega)]
theorem am_off {M : am_M} {k i : Nat} {v : Int} : ∀ q, q ≠ k → (am_pI M k i v).2.1 q = M.2.1 q ∧ (am_pI M k i v).2.2.1 q = M.2.2.1 q ∧ (am_pI M k i v).2.2.2 q = M.2.2.2 q := fun q h => ⟨am_up_ne h, rfl, rfl⟩
theorem am_offJ {M : am_M} {k i : Nat} {v : Int} : ∀ q, q ≠ k → (am_pJ M k i v).2.1 q = M.2.1 q ∧ (am_pJ M k i v).2.2.1 q = M.2.2.1 q ∧ (am_pJ M k i v).2.2.2 q = M.2.2.2 q := fun q h => ⟨rfl, am_up_ne h, rfl⟩
theorem am_offR {M : am_M} {k i : Nat} {v : Option Nat} : ∀ q, q ≠ k → (am_pR M k i v).2.1 q = M.2.1 q ∧ (am_pR M k i v).2.2.1 q = M.2.2.1 q ∧ (am_pR M k i v).2.2.2 q = M.2.2.2 q := fun q h => ⟨rfl, rfl, am_up_ne h⟩
theorem am_wf_pR {M : am_M} {k i : Nat} {v : Option Nat} (h : am_wf M) (hv : ∀ r, v = some r → r < M.1.length) : am_wf (am_pR M k i v) := by
  intro k' i' r hr
  have hr : (if k' = k ∧ i' = i then v else M.2.2.2 k' i') = some r := hr
  split at hr
  · exact hv r hr
  · exact h k' i' r hr
theorem am_wfv_of {n : Nat} {r : Option Nat} (h : am_wfv n (.inr (.inr (.inl r)))) : ∀ k, r = some k → k < n := fun k hk => h k (by rw [hk])
theorem am_gf_wf {M : am_M} {c k f : Nat} (h : am_wf M) : am_wfv M.1.length (am_gf M c k f) := by
  intro r hr
  unfold am_gf at hr
  split at hr
  · cases hr
  · cases hr
  · cases hr
  · exact h k f r (by injection hr with h1; injection h1 with h2; injection h2)
theorem am_same {s : State} {args : Array Value} {ref own nm ds : String} (hts : ∀ w ∈ am_tb, w.before args s = true) (h : ref = own ∨ Cond.sameField ref own nm ds ∈ am_tb) : ∀ x, s.fieldFound? own nm ds = some x → s.fieldFound? ref nm ds = some x := by
  rcases h with h | h
  · subst h; exact fun _ h => h
  · exact fun x hx => u_same (hts _ h) x hx
theorem am_narrow {k : Nat} {ty : FieldType} (hk : am_fok k ty = true) {G : am_G} {a : Nat → Nat} {v : am_V} {M M' : am_M} {c q f : Nat} (hf : am_ft c f = k) (hp : am_pf M c q f v = some M') : narrow ty (am_tr G a v) = am_tr G a v ∧ fits ty (am_tr G a v) = true := by
  unfold am_pf at hp
  rw [hf] at hp
  split at hp
  · rename_i z
    cases ty <;> simp [am_fok] at hk
    exact ⟨rfl, rfl⟩
  · rename_i z
    cases ty <;> simp [am_fok] at hk
    split at hp
    · rename_i hz
      rcases hz with rfl | rfl
      · exact ⟨by show narrow .boolean (.int (Int32.ofInt 0)) = .int (Int32.ofInt 0); decide +kernel, by show fits .boolean (.int (Int32.ofInt 0)) = true; decide +kernel⟩
      · exact ⟨by show narrow .boolean (.int (Int32.ofInt 1)) = .int (Int32.ofInt 1); decide +kernel, by show fits .boolean (.int (Int32.ofInt 1)) = true; decide +kernel⟩
    · cases hp
  · rename_i r
    cases ty <;> simp [am_fok] at hk <;> (cases r <;> exact ⟨rfl, rfl⟩)
  · cases hp
/-- what a write of a field makes of the cell's list -/
theorem am_pf_cell {G : am_G} {a : Nat → Nat} {v : am_V} {M M' : am_M} {c q f n : Nat} (hp : am_pf M c q f v = some M') : ((List.range n).map (fun i => am_tr G a (am_gf M c q i))).set f (am_tr G a v) = (List.range n).map (fun i => am_tr G a (am_gf M' c q i)) := by
  have key : ∀ i, am_gf M' c q i = if i = f then v else am_gf M c q i := by
    intro i
    unfold am_pf at hp
    split at hp
    · rename_i z hz
      cases hp
      by_cases e : i = f
      · subst e
        rw [if_pos rfl]
        unfold am_gf
        rw [hz]
        show Sum.inl (am_up M.2.1 q i z q i) = _
        rw [am_up_row, if_pos rfl]
      · rw [if_neg e]
        unfold am_gf
        show (match am_ft c i with | 0 => Sum.inl (am_up M.2.1 q f z q i) | 3 => Sum.inl (am_up M.2.1 q f z q i) | 1 => Sum.inr (Sum.inl (M.2.2.1 q i)) | _ => Sum.inr (Sum.inr (Sum.inl (M.2.2.2 q i)))) = _
        rw [am_up_row, if_neg e]
        rfl
    · rename_i z hz
      split at hp
      · cases hp
        by_cases e : i = f
        · subst e
          rw [if_pos rfl]
          unfold am_gf
          rw [hz]
          show Sum.inl (am_up M.2.1 q i z q i) = _
          rw [am_up_row, if_pos rfl]
        · rw [if_neg e]
          unfold am_gf
          show (match am_ft c i with | 0 => Sum.inl (am_up M.2.1 q f z q i) | 3 => Sum.inl (am_up M.2.1 q f z q i) | 1 => Sum.inr (Sum.inl (M.2.2.1 q i)) | _ => Sum.inr (Sum.inr (Sum.inl (M.2.2.2 q i)))) = _
          rw [am_up_row, if_neg e]
          rfl
      · cases hp
    · rename_i z hz
      cases hp
      by_cases e : i = f
      · subst e
        rw [if_pos rfl]
        unfold am_gf
        rw [hz]
        show Sum.inr (Sum.inr (Sum.inl (am_up M.2.2.2 q i z q i))) = _
        rw [am_up_row, if_pos rfl]
      · rw [if_neg e]
        unfold am_gf
        show (match am_ft c i with | 0 => Sum.inl (M.2.1 q i) | 3 => Sum.inl (M.2.1 q i) | 1 => Sum.inr (Sum.inl (M.2.2.1 q i)) | _ => Sum.inr (Sum.inr (Sum.inl (am_up M.2.2.2 q f z q i)))) = _
        rw [am_up_row, if_neg e]
        rfl
    · cases hp
  apply List.ext_getElem?
  intro i
  rw [List.getElem?_set, List.getElem?_map, List.getElem?_map, List.length_map, List.length_range]
  by_cases hi : i < n
  · rw [List.getElem?_range hi]
    by_cases e : f = i
    · subst e
      rw [if_pos rfl, if_pos hi]
      simp only [Option.map_some, key, if_pos]
    · rw [if_neg e]
      simp only [Option.map_some, key, if_neg (show ¬ i = f from fun h => e h.symm)]
  · have hn : (List.range n)[i]? = none := List.getElem?_eq_none (by rw [List.length_range]; omega)
    rw [hn]
    by_cases e : f = i
    · subst e
      rw [if_pos rfl, if_neg hi]
      rfl
    · rw [if_neg e]
      rfl
theorem am_pf_sh {v : am_V} {M M' : am_M} {c q f : Nat} (hp : am_pf M c q f v = some M') : M'.1 = M.1 ∧ (∀ k, k ≠ q → M'.2.1 k = M.2.1 k ∧ M'.2.2.1 k = M.2.2.1 k ∧ M'.2.2.2 k = M.2.2.2 k) ∧ (am_wf M → am_wfv M.1.length v → am_wf M') := by
  unfold am_pf at hp
  split at hp
  · cases hp
    exact ⟨rfl, am_off, fun w _ => w⟩
  · split at hp
    · cases hp
      exact ⟨rfl, am_off, fun w _ => w⟩
    · cases hp
  · cases hp
    exact ⟨rfl, am_offR, fun w hv => am_wf_pR w (am_wfv_of hv)⟩
  · cases hp

section
variable {l : Launch} {G : am_G} {X : Nat × (Nat → Int)} {mid pc n x : Nat} {lv : List (Nat × am_V)} {st : List am_V} {M : am_M} {q : Nat × List (Nat × am_V) × List am_V × am_M}

theorem am_k_getfield {v : Nat} (hd : decode (am_b mid) pc = .ok (.getfield v, 3)) (hCO : am_COs) (hF : am_FO (am_y mid).cls v x) (hSt : ∀ f, am_F x 13 = some f → (f = 0 ∧ Cond.fieldLink (am_y mid).cls v "java/lang/String" "value" "[B" ∈ am_tb) ∨ (f = 1 ∧ Cond.fieldLink (am_y mid).cls v "java/lang/String" "coder" "B" ∈ am_tb)) (h : am_s X pc lv st M (.getfield v) 3 x = some q) : am_Stp l G X mid pc lv st M q.1 q.2.1 q.2.2.1 q.2.2.2 := by
  simp only [am_s] at h
  split at h
  · rename_i k st'
    split at h
    · rename_i sh hs
      split at h
      · rename_i f hf
        split at h
        · rename_i hc
          cases h
          refine am_Stp.pureW (fun w1 w2 w3 => am_wfs_cons (am_gf_wf w1) (am_wfs_tl w3)) (fun p e R s m args below meth c A Q a ls H locs cells slots C hl hW k => ?_)
          rename_i k' hW0 _
          obtain ⟨r, ty0, hr, hn, hin, -, -, -, -, -⟩ := hCO sh.1 hc.1
          obtain ⟨hfn, ref, hlk, hsm⟩ := hF sh.1 f hf hc.1 r hr
          obtain ⟨hx, hb, hml, hown, hts, hK, -⟩ := C
          have he := am_ws_get (G := G) (a := a) hs
          rw [am_ceo hc.1] at he
          exact va_get (T := r.2.1) (N := r.2.2) (C := r.1) (ci := sh.1) hx hb hts hin hown hK hW.1 k' he hr f hfn (hts _ hlk) (am_same hts hsm) (by rw [List.getElem?_map, List.getElem?_range hc.2]; rfl) hd k
        · cases h
      · cases h
    · cases h
  · rename_i ev st'
    split at h
    · rename_i he
      obtain ⟨he1, he2⟩ := he
      split at h
      · rename_i hf
        cases h
        refine am_Stp.pure (fun w2 w3 => am_wfs_cons (am_wfv_e _ _) (am_wfs_tl w3)) (fun p e R s m args below meth c A Q a ls H locs cells slots C hl hW k => ?_)
        obtain ⟨hx, hb, hml, hown, hts, hK, hnm, hA, -, -, -, -, -, ⟨adK, adV, hvk, had, -⟩, -⟩ := C
        obtain ⟨j, hj⟩ : ∃ j, ev = 1 + 2 * j := ⟨ev / 2, by omega⟩
        subst hj
        have hj : j < 10 := by omega
        rcases hSt 0 hf with ⟨-, hlk⟩ | ⟨h0, -⟩
        · have k2 : W p l e R s m args below meth c H locs cells slots Q (F0 m (pc + 3) ls (.ref (adV j) :: am_sv G a st')) := by
            have e2 : am_tr G a (.inr (.inr (.inr (1 + 2 * j + 1)))) = .ref (adV j) := by
              show va_rf (G.2.2 (1 + 2 * j + 1)) = _
              rw [show 1 + 2 * j + 1 = 2 + 2 * j by omega, (had j hj).2]; rfl
            rw [← e2]; exact k
          have e1 : am_tr G a (.inr (.inr (.inr (1 + 2 * j)))) = .ref (adK j) := by
            show va_rf (G.2.2 (1 + 2 * j)) = _
            rw [(had j hj).1]; rfl
          show W p l e R s m args below meth c H locs cells slots Q (F0 m pc ls (am_tr G a (.inr (.inr (.inr (1 + 2 * j)))) :: am_sv G a st'))
          rw [e1]
          exact vk_getf hx hb (hvk.1 j hj).2.2.1 hW.2.2 hown (hts _ hlk) (fun _ h => h) hd k2
        · omega
      · rename_i hf
        cases h
        refine am_Stp.pure (fun w2 w3 => am_wfs_cons (am_wfv_i _ _) (am_wfs_tl w3)) (fun p e R s m args below meth c A Q a ls H locs cells slots C hl hW k => ?_)
        obtain ⟨hx, hb, hml, hown, hts, hK, hnm, hA, -, -, -, -, -, ⟨adK, adV, hvk, had, -⟩, -⟩ := C
        obtain ⟨j, hj⟩ : ∃ j, ev = 1 + 2 * j := ⟨ev / 2, by omega⟩
        subst hj
        have hj : j < 10 := by omega
        rcases hSt 1 hf with ⟨h0, -⟩ | ⟨-, hlk⟩
        · omega
        · have e1 : am_tr G a (.inr (.inr (.inr (1 + 2 * j)))) = .ref (adK j) := by
            show va_rf (G.2.2 (1 + 2 * j)) = _
            rw [(had j hj).1]; rfl
          show W p l e R s m args below meth c H locs cells slots Q (F0 m pc ls (am_tr G a (.inr (.inr (.inr (1 + 2 * j)))) :: am_sv G a st'))
          rw [e1]
          exact vk_getf hx hb (hvk.1 j hj).2.1 hW.2.2 hown (hts _ hlk) (fun _ h => h) hd k
      · cases h
    · cases h
  · cases h
theorem am_k_putfield {v : Nat} (hd : decode (am_b mid) pc = .ok (.putfield v, 3)) (hCO : am_COs) (hF : am_FO (am_y mid).cls v x) (hFF : am_FF mid x) (h : am_s X pc lv st M (.putfield v) 3 x = some q) : am_Stp l G X mid pc lv st M q.1 q.2.1 q.2.2.1 q.2.2.2 := by
  simp only [am_s] at h
  split at h
  · rename_i v' k st'
    split at h
    · rename_i sh hs
      split at h
      · rename_i f hf
        split at h
        · rename_i hc
          obtain ⟨M', hp, rfl⟩ := Option.map_eq_some_iff.mp h
          obtain ⟨g1, g2, g3⟩ := am_pf_sh hp
          refine am_Stp.put g1 (fun w1 w3 => ⟨g3 w1 (am_wfs_hd w3), am_wfs_tl (am_wfs_tl w3)⟩) (fun p e R s m args below meth c A Q a ls H locs cells slots C hl w3 hW kk => ?_)
          obtain ⟨r, ty0, hr, hn, hin, -, -, hty, hnm, hok⟩ := hCO sh.1 hc.1
          obtain ⟨hfn, ref, hlk, hsm⟩ := hF sh.1 f hf hc.1 r hr
          obtain ⟨hx, hb, hml, hown, hts, hK, hmn, -⟩ := C
          have he := am_ws_get (G := G) (a := a) hs
          rw [am_ceo hc.1] at he
          obtain ⟨n1, n2⟩ := am_narrow (G := G) (a := a) (hok f hfn) rfl hp
          have hset : ∀ H1 locs1, va_P G.1 vwCl ((am_ws G a M).set k (a k, .inr (sh.1, ((List.range sh.2).map (fun i => am_tr G a (am_gf M sh.1 k i))).set f (am_tr G a v')))) H1 → va_D A ((am_ws G a M).set k (a k, .inr (sh.1, ((List.range sh.2).map (fun i => am_tr G a (am_gf M sh.1 k i))).set f (am_tr G a v')))) → va_S A s.heap H1 locs1 → W p l e R s m args below meth c H1 locs1 cells slots Q (F0 m (pc + 3) ls (am_sv G a st')) := by
            intro H1 locs1 q1 q2 q3
            rw [am_pf_cell hp, ← am_ceo hc.1, am_ws_set g1 hs g2 rfl] at q1 q2
            exact kk H1 locs1 ⟨q1, q2, q3⟩
          rcases hFF sh.1 f hf hc.1 r hr with hfin | ⟨hfin, hi, hdc⟩
          · exact va_put (T := r.2.1) (N := r.2.2) (C := r.1) (ci := sh.1) hx hb hts hin ty0 hty hnm hown hK hW.1 hW.2.1 hW.2.2 k he hr f hfn (hts _ hlk) (am_same hts hsm) hfin (hty f hfn) n1 n2 (by rw [List.length_map, List.length_range]; exact hc.2) hd hset
          · exact va_putF (T := r.2.1) (N := r.2.2) (C := r.1) (ci := sh.1) hx hb hts hin ty0 hty hnm hown hK hW.1 hW.2.1 hW.2.2 k he hr f hfn (hts _ hlk) (am_same hts hsm) hfin (hmn hi) hdc (hty f hfn) n1 n2 (by rw [List.length_map, List.length_range]; exact hc.2) hd hset
        · cases h
      · cases h
    · cases h
  · cases h
end
end
section
/-! steps over rows, and those that make cells -/
section
variable {l : Launch} {G : am_G} {X : Nat × (Nat → Int)} {mid pc n x : Nat} {lv : List (Nat × am_V)} {st : List am_V} {M : am_M} {q : Nat × List (Nat × am_V) × List am_V × am_M}

theorem am_k_iaload (hd : decode (am_b mid) pc = .ok (.iaload, 1)) (h : am_s X pc lv st M (.iaload) 1 x = some q) : am_Stp l G X mid pc lv st M q.1 q.2.1 q.2.2.1 q.2.2.2 := by
  simp only [am_s] at h
  split at h
  · rename_i j k st'
    split at h
    · rename_i sh hs
      split at h
      · rename_i hc
        cases h
        refine am_Stp.pureW (fun w1 w2 w3 => am_wfs_cons (am_wfv_i _ _) (am_wfs_tl (am_wfs_tl w3))) (fun p e R s m args below meth c A Q a ls H locs cells slots C hl hW kk => ?_)
        obtain ⟨hx, hb, hml, hown, hts, hK, hnm, hA, hE⟩ := C
        obtain ⟨v1, v2⟩ := am_vp hc.2
        have he := am_ws_get (G := G) (a := a) hs
        rw [am_ce20 hc.1] at he
        refine va_iald hx hb hK hW.1 k 0 he rfl v1 hd ?_
        rw [v2]
        exact kk
      · cases h
    · cases h
  · rename_i j ev st'
    split at h
    · rename_i hc
      obtain ⟨rfl, hc⟩ := hc
      cases h
      refine am_Stp.pure (fun _ w3 => am_wfs_cons (am_wfv_i _ _) (am_wfs_tl (am_wfs_tl w3))) (fun p e R s m args below meth c A Q a ls H locs cells slots C hl hW kk => ?_)
      obtain ⟨hx, hb, hml, hown, hts, hK, hnm, hA, hE1, hE2, hE3, hE4, hE5, ⟨adK, adV, hvk, had, hsr⟩, ⟨b, hb0, hbT⟩, hZ1, hZ2⟩ := C
      obtain ⟨v1, v2⟩ := am_vp hc
      have e1 : am_tr G a (.inr (.inr (.inr 0))) = .ref b := by
        show va_rf (G.2.2 0) = _
        rw [hb0]; rfl
      show W p l e R s m args below meth c H locs cells slots Q (F0 m pc ls (.int (Int32.ofInt j) :: am_tr G a (.inr (.inr (.inr 0))) :: am_sv G a st'))
      rw [e1]
      exact va_ti hx hb hbT hW.2.2 v1 (by rw [v2]; rfl) hd kk
    · cases h
  · cases h
theorem am_k_baload (hd : decode (am_b mid) pc = .ok (.baload, 1)) (h : am_s X pc lv st M (.baload) 1 x = some q) : am_Stp l G X mid pc lv st M q.1 q.2.1 q.2.2.1 q.2.2.2 := by
  simp only [am_s] at h
  split at h
  · rename_i j k st'
    split at h
    · rename_i sh hs
      split at h
      · rename_i hc
        cases h
        refine am_Stp.pureW (fun w1 w2 w3 => am_wfs_cons (am_wfv_i _ _) (am_wfs_tl (am_wfs_tl w3))) (fun p e R s m args below meth c A Q a ls H locs cells slots C hl hW kk => ?_)
        obtain ⟨hx, hb, hml, hown, hts, hK, hnm, hA, hE⟩ := C
        obtain ⟨v1, v2⟩ := am_vp hc.2
        have he := am_ws_get (G := G) (a := a) hs
        rw [am_ce22 hc.1] at he
        refine va_zald hx hb hK hW.1 k 2 he rfl v1 hd ?_
        rw [v2]
        exact kk
      · cases h
    · cases h
  · rename_i j ev st'
    split at h
    · rename_i hc
      obtain ⟨hc1, hc2, hc3, hc⟩ := hc
      cases h
      refine am_Stp.pure (fun _ w3 => am_wfs_cons (am_wfv_i _ _) (am_wfs_tl (am_wfs_tl w3))) (fun p e R s m args below meth c A Q a ls H locs cells slots C hl hW kk => ?_)
      obtain ⟨hx, hb, hml, hown, hts, hK, hnm, hA, hE1, hE2, hE3, hE4, hE5, ⟨adK, adV, hvk, had, hsr⟩, ⟨b, hb0, hbT⟩, hZ1, hZ2⟩ := C
      obtain ⟨i, hi⟩ : ∃ i, ev = 2 + 2 * i := ⟨ev / 2 - 1, by omega⟩
      subst hi
      have hi : i < 10 := by omega
      have hi2 : (2 + 2 * i) / 2 - 1 = i := by omega
      rw [hi2] at hc kk
      obtain ⟨v1, v2⟩ := am_vp hc
      have e1 : am_tr G a (.inr (.inr (.inr (2 + 2 * i)))) = .ref (adV i) := by
        show va_rf (G.2.2 (2 + 2 * i)) = _
        rw [(had i hi).2]; rfl
      have hlen : am_sl.getD i 0 = (am_strs.getD i []).length := by
        unfold am_sl
        rw [List.getD_eq_getElem?_getD, List.getD_eq_getElem?_getD, List.getElem?_map]
        cases am_strs[i]? <;> rfl
      have hT := (hvk.1 i hi).2.2.2
      rw [hlen] at hT
      show W p l e R s m args below meth c H locs cells slots Q (F0 m pc ls (.int (Int32.ofInt j) :: am_tr G a (.inr (.inr (.inr (2 + 2 * i)))) :: am_sv G a st'))
      rw [e1]
      refine va_tb hx hb hT hW.2.2 v1 ?_ hd kk
      rw [v2]
      show Value.int ((am_sb.getD i []).getD j.toNat 0) = .int (Int32.ofInt ((am_strs.getD i []).getD j.toNat 0))
      unfold am_sb
      congr 1
      simp only [List.getD_eq_getElem?_getD, List.getElem?_map]
      cases am_strs[i]? with
      | none => rfl
      | some t =>
        show ((t.map Int32.ofInt)[j.toNat]?).getD 0 = Int32.ofInt ((t[j.toNat]?).getD 0)
        rw [List.getElem?_map]
        cases t[j.toNat]? <;> rfl
    · cases h
  · cases h
theorem am_k_laload (hd : decode (am_b mid) pc = .ok (.laload, 1)) (h : am_s X pc lv st M (.laload) 1 x = some q) : am_Stp l G X mid pc lv st M q.1 q.2.1 q.2.2.1 q.2.2.2 := by
  simp only [am_s] at h
  split at h
  · rename_i j k st'
    split at h
    · rename_i sh hs
      split at h
      · rename_i hc
        cases h
        refine am_Stp.pureW (fun w1 w2 w3 => am_wfs_cons (am_wfv_j _ _) (am_wfs_tl (am_wfs_tl w3))) (fun p e R s m args below meth c A Q a ls H locs cells slots C hl hW kk => ?_)
        obtain ⟨hx, hb, hml, hown, hts, hK, hnm, hA, hE⟩ := C
        obtain ⟨v1, v2⟩ := am_vp hc.2
        have he := am_ws_get (G := G) (a := a) hs
        rw [am_ce21 hc.1] at he
        refine va_lald hx hb hK hW.1 k 1 he rfl v1 hd ?_
        rw [v2]
        exact kk
      · cases h
    · cases h
  · cases h
theorem am_aald {p : Program} {e : Env} {R : Room} {s : State} {m : MethodId} {args : Array Value} {below : List Frame} {meth : Method} {c : Code} {H : Heap} {locs : List Loc} {cells slots : Nat} {Q : State → Prop} {cc : ByteArray} {ls : Array Slot} {rest : List Value} {ws : va_W} {ad : Nat} (hx : p.tables.exec = Jvm.exec) (hb : c.code = cc) (hK : va_K G.1 vwCl (am_tys G) s) (hP : va_P G.1 vwCl ws H) (q0 t0 : Nat) {cA : ClassId} {nn : Nat} {f : Nat → Option Nat} (ha : ws[q0]? = some (ad, .inl (cA, nn, .inr (.inr (.inr (.inr f)))))) {ty : FieldType} (ht : (am_tys G)[t0]? = some (cA, ty)) (hty : ty.isReference = true) {i : Int32} (hin : vp_in i nn) (hdg : decode cc pc = .ok (.aaload, 1))
    (kk : W p l e R s m args below meth c H locs cells slots Q (F0 m (pc + 1) ls (va_rf (f i.toNatClampNeg) :: rest))) : W p l e R s m args below meth c H locs cells slots Q (F0 m pc ls (.int i :: .ref ad :: rest)) := by
  have hc : H[ad]? = some (vp_cell cA (nn, .inr (.inr (.inr (.inr f))))) := hP q0 _ ha
  have hlt : i.toNatClampNeg < nn := Nat.not_le.mp fun q => hin (Or.inr q)
  have hz : (arrV cA nn (fun j => va_rf (f j))).slots.size = nn := arrV_size cA nn _
  refine W.aald hx hb hc ((hK.2 t0 _ ht).1 nn (fun j => va_rf (f j))) hty (by show (arrV cA nn (fun j => va_rf (f j))).vm ≠ _; exact fun q => by cases q) (by show ¬ (i < 0 ∨ (arrV cA nn (fun j => va_rf (f j))).slots.size ≤ i.toNatClampNeg); rw [hz]; exact hin) (v := va_rf (f i.toNatClampNeg)) ?_ rfl rfl hdg kk
  show (arrV cA nn (fun j => va_rf (f j))).slots[i.toNatClampNeg]? = _
  simp [arrV, hlt]
theorem am_k_aaload (hd : decode (am_b mid) pc = .ok (.aaload, 1)) (h : am_s X pc lv st M (.aaload) 1 x = some q) : am_Stp l G X mid pc lv st M q.1 q.2.1 q.2.2.1 q.2.2.2 := by
  simp only [am_s] at h
  split at h
  · rename_i j k st'
    split at h
    · rename_i sh hs
      split at h
      · rename_i hc
        cases h
        refine am_Stp.pureW (fun w1 w2 w3 => am_wfs_cons (am_wfv_r (fun r hr => w1 _ _ r hr)) (am_wfs_tl (am_wfs_tl w3))) (fun p e R s m args below meth c A Q a ls H locs cells slots C hl hW kk => ?_)
        obtain ⟨hx, hb, hml, hown, hts, hK, hnm, hA, hE⟩ := C
        obtain ⟨v1, v2⟩ := am_vp hc.2
        have he := am_ws_get (G := G) (a := a) hs
        rcases hc.1 with h23 | h24
        · rw [am_ce23 h23] at he
          refine am_aald hx hb hK hW.1 k 3 he rfl rfl v1 hd ?_
          rw [v2]
          exact kk
        · rw [am_ce24 h24] at he
          refine am_aald hx hb hK hW.1 k 4 he rfl rfl v1 hd ?_
          rw [v2]
          exact kk
      · cases h
    · cases h
  · cases h
theorem am_k_iastore (hd : decode (am_b mid) pc = .ok (.iastore, 1)) (h : am_s X pc lv st M (.iastore) 1 x = some q) : am_Stp l G X mid pc lv st M q.1 q.2.1 q.2.2.1 q.2.2.2 := by
  simp only [am_s] at h
  split at h
  · rename_i v j k st'
    split at h
    · rename_i sh hs
      split at h
      · rename_i hc
        cases h
        refine am_Stp.put rfl (fun w1 w3 => ⟨fun k i r hr => w1 k i r hr, am_wfs_tl (am_wfs_tl (am_wfs_tl w3))⟩) (fun p e R s m args below meth c A Q a ls H locs cells slots C hl w3 hW kk => ?_)
        obtain ⟨hx, hb, hml, hown, hts, hK, hnm, hA, hE⟩ := C
        obtain ⟨v1, v2⟩ := am_vp hc.2
        have he := am_ws_get (G := G) (a := a) hs
        rw [am_ce20 hc.1] at he
        refine va_iast hx hb hK hW.1 hW.2.1 hW.2.2 k 0 he rfl v1 hd (fun H1 locs1 q1 q2 q3 => ?_)
        have hset : (am_ws G a M).set k (a k, .inl (G.2.1 0, sh.2, .inl (upd (fun i => Int32.ofInt (M.2.1 k i)) (Int32.ofInt j).toNatClampNeg (Int32.ofInt v)))) = am_ws G a (am_pI M k j.toNat v) := by
          refine am_ws_set (M := M) (M' := am_pI M k j.toNat v) rfl hs am_off ?_
          rw [am_ce20 hc.1, v2]
          congr 4
          funext i
          show upd (fun i => Int32.ofInt (M.2.1 k i)) j.toNat (Int32.ofInt v) i = Int32.ofInt (am_up M.2.1 k j.toNat v k i)
          rw [am_up_row]
          unfold upd
          by_cases e0 : i = j.toNat
          · rw [if_pos e0, if_pos e0]
          · rw [if_neg e0, if_neg e0]
        rw [hset] at q1 q2
        exact kk H1 locs1 ⟨q1, q2, q3⟩
      · cases h
    · cases h
  · cases h
theorem am_k_lastore (hd : decode (am_b mid) pc = .ok (.lastore, 1)) (h : am_s X pc lv st M (.lastore) 1 x = some q) : am_Stp l G X mid pc lv st M q.1 q.2.1 q.2.2.1 q.2.2.2 := by
  simp only [am_s] at h
  split at h
  · rename_i v j k st'
    split at h
    · rename_i sh hs
      split at h
      · rename_i hc
        cases h
        refine am_Stp.put rfl (fun w1 w3 => ⟨fun k i r hr => w1 k i r hr, am_wfs_tl (am_wfs_tl (am_wfs_tl w3))⟩) (fun p e R s m args below meth c A Q a ls H locs cells slots C hl w3 hW kk => ?_)
        obtain ⟨hx, hb, hml, hown, hts, hK, hnm, hA, hE⟩ := C
        obtain ⟨v1, v2⟩ := am_vp hc.2
        have he := am_ws_get (G := G) (a := a) hs
        rw [am_ce21 hc.1] at he
        refine va_last hx hb hK hW.1 hW.2.1 hW.2.2 k 1 he rfl v1 hd (fun H1 locs1 q1 q2 q3 => ?_)
        have hset : (am_ws G a M).set k (a k, .inl (G.2.1 1, sh.2, .inr (.inl (vp_updL (fun i => Int64.ofInt (M.2.2.1 k i)) (Int32.ofInt j).toNatClampNeg (Int64.ofInt v))))) = am_ws G a (am_pJ M k j.toNat v) := by
          refine am_ws_set (M := M) (M' := am_pJ M k j.toNat v) rfl hs am_offJ ?_
          rw [am_ce21 hc.1, v2]
          congr 5
          funext i
          show vp_updL (fun i => Int64.ofInt (M.2.2.1 k i)) j.toNat (Int64.ofInt v) i = Int64.ofInt (am_up M.2.2.1 k j.toNat v k i)
          rw [am_up_row]
          unfold vp_updL
          by_cases e0 : i = j.toNat
          · rw [if_pos e0, if_pos e0]
          · rw [if_neg e0, if_neg e0]
        rw [hset] at q1 q2
        exact kk H1 locs1 ⟨q1, q2, q3⟩
      · cases h
    · cases h
  · cases h
theorem am_k_bastore (hd : decode (am_b mid) pc = .ok (.bastore, 1)) (h : am_s X pc lv st M (.bastore) 1 x = some q) : am_Stp l G X mid pc lv st M q.1 q.2.1 q.2.2.1 q.2.2.2 := by
  simp only [am_s] at h
  split at h
  · rename_i v j k st'
    split at h
    · rename_i sh hs
      split at h
      · rename_i hc
        cases h
        refine am_Stp.put rfl (fun w1 w3 => ⟨fun k i r hr => w1 k i r hr, am_wfs_tl (am_wfs_tl (am_wfs_tl w3))⟩) (fun p e R s m args below meth c A Q a ls H locs cells slots C hl w3 hW kk => ?_)
        obtain ⟨hx, hb, hml, hown, hts, hK, hnm, hA, hE⟩ := C
        obtain ⟨v1, v2⟩ := am_vp hc.2.1
        have he := am_ws_get (G := G) (a := a) hs
        rw [am_ce22 hc.1] at he
        refine va_zast hx hb hK hW.1 hW.2.1 hW.2.2 k 2 he rfl v1 hd (fun H1 locs1 q1 q2 q3 => ?_)
        have hset : (am_ws G a M).set k (a k, .inl (G.2.1 2, sh.2, .inl (upd (fun i => Int32.ofInt (M.2.1 k i)) (Int32.ofInt j).toNatClampNeg (vp_nar .boolean (Int32.ofInt v))))) = am_ws G a (am_pI M k j.toNat v) := by
          refine am_ws_set (M := M) (M' := am_pI M k j.toNat v) rfl hs am_off ?_
          rw [am_ce22 hc.1, v2]
          congr 4
          funext i
          have hv : vp_nar .boolean (Int32.ofInt v) = Int32.ofInt v := by
            rcases hc.2.2 with rfl | rfl <;> decide +kernel
          rw [hv]
          show upd (fun i => Int32.ofInt (M.2.1 k i)) j.toNat (Int32.ofInt v) i = Int32.ofInt (am_up M.2.1 k j.toNat v k i)
          rw [am_up_row]
          unfold upd
          by_cases e0 : i = j.toNat
          · rw [if_pos e0, if_pos e0]
          · rw [if_neg e0, if_neg e0]
        rw [hset] at q1 q2
        exact kk H1 locs1 ⟨q1, q2, q3⟩
      · cases h
    · cases h
  · cases h
theorem am_k_arraylength (hd : decode (am_b mid) pc = .ok (.arraylength, 1)) (h : am_s X pc lv st M (.arraylength) 1 x = some q) : am_Stp l G X mid pc lv st M q.1 q.2.1 q.2.2.1 q.2.2.2 := by
  simp only [am_s] at h
  split at h
  · rename_i k st'
    split at h
    · rename_i sh hs
      split at h
      · rename_i hc
        cases h
        refine am_Stp.pure (fun w2 w3 => am_wfs_cons (am_wfv_i _ _) (am_wfs_tl w3)) (fun p e R s m args below meth c A Q a ls H locs cells slots C hl hW kk => ?_)
        obtain ⟨hx, hb, hml, hown, hts, hK, hnm, hA, hE⟩ := C
        have he := am_ws_get (G := G) (a := a) hs
        have hn : ∀ z : Nat, Int32.ofNat z = Int32.ofInt (z : Int) := fun z => (Int32.ofInt_eq_ofNat).symm
        have h5 : sh.1 = 20 ∨ sh.1 = 21 ∨ sh.1 = 22 ∨ sh.1 = 23 ∨ sh.1 = 24 := by omega
        rcases h5 with h5 | h5 | h5 | h5 | h5
        · rw [am_ce20 h5] at he
          exact va_alen hx hb hK hW.1 k 0 he rfl (hn _) hd kk
        · rw [am_ce21 h5] at he
          exact va_alen hx hb hK hW.1 k 1 he rfl (hn _) hd kk
        · rw [am_ce22 h5] at he
          exact va_alen hx hb hK hW.1 k 2 he rfl (hn _) hd kk
        · rw [am_ce23 h5] at he
          exact va_alen hx hb hK hW.1 k 3 he rfl (hn _) hd kk
        · rw [am_ce24 h5] at he
          exact va_alen hx hb hK hW.1 k 4 he rfl (hn _) hd kk
      · cases h
    · cases h
  · rename_i ev st'
    split at h
    · rename_i he
      subst he
      cases h
      refine am_Stp.pure (fun w2 w3 => am_wfs_cons (am_wfv_i _ _) (am_wfs_tl w3)) (fun p e R s m args below meth c A Q a ls H locs cells slots C hl hW kk => ?_)
      obtain ⟨hx, hb, hml, hown, hts, hK, hnm, hA, hE1, hE2, hE3, hE4, hE5, ⟨adK, adV, hvk, had, hsr⟩, ⟨b, hb0, hbT⟩, hZ1, hZ2⟩ := C
      have e1 : am_tr G a (.inr (.inr (.inr 0))) = .ref b := by
        show va_rf (G.2.2 0) = _
        rw [hb0]; rfl
      show W p l e R s m args below meth c H locs cells slots Q (F0 m pc ls (am_tr G a (.inr (.inr (.inr 0))) :: am_sv G a st'))
      rw [e1]
      exact va_tlen hx hb hbT hW.2.2 (Int32.ofInt_eq_ofNat).symm hd kk
    · split at h
      · rename_i hz hc
        cases h
        refine am_Stp.pure (fun w2 w3 => am_wfs_cons (am_wfv_i _ _) (am_wfs_tl w3)) (fun p e R s m args below meth c A Q a ls H locs cells slots C hl hW kk => ?_)
        obtain ⟨hx, hb, hml, hown, hts, hK, hnm, hA, hE1, hE2, hE3, hE4, hE5, ⟨adK, adV, hvk, had, hsr⟩, ⟨b, hb0, hbT⟩, hZ1, hZ2⟩ := C
        obtain ⟨i, hi⟩ : ∃ i, ev = 2 + 2 * i := ⟨ev / 2 - 1, by omega⟩
        subst hi
        have hi : i < 10 := by omega
        have hi2 : (2 + 2 * i) / 2 - 1 = i := by omega
        rw [hi2] at kk
        have e1 : am_tr G a (.inr (.inr (.inr (2 + 2 * i)))) = .ref (adV i) := by
          show va_rf (G.2.2 (2 + 2 * i)) = _
          rw [(had i hi).2]; rfl
        have hlen : am_sl.getD i 0 = (am_strs.getD i []).length := by
          unfold am_sl
          rw [List.getD_eq_getElem?_getD, List.getD_eq_getElem?_getD, List.getElem?_map]
          cases am_strs[i]? <;> rfl
        have hT := (hvk.1 i hi).2.2.2
        rw [hlen] at hT
        show W p l e R s m args below meth c H locs cells slots Q (F0 m pc ls (am_tr G a (.inr (.inr (.inr (2 + 2 * i)))) :: am_sv G a st'))
        rw [e1]
        exact va_tlen hx hb hT hW.2.2 (Int32.ofInt_eq_ofNat).symm hd kk
      · cases h
  · cases h
theorem am_k_ldc {v : Nat} (hd : decode (am_b mid) pc = .ok (.ldc v, 2)) (hS : ∃ j, j < 10 ∧ x = 1 + 2 * j ∧ ((am_y mid).cls, v, j) ∈ am_srs) (h : am_s X pc lv st M (.ldc v) 2 x = some q) : am_Stp l G X mid pc lv st M q.1 q.2.1 q.2.2.1 q.2.2.2 := by
  cases h
  refine am_Stp.pure (fun w2 w3 => am_wfs_cons (am_wfv_e _ _) w3) (fun p e R s m args below meth c A Q a ls H locs cells slots C hl hW kk => ?_)
  obtain ⟨hx, hb, hml, hown, hts, hK, hnm, hA, hE1, hE2, hE3, hE4, hE5, ⟨adK, adV, hvk, had, hsr⟩, ⟨b, hb0, hbT⟩, hZ1, hZ2⟩ := C
  obtain ⟨j, hj, rfl, hm⟩ := hS
  obtain ⟨tx, hR⟩ := hsr _ hm
  have e1 : am_tr G a (.inr (.inr (.inr (1 + 2 * j)))) = .ref (adK j) := by
    show va_rf (G.2.2 (1 + 2 * j)) = _
    rw [(had j hj).1]; rfl
  refine va_ldcS hx hb hown hR hd ?_
  rw [← e1]
  exact kk
theorem am_k_ldc_w {v : Nat} (hd : decode (am_b mid) pc = .ok (.ldc_w v, 3)) (hS : Cond.constant (am_y mid).cls v (Int32.ofInt x) ∈ am_tb) (h : am_s X pc lv st M (.ldc_w v) 3 x = some q) : am_Stp l G X mid pc lv st M q.1 q.2.1 q.2.2.1 q.2.2.2 := by
  cases h
  refine am_Stp.pure (fun w2 w3 => am_wfs_cons (am_wfv_i _ _) w3) (fun p e R s m args below meth c A Q a ls H locs cells slots C hl hW kk => ?_)
  obtain ⟨hx, hb, hml, hown, hts, hK, hnm, hA, hE⟩ := C
  exact lv_ldcw hx hb hown (hts _ hS) hd kk
theorem am_k_ldc2_w {v : Nat} (hd : decode (am_b mid) pc = .ok (.ldc2_w v, 3)) (hS : Cond.constantLong (am_y mid).cls v (Int64.ofInt (am_lcs.getD x 0)) ∈ am_tb) (h : am_s X pc lv st M (.ldc2_w v) 3 x = some q) : am_Stp l G X mid pc lv st M q.1 q.2.1 q.2.2.1 q.2.2.2 := by
  cases h
  refine am_Stp.pure (fun w2 w3 => am_wfs_cons (am_wfv_j _ _) w3) (fun p e R s m args below meth c A Q a ls H locs cells slots C hl hW kk => ?_)
  obtain ⟨hx, hb, hml, hown, hts, hK, hnm, hA, hE⟩ := C
  exact lv_ldc2 hx hb hown (hts _ hS) hd kk
theorem am_k_getstatic {v : Nat} (hd : decode (am_b mid) pc = .ok (.getstatic v, 3)) (hS : (x = 0 ∧ Cond.fieldLink (am_y mid).cls v "java/lang/String" "COMPACT_STRINGS" "Z" ∈ am_tb) ∨ (x = 1 ∧ Cond.fieldLink (am_y mid).cls v "jdk/internal/util/Preconditions" "SIOOBE_FORMATTER" "Ljava/util/function/BiFunction;" ∈ am_tb)) (h : am_s X pc lv st M (.getstatic v) 3 x = some q) : am_Stp l G X mid pc lv st M q.1 q.2.1 q.2.2.1 q.2.2.2 := by
  rcases hS with ⟨rfl, hS⟩ | ⟨rfl, hS⟩
  · cases h
    refine am_Stp.pure (fun w2 w3 => am_wfs_cons (am_wfv_i _ _) w3) (fun p e R s m args below meth c A Q a ls H locs cells slots C hl hW kk => ?_)
    obtain ⟨hx, hb, hml, hown, hts, hK, hnm, hA, hE1, hE2, hE3, hE4, hE5, ⟨adK, adV, hvk, had, hsr⟩, ⟨b, hb0, hbT⟩, hZ1, hZ2⟩ := C
    exact va_gets hx hb hZ1 hW.2.2 hown (hts _ hS) (fun _ h => h) hd kk
  · cases h
    refine am_Stp.pure (fun w2 w3 => am_wfs_cons (am_wfv_e _ _) w3) (fun p e R s m args below meth c A Q a ls H locs cells slots C hl hW kk => ?_)
    obtain ⟨hx, hb, hml, hown, hts, hK, hnm, hA, hE1, hE2, hE3, hE4, hE5, ⟨adK, adV, hvk, had, hsr⟩, ⟨b, hb0, hbT⟩, hZ1, hZ2⟩ := C
    exact va_gets hx hb hZ2 hW.2.2 hown (hts _ hS) (fun _ h => h) hd kk
theorem am_k_tableswitch {dflt lo hi : Int} {offs : Array Int} (hd : decode (am_b mid) pc = .ok (.tableswitch dflt lo hi offs, n)) (ht0 : 0 ≤ (pc : Int) + dflt) (ht1 : ∀ o ∈ offs.toList, 0 ≤ (pc : Int) + o) (h : am_s X pc lv st M (.tableswitch dflt lo hi offs) n x = some q) : am_Stp l G X mid pc lv st M q.1 q.2.1 q.2.2.1 q.2.2.2 := by
  simp only [am_s] at h
  split at h
  · rename_i z st'
    split at h
    · rename_i hc
      cases h
      exact am_Stp.pure (fun w2 w3 => am_wfs_tl w3) (fun p e R s m args below meth c A Q a ls H locs cells slots C hl hW kk => lv_tableOut C.1 C.2.1 hd hc (by omega) kk)
    · rename_i hc
      split at h
      · rename_i off ho
        cases h
        have h1 : 0 ≤ (pc : Int) + off := ht1 off (by
          have := Array.mem_of_getElem? ho
          exact Array.mem_toList_iff.mpr this)
        exact am_Stp.pure (fun w2 w3 => am_wfs_tl w3) (fun p e R s m args below meth c A Q a ls H locs cells slots C hl hW kk => lv_tableIn C.1 C.2.1 hd (fun q => hc (Or.inl q)) (fun q => hc (Or.inr q)) ho (by omega) kk)
      · cases h
  · cases h
theorem am_k_lookupswitch {dflt : Int} {ps : Array (Int × Int)} (hd : decode (am_b mid) pc = .ok (.lookupswitch dflt ps, n)) (hp : (ps.toList.zip (ps.toList.drop 1)).all (fun (a, next) => a.1 < next.1) = true) (ht : ∀ z : Int, 0 ≤ (pc : Int) + Op.lookupswitch.offset ps.toList dflt z) (h : am_s X pc lv st M (.lookupswitch dflt ps) n x = some q) : am_Stp l G X mid pc lv st M q.1 q.2.1 q.2.2.1 q.2.2.2 := by
  simp only [am_s] at h
  split at h
  · rename_i z st'
    cases h
    have h1 := ht (am_w z)
    exact am_Stp.pure (fun w2 w3 => am_wfs_tl w3) (fun p e R s m args below meth c A Q a ls H locs cells slots C hl hW kk => lv_lookup C.1 C.2.1 hd hp rfl (by show (pc : Int) + Op.lookupswitch.offset ps.toList dflt (am_w z) = _; omega) kk)
  · cases h
end
end
section
/-! steps that make cells, and the two that ask for a kind -/
theorem am_sz_nw (M : am_M) (s : Nat × Nat) : am_sz (am_nw M s) = am_sz M + s.2 := by
  unfold am_sz am_nw
  simp
theorem am_len_nw (M : am_M) (s : Nat × Nat) : (am_nw M s).1.length = M.1.length + 1 := by
  unfold am_nw
  simp
theorem am_wf_nw {M : am_M} (s : Nat × Nat) (h : am_wf M) : am_wf (am_nw M s) := by
  intro k i r hr
  rw [am_len_nw]
  have hr : am_z M.2.2.2 M.1.length none k i = some r := hr
  unfold am_z at hr
  split at hr
  · cases hr
  · have := h k i r hr
    omega
theorem am_wfs_up {n m : Nat} {st : List am_V} (h : am_wfs n st) (hm : n ≤ m) : am_wfs m st := fun v hv r hr => Nat.lt_of_lt_of_le (h v hv r hr) hm
theorem am_wfl_up {n m : Nat} {lv : List (Nat × am_V)} (h : am_wfl n lv) (hm : n ≤ m) : am_wfl m lv := fun v hv r hr => Nat.lt_of_lt_of_le (h v hv r hr) hm
theorem am_ws_nw {G : am_G} {a a' : Nat → Nat} {M : am_M} {s : Nat × Nat} {q : Nat} (hw : am_wf M) (ha : am_ag M.1.length a a') (hq : a' M.1.length = q) : am_ws G a' (am_nw M s) = am_ws G a M ++ [(q, am_ce G a' (am_nw M s) M.1.length s)] := by
  apply List.ext_getElem?
  intro i
  have hl : (am_ws G a M).length = M.1.length := by unfold am_ws; rw [List.length_mapIdx]
  unfold am_ws at hl ⊢
  by_cases hi : i < M.1.length
  · rw [List.getElem?_append_left (by rw [hl]; exact hi), List.getElem?_mapIdx, List.getElem?_mapIdx]
    have e1 : (am_nw M s).1[i]? = M.1[i]? := List.getElem?_append_left hi
    rw [e1]
    cases hs : M.1[i]? with
    | none => rfl
    | some s' =>
      simp only [Option.map_some]
      rw [ha i hi, am_ce_congr (M := M) (am_z_ne (by omega)) (am_z_ne (by omega)) (am_z_ne (by omega)), am_ce_ag hw ha]
  · rw [List.getElem?_append_right (by rw [hl]; omega), List.getElem?_mapIdx, hl]
    by_cases he : i = M.1.length
    · subst he
      have e1 : (am_nw M s).1[M.1.length]? = some s := by unfold am_nw; simp
      rw [e1, Nat.sub_self]
      simp only [Option.map_some, hq]
      rfl
    · have e1 : (am_nw M s).1[i]? = none := List.getElem?_eq_none (by rw [am_len_nw]; omega)
      rw [e1]
      have : ∃ d, i - M.1.length = d + 1 := ⟨i - M.1.length - 1, by omega⟩
      obtain ⟨d, hd⟩ := this
      rw [hd]
      rfl
section
variable {l : Launch} {G : am_G} {X : Nat × (Nat → Int)} {mid pc pc' : Nat} {lv : List (Nat × am_V)} {st st0 : List am_V} {M : am_M}
theorem am_Stp.nw (sh : Nat × Nat) (hw : am_wfs M.1.length st → am_wfs M.1.length st0)
    (hr : ∀ (p : Program) (e : Env) (R : Room) (s : State) (m : MethodId) (args : Array Value) (below : List Frame) (meth : Method) (c : Code) (A : Nat → Prop) (Q : State → Prop) (a : Nat → Nat) (ls : Array Slot) (H : Heap) (locs : List Loc) (cells slots : Nat),
      am_Cx G X p s m args meth c mid A → lv_has ls (am_l mid) (am_lv G a lv) → am_Wd G a M A s H locs → cells + 1 ≤ R.cells → slots + sh.2 ≤ R.slots →
      (∀ (q : Nat) (H1 : Heap), va_P G.1 vwCl (am_ws G a M ++ [(q, am_ce G (fun i => if i = M.1.length then q else a i) (am_nw M sh) M.1.length sh)]) H1 → va_D A (am_ws G a M ++ [(q, am_ce G (fun i => if i = M.1.length then q else a i) (am_nw M sh) M.1.length sh)]) → va_S A s.heap H1 locs → W p l e R s m args below meth c H1 locs (cells + 1) (slots + sh.2) Q (F0 m pc' ls (.ref q :: am_sv G a st0))) →
      W p l e R s m args below meth c H locs cells slots Q (F0 m pc ls (am_sv G a st))) : am_Stp l G X mid pc lv st M pc' lv (.inr (.inr (.inl (some M.1.length))) :: st0) (am_nw M sh) := by
  refine ⟨⟨by rw [am_len_nw]; omega, by rw [am_sz_nw]; omega⟩, fun w1 w2 w3 => ⟨am_wf_nw sh w1, am_wfl_up w2 (by rw [am_len_nw]; omega), am_wfs_cons (am_wfv_r (fun k hk => by cases hk; rw [am_len_nw]; omega)) (am_wfs_up (hw w3) (by rw [am_len_nw]; omega))⟩, ?_⟩
  intro p e R s m args below meth c A Q a ls H locs cells slots C hl w1 w2 w3 hW h1 h2 k
  have d1 : (am_nw M sh).1.length - M.1.length = 1 := by rw [am_len_nw]; omega
  have d2 : am_sz (am_nw M sh) - am_sz M = sh.2 := by rw [am_sz_nw]; omega
  rw [d1] at h1 k
  rw [d2] at h2 k
  refine hr p e R s m args below meth c A Q a ls H locs cells slots C hl hW h1 h2 (fun q H1 q1 q2 q3 => ?_)
  have hag : am_ag M.1.length a (fun i => if i = M.1.length then q else a i) := fun i hi => by
    show (if i = M.1.length then q else a i) = a i
    rw [if_neg (by omega)]
  have hq : (fun i => if i = M.1.length then q else a i) M.1.length = q := by simp
  have hws := am_ws_nw (G := G) (s := sh) w1 hag hq
  have k9 := k _ ls H1 locs hag (by rw [am_lv_ag hag w2]; exact hl) ⟨by rw [hws]; exact q1, by rw [hws]; exact q2, q3⟩
  have e9 : am_sv G (fun i => if i = M.1.length then q else a i) (.inr (.inr (.inl (some M.1.length))) :: st0) = .ref q :: am_sv G a st0 := by
    show va_rf (some (if M.1.length = M.1.length then q else a M.1.length)) :: am_sv G _ st0 = _
    rw [if_pos rfl, am_sv_ag hag (hw w3)]
    rfl
  rw [e9] at k9
  exact k9
end
def am_df (c i : Nat) : Value := match am_ft c i with
  | 0 => .int 0
  | 3 => .int 0
  | 1 => .long 0
  | _ => .null
theorem am_df_ok {c i : Nat} {ty : FieldType} (h : am_fok (am_ft c i) ty = true) : defaultValue ty = am_df c i := by
  unfold am_df
  generalize am_ft c i = k at h
  unfold am_fok at h
  split at h
  · rfl
  · rfl
  · rfl
  · rfl
  · cases h
theorem am_o0i : Int32.ofInt 0 = 0 := by decide +kernel
theorem am_o0j : Int64.ofInt 0 = 0 := by decide +kernel
theorem am_ce_new {G : am_G} {a : Nat → Nat} {M : am_M} {sh : Nat × Nat} (h : sh.1 < 13) : am_ce G a (am_nw M sh) M.1.length sh = .inr (sh.1, (List.range sh.2).map (am_df sh.1)) := by
  rw [am_ceo h]
  congr 3
  funext i
  have e1 : (am_nw M sh).2.1 M.1.length i = 0 := by show am_z _ _ _ _ _ = _; unfold am_z; rw [if_pos rfl]
  have e2 : (am_nw M sh).2.2.1 M.1.length i = 0 := by show am_z _ _ _ _ _ = _; unfold am_z; rw [if_pos rfl]
  have e3 : (am_nw M sh).2.2.2 M.1.length i = none := by show am_z _ _ _ _ _ = _; unfold am_z; rw [if_pos rfl]
  unfold am_gf am_df
  rw [e1, e2, e3]
  generalize am_ft sh.1 i = t
  rcases t with _ | _ | _ | _ | t
  · show Value.int (Int32.ofInt 0) = Value.int 0; rw [am_o0i]
  · show Value.long (Int64.ofInt 0) = Value.long 0; rw [am_o0j]
  · rfl
  · show Value.int (Int32.ofInt 0) = Value.int 0; rw [am_o0i]
  · rfl
theorem am_findA {U : State} {G : am_G} {tys : List (ClassId × FieldType)} {cA : ClassId} {k : Nat} {ty : FieldType} {g : ClassId} (h1 : va_K G.1 vwCl (tys ++ [(cA, ty)]) U) (h2 : va_K G.1 vwCl tys U) (hk : tys[k]? = some (g, ty)) : cA = g := by
  have f1 := (h1.2 tys.length (cA, ty) (by simp)).2
  have f2 := (h2.2 k (g, ty) hk).2
  unfold va_RA at f1 f2
  cases ty with
  | object C =>
    obtain ⟨-, -, -, -, -, g1⟩ := f1
    obtain ⟨-, -, -, -, -, g2⟩ := f2
    exact Option.some.inj (g1.symm.trans g2)
  | _ => exact Option.some.inj (f1.symm.trans f2)
section
variable {l : Launch} {G : am_G} {X : Nat × (Nat → Int)} {mid pc n x : Nat} {lv : List (Nat × am_V)} {st : List am_V} {M : am_M} {q : Nat × List (Nat × am_V) × List am_V × am_M}
theorem am_k_new {v : Nat} (hd : decode (am_b mid) pc = .ok (.new v, 3)) (hCO : am_COs) (hcl : Cond.classLink (am_y mid).cls v (am_cn x) ∈ am_tb) (h : am_s X pc lv st M (.new v) 3 x = some q) : am_Stp l G X mid pc lv st M q.1 q.2.1 q.2.2.1 q.2.2.2 := by
  simp only [am_s] at h
  split at h
  · rename_i hx13
    cases h
    refine am_Stp.nw (x, am_nf x) (fun w => w) (fun p e R s m args below meth c A Q a ls H locs cells slots C hl hW h1 h2 kk => ?_)
    obtain ⟨hx, hb, hml, hown, hts, hK, hnm, hA, hE⟩ := C
    obtain ⟨r, ty0, hr, hn, hin, hi1, hi2, hty, -, hok⟩ := hCO x hx13
    have hcn : am_cn x = r.1 := by unfold am_cn; rw [List.getD_eq_getElem?_getD, hr]; rfl
    rw [hcn] at hcl
    rw [← hn] at h2 kk
    refine va_new (T := r.2.1) (N := r.2.2) (C := r.1) (ci := x) (fs := (List.range r.2.2).map (am_df x)) hx hb hts hin ty0 hty hown (hts _ hcl) (hts _ hi1) (hts _ hi2) hK hW.1 hW.2.1 hW.2.2 hA hr (fun j hj => ?_) h1 h2 hd (fun q H1 q1 q2 q3 => ?_)
    · rw [am_df_ok (hok j hj)]
      unfold vp_V
      rw [List.getD_eq_getElem?_getD, List.getElem?_map, List.getElem?_range hj]
      rfl
    · have hce := am_ce_new (G := G) (a := fun i => if i = M.1.length then q else a i) (M := M) (sh := (x, r.2.2)) hx13
      refine kk q H1 ?_ ?_ q3
      · rw [hce]; exact q1
      · rw [hce]; exact q2
  · cases h
theorem am_k_newarray {v : ArrayType} (hd : decode (am_b mid) pc = .ok (.newarray v, 2)) (hac : ∀ t : FieldType, t = .int ∨ t = .long ∨ t = .boolean → Cond.arrayClass t ∈ am_tb) (h : am_s X pc lv st M (.newarray v) 2 x = some q) : am_Stp l G X mid pc lv st M q.1 q.2.1 q.2.2.1 q.2.2.2 := by
  simp only [am_s] at h
  split at h
  · rename_i z st'
    split at h
    · rename_i hz
      have hz3 : z < 2147483648 := by omega
      split at h
      · cases h
        refine am_Stp.nw (20, z.toNat) (fun w => am_wfs_tl w) (fun p e R s m args below meth c A Q a ls H locs cells slots C hl hW h1 h2 kk => ?_)
        obtain ⟨hx, hb, hml, hown, hts, hK, hnm, hA, hE⟩ := C
        refine va_newa (a0 := (z.toNat, .inl (fun _ => 0))) (ty := .int) (atype := .int) hx hb (hts _ (hac .int (Or.inl rfl))) rfl hK hW.1 hW.2.1 hW.2.2 hA (fun cA => rfl) (am_nneg hz.1 hz3) (am_clamp hz.1 hz3) (by show z.toNat * 4 ≤ _; omega) h1 h2 hd (fun q cA H1 q0 q1 q2 q3 => ?_)
        have hcA := am_findA q0 hK (k := 0) rfl
        subst hcA
        have hce : am_ce G (fun i => if i = M.1.length then q else a i) (am_nw M (20, z.toNat)) M.1.length (20, z.toNat) = .inl (G.2.1 0, z.toNat, .inl (fun _ => 0)) := by
          rw [am_ce20 rfl]
          congr 4
          funext i
          show Int32.ofInt (am_z _ _ _ _ _) = _
          unfold am_z
          rw [if_pos rfl, am_o0i]
        exact kk q H1 (by rw [hce]; exact q1) (by rw [hce]; exact q2) q3
      · cases h
        refine am_Stp.nw (21, z.toNat) (fun w => am_wfs_tl w) (fun p e R s m args below meth c A Q a ls H locs cells slots C hl hW h1 h2 kk => ?_)
        obtain ⟨hx, hb, hml, hown, hts, hK, hnm, hA, hE⟩ := C
        refine va_newa (a0 := (z.toNat, .inr (.inl (fun _ => 0)))) (ty := .long) (atype := .long) hx hb (hts _ (hac .long (Or.inr (Or.inl rfl)))) rfl hK hW.1 hW.2.1 hW.2.2 hA (fun cA => rfl) (am_nneg hz.1 hz3) (am_clamp hz.1 hz3) (by show z.toNat * 8 ≤ _; omega) h1 h2 hd (fun q cA H1 q0 q1 q2 q3 => ?_)
        have hcA := am_findA q0 hK (k := 1) rfl
        subst hcA
        have hce : am_ce G (fun i => if i = M.1.length then q else a i) (am_nw M (21, z.toNat)) M.1.length (21, z.toNat) = .inl (G.2.1 1, z.toNat, .inr (.inl (fun _ => 0))) := by
          rw [am_ce21 rfl]
          congr 5
          funext i
          show Int64.ofInt (am_z _ _ _ _ _) = _
          unfold am_z
          rw [if_pos rfl, am_o0j]
        exact kk q H1 (by rw [hce]; exact q1) (by rw [hce]; exact q2) q3
      · cases h
        refine am_Stp.nw (22, z.toNat) (fun w => am_wfs_tl w) (fun p e R s m args below meth c A Q a ls H locs cells slots C hl hW h1 h2 kk => ?_)
        obtain ⟨hx, hb, hml, hown, hts, hK, hnm, hA, hE⟩ := C
        refine va_newa (a0 := (z.toNat, .inl (fun _ => 0))) (ty := .boolean) (atype := .boolean) hx hb (hts _ (hac .boolean (Or.inr (Or.inr rfl)))) rfl hK hW.1 hW.2.1 hW.2.2 hA (fun cA => rfl) (am_nneg hz.1 hz3) (am_clamp hz.1 hz3) (by show z.toNat * 1 ≤ _; omega) h1 h2 hd (fun q cA H1 q0 q1 q2 q3 => ?_)
        have hcA := am_findA q0 hK (k := 2) rfl
        subst hcA
        have hce : am_ce G (fun i => if i = M.1.length then q else a i) (am_nw M (22, z.toNat)) M.1.length (22, z.toNat) = .inl (G.2.1 2, z.toNat, .inl (fun _ => 0)) := by
          rw [am_ce22 rfl]
          congr 4
          funext i
          show Int32.ofInt (am_z _ _ _ _ _) = _
          unfold am_z
          rw [if_pos rfl, am_o0i]
        exact kk q H1 (by rw [hce]; exact q1) (by rw [hce]; exact q2) q3
      · cases h
    · cases h
  · cases h
theorem am_k_anewarray {v : Nat} (hd : decode (am_b mid) pc = .ok (.anewarray v, 3)) (hcl : Cond.classLink (am_y mid).cls v RX4 ∈ am_tb) (h : am_s X pc lv st M (.anewarray v) 3 x = some q) : am_Stp l G X mid pc lv st M q.1 q.2.1 q.2.2.1 q.2.2.2 := by
  simp only [am_s] at h
  split at h
  · rename_i z st'
    split at h
    · rename_i hz
      have hz3 : z < 2147483648 := by omega
      cases h
      refine am_Stp.nw (24, z.toNat) (fun w => am_wfs_tl w) (fun p e R s m args below meth c A Q a ls H locs cells slots C hl hW h1 h2 kk => ?_)
      obtain ⟨hx, hb, hml, hown, hts, hK, hnm, hA, hE1, hE2, hE3, hE4, hE5, hE6⟩ := C
      refine va_newq (C := RX4) hx hb hown (hts _ hcl) hE4 hK hW.1 hW.2.1 hW.2.2 hA (am_nneg hz.1 hz3) (am_clamp hz.1 hz3) (by omega) h1 h2 hd (fun q cA H1 q0 q1 q2 q3 => ?_)
      have hcA := am_findA q0 hK (k := 4) rfl
      subst hcA
      have hce : am_ce G (fun i => if i = M.1.length then q else a i) (am_nw M (24, z.toNat)) M.1.length (24, z.toNat) = .inl (G.2.1 4, z.toNat, .inr (.inr (.inr (.inr (fun _ => none))))) := by
        rw [am_ce24 rfl]
        congr 7
        funext i
        show (am_z _ _ _ _ _ : Option Nat).map _ = _
        unfold am_z
        rw [if_pos rfl]
        rfl
      exact kk q H1 (by rw [hce]; exact q1) (by rw [hce]; exact q2) q3
    · cases h
  · cases h
theorem am_cn_of {c : Nat} {r : vw_C} (hr : vwCl[c]? = some r) : am_cn c = r.1 := by unfold am_cn; rw [List.getD_eq_getElem?_getD, hr]; rfl
theorem am_mem_kin {c : Nat} (h : am_mem c = true) : c ∈ am_kin ∧ c < 13 := by
  unfold am_mem at h
  simp only [Bool.or_eq_true, beq_iff_eq] at h
  unfold am_kin
  simp only [List.mem_cons, List.not_mem_nil, or_false]
  omega
theorem am_k_aastore (hd : decode (am_b mid) pc = .ok (.aastore, 1)) (hCO : am_COs) (h : am_s X pc lv st M .aastore 1 x = some q) : am_Stp l G X mid pc lv st M q.1 q.2.1 q.2.2.1 q.2.2.2 := by
  simp only [am_s] at h
  split at h
  · rename_i v j k st'
    split at h
    · rename_i sh sv hs hv
      split at h
      · rename_i hc
        cases h
        refine am_Stp.put rfl (fun w1 w3 => ⟨am_wf_pR w1 (fun r hr => by cases hr; exact (List.getElem?_eq_some_iff.mp hv).1), am_wfs_tl (am_wfs_tl (am_wfs_tl w3))⟩) (fun p e R s m args below meth c A Q a ls H locs cells slots C hl w3 hW kk => ?_)
        obtain ⟨hx, hb, hml, hown, hts, hK, hnm, hA, hE1, hE2, hE3⟩ := C
        obtain ⟨v1, v2⟩ := am_vp hc.2.1
        obtain ⟨hk1, hk2⟩ := am_mem_kin hc.2.2
        obtain ⟨r, ty0, hr, -⟩ := hCO sv.1 hk2
        have he := am_ws_get (G := G) (a := a) hs
        rw [am_ce24 hc.1] at he
        have hev := am_ws_get (G := G) (a := a) hv
        rw [am_ceo hk2] at hev
        have fin : ∀ (H1 : Heap) (locs1 : List Loc), va_P G.1 vwCl ((am_ws G a M).set k (a k, .inl (G.2.1 4, sh.2, .inr (.inr (.inr (.inr (va_up (fun i => (M.2.2.2 k i).map a) (Int32.ofInt j).toNatClampNeg (some (a v))))))))) H1 → va_D A ((am_ws G a M).set k (a k, .inl (G.2.1 4, sh.2, .inr (.inr (.inr (.inr (va_up (fun i => (M.2.2.2 k i).map a) (Int32.ofInt j).toNatClampNeg (some (a v))))))))) → va_S A s.heap H1 locs1 → W p l e R s m args below meth c H1 locs1 cells slots Q (F0 m (pc + 1) ls (am_sv G a st')) := by
          intro H1 locs1 q1 q2 q3
          have hset : (am_ws G a M).set k (a k, .inl (G.2.1 4, sh.2, .inr (.inr (.inr (.inr (va_up (fun i => (M.2.2.2 k i).map a) (Int32.ofInt j).toNatClampNeg (some (a v)))))))) = am_ws G a (am_pR M k j.toNat (some v)) := by
            refine am_ws_set (M := M) (M' := am_pR M k j.toNat (some v)) rfl hs am_offR ?_
            rw [am_ce24 hc.1, v2]
            congr 7
            funext i
            show va_up (fun i => (M.2.2.2 k i).map a) j.toNat (some (a v)) i = (am_up M.2.2.2 k j.toNat (some v) k i).map a
            rw [am_up_row]
            unfold va_up
            by_cases e0 : i = j.toNat
            · rw [if_pos e0, if_pos e0]; rfl
            · rw [if_neg e0, if_neg e0]
          rw [hset] at q1 q2
          exact kk H1 locs1 ⟨q1, q2, q3⟩
        by_cases h4 : sv.1 = 4
        · rw [h4] at hr hev
          cases hr
          exact va_astq (r := (RX4, TX4, 3)) hx hb hK hW.1 hW.2.1 hW.2.2 k 4 v 4 he rfl hev rfl v1 hd fin
        · have hca := hE2 sv.1 hk1 h4
          rw [am_cn_of hr] at hca
          exact va_astqO (r := r) (E := RX4) hx hb hK hW.1 hW.2.1 hW.2.2 k 4 v sv.1 he rfl hca hev hr v1 hd fin
      · cases h
    · cases h
  · cases h
theorem am_k_instanceof {v : Nat} (hd : decode (am_b mid) pc = .ok (.instanceof v, 3)) (hCO : am_COs) (hx5 : x = 5 ∨ x = 6 ∨ x = 8) (hcl : Cond.classLink (am_y mid).cls v (am_cn x) ∈ am_tb) (h : am_s X pc lv st M (.instanceof v) 3 x = some q) : am_Stp l G X mid pc lv st M q.1 q.2.1 q.2.2.1 q.2.2.2 := by
  simp only [am_s] at h
  split at h
  · rename_i k st'
    split at h
    · rename_i sh hs
      split at h
      · rename_i hc
        obtain ⟨bb, hio, rfl⟩ := Option.map_eq_some_iff.mp h
        refine am_Stp.pure (fun w2 w3 => am_wfs_cons (am_wfv_i _ _) (am_wfs_tl w3)) (fun p e R s m args below meth c A Q a ls H locs cells slots C hl hW kk => ?_)
        obtain ⟨hx, hb, hml, hown, hts, hK, hnm, hA, hE1, hE2, hE3, hE4⟩ := C
        obtain ⟨hk1, hk2⟩ := am_mem_kin hc
        obtain ⟨r, ty0, hr, -⟩ := hCO sh.1 hk2
        have he := am_ws_get (G := G) (a := a) hs
        rw [am_ceo hk2] at he
        have hrv := va_recv hK hW.1 hr he
        have hxm : x ∈ [5, 6, 8] := by simp only [List.mem_cons, List.not_mem_nil, or_false]; exact hx5
        by_cases hsame : sh.1 = x
        · have hb1 : bb = true := by
            rw [hsame] at hio
            rcases hx5 with rfl | rfl | rfl <;> (cases hio; rfl)
          subst hb1
          rw [hsame] at hr
          rw [am_cn_of hr] at hcl
          exact va_instE hx hb hown (hts _ hcl) hrv hd kk
        · have h3 := hE3 x hxm sh.1 hk1 hsame
          rw [hio] at h3
          cases bb with
          | true =>
            rw [am_cn_of hr] at h3
            exact va_instY hx hb hown (hts _ hcl) h3 hrv hd kk
          | false =>
            rw [am_cn_of hr] at h3
            exact va_instNo hx hb hown (hts _ hcl) h3 hrv hd kk
      · cases h
    · cases h
  · cases h
end
end
section
/-! rows under rows -/
theorem am_len_mna (M : am_M) (n k : Nat) : (am_mna M n k).1.length = M.1.length + (1 + n) := by
  unfold am_mna
  simp
  omega
theorem am_sz_mna (M : am_M) (n k : Nat) : am_sz (am_mna M n k) = am_sz M + (n + n * k) := by
  unfold am_sz am_mna
  simp
theorem am_wf_mna {M : am_M} {n k : Nat} (h : am_wf M) : am_wf (am_mna M n k) := by
  intro q i r hr
  rw [am_len_mna]
  have hr : (if M.1.length ≤ q ∧ q < M.1.length + 1 + n then (if q = M.1.length ∧ i < n then some (M.1.length + 1 + i) else none) else M.2.2.2 q i) = some r := hr
  split at hr
  · split at hr
    · rename_i h1 h2
      have := Option.some.inj hr
      omega
    · cases hr
  · have := h q i r hr
    omega
theorem am_ws_mna {G : am_G} {a a' : Nat → Nat} {M : am_M} {n k q : Nat} {r : Nat → Nat} {f : Nat → va_E} (hw : am_wf M) (ha : am_ag M.1.length a a') (hq : a' M.1.length = q) (hr : ∀ j, j < n → a' (M.1.length + 1 + j) = r j) :
    am_ws G a' (am_mna M n k) = (am_ws G a M ++ [(q, .inl (G.2.1 3, n, .inr (.inr (.inr (.inr (fun i => if i < n then some (r i) else none))))))]) ++ va_pl ([] ++ (List.range n).map r) (vr_up f ([] ++ (List.range n).map r) (.inl (G.2.1 0, k, .inl (fun _ => 0)))) := by
  have hl : (am_ws G a M).length = M.1.length := by unfold am_ws; rw [List.length_mapIdx]
  have hl2 : (am_ws G a M ++ [(q, (.inl (G.2.1 3, n, .inr (.inr (.inr (.inr (fun i => if i < n then some (r i) else none))))) : va_E))]).length = M.1.length + 1 := by rw [List.length_append, hl]; rfl
  apply List.ext_getElem?
  intro i
  by_cases h1 : i < M.1.length
  · rw [List.getElem?_append_left (by rw [hl2]; omega), List.getElem?_append_left (by rw [hl]; exact h1)]
    unfold am_ws
    rw [List.getElem?_mapIdx, List.getElem?_mapIdx]
    have e1 : (am_mna M n k).1[i]? = M.1[i]? := List.getElem?_append_left h1
    rw [e1]
    cases hs : M.1[i]? with
    | none => rfl
    | some s' =>
      simp only [Option.map_some]
      have o1 : (am_mna M n k).2.1 i = M.2.1 i := by
        funext j
        show (if M.1.length ≤ i ∧ i < M.1.length + 1 + n then 0 else M.2.1 i j) = _
        rw [if_neg (by omega)]
      have o2 : (am_mna M n k).2.2.1 i = M.2.2.1 i := by
        funext j
        show (if M.1.length ≤ i ∧ i < M.1.length + 1 + n then 0 else M.2.2.1 i j) = _
        rw [if_neg (by omega)]
      have o3 : (am_mna M n k).2.2.2 i = M.2.2.2 i := by
        funext j
        show (if M.1.length ≤ i ∧ i < M.1.length + 1 + n then (if i = M.1.length ∧ j < n then some (M.1.length + 1 + j) else none) else M.2.2.2 i j) = _
        rw [if_neg (by omega)]
      rw [ha i h1, am_ce_congr (M := M) o1 o2 o3, am_ce_ag hw ha]
  · by_cases h2 : i = M.1.length
    · subst h2
      rw [List.getElem?_append_left (by rw [hl2]; omega), List.getElem?_append_right (by rw [hl]; omega), hl, Nat.sub_self]
      unfold am_ws
      rw [List.getElem?_mapIdx]
      have e1 : (am_mna M n k).1[M.1.length]? = some (23, n) := by unfold am_mna; simp
      rw [e1]
      simp only [Option.map_some, hq]
      rw [am_ce23 rfl]
      show some (q, (Sum.inl (G.2.1 3, n, Sum.inr (Sum.inr (Sum.inr (Sum.inr fun i => ((am_mna M n k).2.2.2 M.1.length i).map a')))) : va_E)) = some (q, _)
      congr 9
      funext j
      have e2 : (am_mna M n k).2.2.2 M.1.length j = if j < n then some (M.1.length + 1 + j) else none := by
        show (if M.1.length ≤ M.1.length ∧ M.1.length < M.1.length + 1 + n then (if M.1.length = M.1.length ∧ j < n then some (M.1.length + 1 + j) else none) else M.2.2.2 M.1.length j) = _
        rw [if_pos (by omega)]
        by_cases hj : j < n
        · rw [if_pos ⟨rfl, hj⟩, if_pos hj]
        · rw [if_neg (fun h => hj h.2), if_neg hj]
      rw [e2]
      by_cases hj : j < n
      · rw [if_pos hj, if_pos hj, Option.map_some, hr j hj]
      · rw [if_neg hj, if_neg hj]; rfl
    · rw [List.getElem?_append_right (by rw [hl2]; omega), hl2]
      obtain ⟨j, hj⟩ : ∃ j, i = M.1.length + 1 + j := ⟨i - M.1.length - 1, by omega⟩
      subst hj
      rw [show M.1.length + 1 + j - (M.1.length + 1) = j by omega]
      unfold am_ws va_pl
      rw [List.getElem?_mapIdx, List.nil_append, List.getElem?_map, List.getElem?_map]
      by_cases hjn : j < n
      · have e1 : (am_mna M n k).1[M.1.length + 1 + j]? = some (20, k) := by
          show (M.1 ++ (23, n) :: List.replicate n (20, k))[M.1.length + 1 + j]? = _
          rw [List.getElem?_append_right (by omega), show M.1.length + 1 + j - M.1.length = j + 1 by omega, List.getElem?_cons_succ, List.getElem?_replicate, if_pos hjn]
        rw [e1, List.getElem?_range hjn]
        simp only [Option.map_some]
        rw [hr j hjn, vr_up_in (List.mem_map.mpr ⟨j, List.mem_range.mpr hjn, rfl⟩), am_ce20 rfl]
        congr 6
        funext i
        have e3 : (am_mna M n k).2.1 (M.1.length + 1 + j) i = 0 := by
          show (if M.1.length ≤ M.1.length + 1 + j ∧ M.1.length + 1 + j < M.1.length + 1 + n then 0 else M.2.1 (M.1.length + 1 + j) i) = _
          rw [if_pos (by omega)]
        rw [e3, am_o0i]
      · have e1 : (am_mna M n k).1[M.1.length + 1 + j]? = none := List.getElem?_eq_none (by rw [am_len_mna]; omega)
        have e2 : (List.range n)[j]? = none := List.getElem?_eq_none (by rw [List.length_range]; omega)
        rw [e1, e2]
        rfl
section
variable {l : Launch} {G : am_G} {X : Nat × (Nat → Int)} {mid pc n x : Nat} {lv : List (Nat × am_V)} {st : List am_V} {M : am_M} {q : Nat × List (Nat × am_V) × List am_V × am_M}
theorem am_k_mna {v : Nat} (hd : decode (am_b mid) pc = .ok (.multianewarray v 2, 4)) (hcl : Cond.classLink (am_y mid).cls v ("[" ++ (FieldType.array .int).toString) ∈ am_tb) (hac : Cond.arrayClass .int ∈ am_tb) (h : am_s X pc lv st M (.multianewarray v 2) 4 x = some q) : am_Stp l G X mid pc lv st M q.1 q.2.1 q.2.2.1 q.2.2.2 := by
  simp only [am_s] at h
  split at h
  · rename_i k z st'
    split at h
    · rename_i hz
      cases h
      refine ⟨⟨by rw [am_len_mna]; omega, by rw [am_sz_mna]; omega⟩, fun w1 w2 w3 => ⟨am_wf_mna w1, am_wfl_up w2 (by rw [am_len_mna]; omega), am_wfs_cons (am_wfv_r (fun k hk => by cases hk; rw [am_len_mna]; omega)) (am_wfs_up (am_wfs_tl (am_wfs_tl w3)) (by rw [am_len_mna]; omega))⟩, ?_⟩
      intro p e R s m args below meth c A Q a ls H locs cells slots C hl w1 w2 w3 hW h1 h2 kk
      have d1 : (am_mna M z.toNat k.toNat).1.length - M.1.length = 1 + z.toNat := by rw [am_len_mna]; omega
      have d2 : am_sz (am_mna M z.toNat k.toNat) - am_sz M = z.toNat + z.toNat * k.toNat := by rw [am_sz_mna]; omega
      rw [d1] at h1 kk
      rw [d2] at h2 kk
      obtain ⟨hx, hb, hml, hown, hts, hK, hnm, hA, hE1, hE2, hE3, hE4, hE5, hE6⟩ := C
      have hcy : s.vm.findClass (FieldType.array .int).toString = some (G.2.1 0) := (hK.2 0 (G.2.1 0, .int) rfl).2
      refine va_mna (X := am_ws G a M) (L := []) (f := fun _ => .inl (0, 0, .inl (fun _ => 0))) (ty := .int) (z := (k.toNat, .inl (fun _ => 0))) hx hb hown (hts _ hcl) hE5 (hts _ hac) hcy hK (by rw [show va_pl [] _ = [] from rfl, List.append_nil]; exact hW.1) (by rw [show va_pl [] _ = [] from rfl, List.append_nil]; exact hW.2.1) hW.2.2 hA (am_nneg hz.2.2.1 (by omega)) (am_nneg hz.1 (by omega)) (am_clamp hz.2.2.1 (by omega)) (am_clamp hz.1 (by omega)) (by omega) (by show k.toNat * 4 ≤ _; omega) (by omega) rfl rfl h1 h2 (fun c => by rw [vp_cell_i]; exact arrV_new c _ _) hd (fun q r cA H1 hinj _ hK2 q1 q2 q3 => ?_)
      have hcA := am_findA hK2 hK (k := 3) rfl
      subst hcA
      have hag : am_ag M.1.length a (fun i => if i = M.1.length then q else if M.1.length < i then r (i - M.1.length - 1) else a i) := fun i hi => by
        show (if i = M.1.length then q else if M.1.length < i then r (i - M.1.length - 1) else a i) = a i
        rw [if_neg (by omega), if_neg (by omega)]
      have hq : (fun i => if i = M.1.length then q else if M.1.length < i then r (i - M.1.length - 1) else a i) M.1.length = q := by simp
      have hr : ∀ j, j < z.toNat → (fun i => if i = M.1.length then q else if M.1.length < i then r (i - M.1.length - 1) else a i) (M.1.length + 1 + j) = r j := fun j _ => by
        show (if M.1.length + 1 + j = M.1.length then q else if M.1.length < M.1.length + 1 + j then r (M.1.length + 1 + j - M.1.length - 1) else a (M.1.length + 1 + j)) = r j
        rw [if_neg (by omega), if_pos (by omega), show M.1.length + 1 + j - M.1.length - 1 = j by omega]
      have hws := am_ws_mna (G := G) (k := k.toNat) (f := fun _ => .inl (0, 0, .inl (fun _ => 0))) w1 hag hq hr
      have k9 := kk _ ls H1 locs hag (by rw [am_lv_ag hag w2]; exact hl) ⟨by rw [hws]; exact q1, by rw [hws]; exact q2, q3⟩
      have e9 : am_sv G (fun i => if i = M.1.length then q else if M.1.length < i then r (i - M.1.length - 1) else a i) (.inr (.inr (.inl (some M.1.length))) :: st') = .ref q :: am_sv G a st' := by
        show va_rf (some (if M.1.length = M.1.length then q else if M.1.length < M.1.length then r (M.1.length - M.1.length - 1) else a M.1.length)) :: am_sv G _ st' = _
        rw [if_pos rfl, am_sv_ag hag (am_wfs_tl (am_wfs_tl w3))]
        rfl
      rw [e9] at k9
      rw [Nat.add_assoc, Nat.add_assoc]
      exact k9
    · cases h
  · cases h
end
end
section
/-! every instruction of the tables' that makes one step -/
def am_inT (w : Cond) : Bool := decide (w ∈ lw_tbl) && goodWord w
theorem am_inT_tb {w : Cond} (h : am_inT w = true) : w ∈ am_tb := by
  unfold am_inT at h
  simp only [Bool.and_eq_true, decide_eq_true_eq] at h
  exact List.mem_filter.mpr h
/-- a word at its place among the launch's -/
def am_inI (i : Nat) (w : Cond) : Bool := decide (lw_tbl[i]? = some w) && goodWord w
theorem am_inI_tb {i : Nat} {w : Cond} (h : am_inI i w = true) : w ∈ am_tb := by
  unfold am_inI at h
  simp only [Bool.and_eq_true, decide_eq_true_eq] at h
  exact List.mem_filter.mpr ⟨List.mem_of_getElem? h.1, h.2⟩
def am_gi (t : List (Nat × List Nat)) (c k : Nat) : Nat := ((t.lookup c).getD []).getD k 0
def am_flok (x : Nat) (q : String × Nat × String × List (Nat × Nat)) : Bool := q.2.2.2.all (fun z => if z.1 < 13 then match vwCl[z.1]? with
    | some r => decide (z.2 < r.2.2) && (am_inI (am_gi (am_fix.getD x []) z.1 0) (.fieldLink q.1 q.2.1 q.2.2.1 (r.2.1 z.2).2.1 (r.2.1 z.2).2.2.1) && (decide (q.2.2.1 = (r.2.1 z.2).1) || am_inI (am_gi (am_fix.getD x []) z.1 1) (.sameField q.2.2.1 (r.2.1 z.2).1 (r.2.1 z.2).2.1 (r.2.1 z.2).2.2.1)))
    | none => false
  else (decide (z.2 = 0) && am_inI (am_gi (am_fix.getD x []) z.1 0) (.fieldLink q.1 q.2.1 "java/lang/String" "value" "[B")) || (decide (z.2 = 1) && am_inI (am_gi (am_fix.getD x []) z.1 0) (.fieldLink q.1 q.2.1 "java/lang/String" "coder" "B")))
def am_FLs : Prop := ∀ (x : Nat) (q : String × Nat × String × List (Nat × Nat)), am_fl[x]? = some q → am_flok x q = true
def am_flk (own : String) (v x : Nat) : Bool := match am_fl[x]? with
  | some q => decide (q.1 = own) && decide (q.2.1 = v)
  | none => false
def am_ffk (mid x : Nat) : Bool := match am_fl[x]? with
  | some q => q.2.2.2.all (fun z => match vwCl[z.1]? with
    | some r => !(r.2.1 z.2).2.2.2 || ((am_y mid).name == "<init>" && decide ((r.2.1 z.2).1 = (am_y mid).cls))
    | none => true)
  | none => true
theorem am_lookm {α : Type} {l : List (Nat × α)} {i : Nat} {v : α} (h : l.lookup i = some v) : (i, v) ∈ l := by
  induction l with
  | nil => cases h
  | cons q l ih =>
    obtain ⟨j, w⟩ := q
    rw [List.lookup_cons] at h
    by_cases e : i = j
    · subst e
      simp at h
      subst h
      exact List.mem_cons_self
    · have : (i == j) = false := by simpa using e
      rw [this] at h
      exact List.mem_cons_of_mem _ (ih h)
theorem am_F_mem {x c f : Nat} (h : am_F x c = some f) : ∃ q, am_fl[x]? = some q ∧ (c, f) ∈ q.2.2.2 := by
  unfold am_F at h
  split at h
  · rename_i q hq
    exact ⟨q, hq, am_lookm h⟩
  · cases h
theorem am_FO_of (hFL : am_FLs) {own : String} {v x : Nat} (h : am_flk own v x = true) : am_FO own v x := by
  intro c f hf hc r hr
  obtain ⟨q, hq, hm⟩ := am_F_mem hf
  unfold am_flk at h
  rw [hq] at h
  simp only [Bool.and_eq_true, decide_eq_true_eq] at h
  obtain ⟨rfl, rfl⟩ := h
  have h1 := List.all_eq_true.mp (hFL x q hq) (c, f) hm
  rw [if_pos hc] at h1
  dsimp only at h1
  rw [hr] at h1
  simp only [Bool.and_eq_true, Bool.or_eq_true, decide_eq_true_eq] at h1
  refine ⟨h1.1, q.2.2.1, am_inI_tb h1.2.1, ?_⟩
  rcases h1.2.2 with e | e
  · exact Or.inl e
  · exact Or.inr (am_inI_tb e)
theorem am_FS_of (hFL : am_FLs) {own : String} {v x : Nat} (h : am_flk own v x = true) : ∀ f, am_F x 13 = some f → (f = 0 ∧ Cond.fieldLink own v "java/lang/String" "value" "[B" ∈ am_tb) ∨ (f = 1 ∧ Cond.fieldLink own v "java/lang/String" "coder" "B" ∈ am_tb) := by
  intro f hf
  obtain ⟨q, hq, hm⟩ := am_F_mem hf
  unfold am_flk at h
  rw [hq] at h
  simp only [Bool.and_eq_true, decide_eq_true_eq] at h
  obtain ⟨rfl, rfl⟩ := h
  have h1 := List.all_eq_true.mp (hFL x q hq) (13, f) hm
  rw [if_neg (by omega)] at h1
  simp only [Bool.and_eq_true, Bool.or_eq_true, decide_eq_true_eq] at h1
  rcases h1 with ⟨h1, h2⟩ | ⟨h1, h2⟩
  · exact Or.inl ⟨h1, am_inI_tb h2⟩
  · exact Or.inr ⟨h1, am_inI_tb h2⟩
theorem am_FF_of {mid x : Nat} (h : am_ffk mid x = true) : am_FF mid x := by
  intro c f hf hc r hr
  obtain ⟨q, hq, hm⟩ := am_F_mem hf
  unfold am_ffk at h
  rw [hq] at h
  have h1 := List.all_eq_true.mp h (c, f) hm
  dsimp only at h1
  rw [hr] at h1
  have h1 : (!(r.2.1 f).2.2.2 || ((am_y mid).name == "<init>" && decide ((r.2.1 f).1 = (am_y mid).cls))) = true := h1
  cases hb : (r.2.1 f).2.2.2 with
  | false => exact Or.inl rfl
  | true =>
    rw [hb] at h1
    simp only [Bool.not_true, Bool.false_or, Bool.and_eq_true, beq_iff_eq, decide_eq_true_eq] at h1
    exact Or.inr ⟨rfl, h1.1, h1.2⟩
/-- what an entry of the tables must be -/
def am_ck (mid pc : Nat) (i : Instr) (n x : Nat) : Bool := match i with
  | .bipush v => decide (n = 2) && decide ((Int8.ofInt v).toInt32 = Int32.ofInt v)
  | .sipush v => decide (n = 3) && decide ((Int16.ofInt v).toInt32 = Int32.ofInt v)
  | .lconst v => decide (n = 1) && decide (Int64.ofNat (v : Nat) = Int64.ofInt ((v : Nat) : Int))
  | .iload _ => decide (n = 2)
  | .lload _ => decide (n = 2)
  | .aload _ => decide (n = 2)
  | .istore_n v => decide (n = 1) && decide ((v : Nat) < am_l mid)
  | .astore_n v => decide (n = 1) && decide ((v : Nat) < am_l mid)
  | .lstore_n v => decide (n = 1) && decide ((v : Nat) + 1 < am_l mid)
  | .istore v => decide (n = 2) && decide (v < am_l mid)
  | .astore v => decide (n = 2) && decide (v < am_l mid)
  | .lstore v => decide (n = 2) && decide (v + 1 < am_l mid)
  | .iinc _ _ => decide (n = 3)
  | .goto off => decide (n = 3) && decide ((pc : Int) + off = (x : Int))
  | .ifCond _ off => decide (n = 3) && decide ((pc : Int) + off = (x : Int))
  | .if_icmp _ off => decide (n = 3) && decide ((pc : Int) + off = (x : Int))
  | .tableswitch dflt _ _ offs => decide (0 ≤ (pc : Int) + dflt) && offs.toList.all (fun o => decide (0 ≤ (pc : Int) + o))
  | .lookupswitch dflt ps => decide (0 ≤ (pc : Int) + dflt) && (ps.toList.all (fun o => decide (0 ≤ (pc : Int) + o.2)) && (ps.toList.zip (ps.toList.drop 1)).all (fun (a, next) => a.1 < next.1))
  | .ldc v => decide (n = 2) && (List.range 10).any (fun j => decide (x = 1 + 2 * j) && decide (((am_y mid).cls, v, j) ∈ am_srs))
  | .ldc_w v => decide (n = 3) && am_inT (.constant (am_y mid).cls v (Int32.ofInt x))
  | .ldc2_w v => decide (n = 3) && am_inT (.constantLong (am_y mid).cls v (Int64.ofInt (am_lcs.getD x 0)))
  | .getstatic v => decide (n = 3) && ((decide (x = 0) && am_inT (.fieldLink (am_y mid).cls v "java/lang/String" "COMPACT_STRINGS" "Z")) || (decide (x = 1) && am_inT (.fieldLink (am_y mid).cls v "jdk/internal/util/Preconditions" "SIOOBE_FORMATTER" "Ljava/util/function/BiFunction;")))
  | .getfield v => decide (n = 3) && am_flk (am_y mid).cls v x
  | .putfield v => decide (n = 3) && (am_flk (am_y mid).cls v x && am_ffk mid x)
  | .new v => decide (n = 3) && am_inT (.classLink (am_y mid).cls v (am_cn x))
  | .newarray _ => decide (n = 2)
  | .anewarray v => decide (n = 3) && am_inT (.classLink (am_y mid).cls v RX4)
  | .multianewarray v d => decide (n = 4) && (decide (d = 2) && am_inT (.classLink (am_y mid).cls v ("[" ++ (FieldType.array .int).toString)))
  | .instanceof v => decide (n = 3) && ((decide (x = 5) || (decide (x = 6) || decide (x = 8))) && am_inT (.classLink (am_y mid).cls v (am_cn x)))
  | .invokevirtual _ => decide (n = 3)
  | .invokestatic _ => decide (n = 3)
  | .invokespecial _ => decide (n = 3)
  | _ => decide (n = 1)
theorem am_lookup_off {pc : Nat} {ps : List (Int × Int)} {dflt : Int} (h0 : 0 ≤ (pc : Int) + dflt) (h1 : ps.all (fun o => decide (0 ≤ (pc : Int) + o.2)) = true) (z : Int) : 0 ≤ (pc : Int) + Op.lookupswitch.offset ps dflt z := by
  induction ps with
  | nil => exact h0
  | cons a r ih =>
    obtain ⟨a, o⟩ := a
    rw [List.all_cons, Bool.and_eq_true, decide_eq_true_eq] at h1
    show 0 ≤ (pc : Int) + (if a = z then o else Op.lookupswitch.offset r dflt z)
    split
    · exact h1.1
    · exact ih h1.2
section
variable {l : Launch} {G : am_G} {X : Nat × (Nat → Int)} {mid pc n x : Nat} {lv : List (Nat × am_V)} {st : List am_V} {M : am_M} {q : Nat × List (Nat × am_V) × List am_V × am_M}
/-- one step of one instruction -/
theorem am_s_ok (hCO : am_COs) (hFL : am_FLs) (hac : ∀ t : FieldType, t = .int ∨ t = .long ∨ t = .boolean → Cond.arrayClass t ∈ am_tb) {i : Instr} (hd : decode (am_b mid) pc = .ok (i, n)) (hck : am_ck mid pc i n x = true) (h : am_s X pc lv st M i n x = some q) : am_Stp l G X mid pc lv st M q.1 q.2.1 q.2.2.1 q.2.2.2 := by
  cases i with
  | iconst v =>
    simp only [am_ck, Bool.and_eq_true, Bool.or_eq_true, decide_eq_true_eq] at hck
    subst hck
    exact am_k_iconst hd h
  | iload_n v =>
    simp only [am_ck, Bool.and_eq_true, Bool.or_eq_true, decide_eq_true_eq] at hck
    subst hck
    exact am_k_iload_n hd h
  | lload_n v =>
    simp only [am_ck, Bool.and_eq_true, Bool.or_eq_true, decide_eq_true_eq] at hck
    subst hck
    exact am_k_lload_n hd h
  | aload_n v =>
    simp only [am_ck, Bool.and_eq_true, Bool.or_eq_true, decide_eq_true_eq] at hck
    subst hck
    exact am_k_aload_n hd h
  | ineg =>
    simp only [am_ck, Bool.and_eq_true, Bool.or_eq_true, decide_eq_true_eq] at hck
    subst hck
    exact am_k_ineg hd h
  | i2l =>
    simp only [am_ck, Bool.and_eq_true, Bool.or_eq_true, decide_eq_true_eq] at hck
    subst hck
    exact am_k_i2l hd h
  | i2c =>
    simp only [am_ck, Bool.and_eq_true, Bool.or_eq_true, decide_eq_true_eq] at hck
    subst hck
    exact am_k_i2c hd h
  | lcmp =>
    simp only [am_ck, Bool.and_eq_true, Bool.or_eq_true, decide_eq_true_eq] at hck
    subst hck
    exact am_k_lcmp hd h
  | dup =>
    simp only [am_ck, Bool.and_eq_true, Bool.or_eq_true, decide_eq_true_eq] at hck
    subst hck
    exact am_k_dup hd h
  | dup2 =>
    simp only [am_ck, Bool.and_eq_true, Bool.or_eq_true, decide_eq_true_eq] at hck
    subst hck
    exact am_k_dup2 hd h
  | pop =>
    simp only [am_ck, Bool.and_eq_true, Bool.or_eq_true, decide_eq_true_eq] at hck
    subst hck
    exact am_k_pop hd h
  | arraylength =>
    simp only [am_ck, Bool.and_eq_true, Bool.or_eq_true, decide_eq_true_eq] at hck
    subst hck
    exact am_k_arraylength hd h
  | iaload =>
    simp only [am_ck, Bool.and_eq_true, Bool.or_eq_true, decide_eq_true_eq] at hck
    subst hck
    exact am_k_iaload hd h
  | baload =>
    simp only [am_ck, Bool.and_eq_true, Bool.or_eq_true, decide_eq_true_eq] at hck
    subst hck
    exact am_k_baload hd h
  | laload =>
    simp only [am_ck, Bool.and_eq_true, Bool.or_eq_true, decide_eq_true_eq] at hck
    subst hck
    exact am_k_laload hd h
  | aaload =>
    simp only [am_ck, Bool.and_eq_true, Bool.or_eq_true, decide_eq_true_eq] at hck
    subst hck
    exact am_k_aaload hd h
  | iastore =>
    simp only [am_ck, Bool.and_eq_true, Bool.or_eq_true, decide_eq_true_eq] at hck
    subst hck
    exact am_k_iastore hd h
  | bastore =>
    simp only [am_ck, Bool.and_eq_true, Bool.or_eq_true, decide_eq_true_eq] at hck
    subst hck
    exact am_k_bastore hd h
  | lastore =>
    simp only [am_ck, Bool.and_eq_true, Bool.or_eq_true, decide_eq_true_eq] at hck
    subst hck
    exact am_k_lastore hd h
  | iadd =>
    simp only [am_ck, Bool.and_eq_true, Bool.or_eq_true, decide_eq_true_eq] at hck
    subst hck
    exact am_k_iadd hd h
  | isub =>
    simp only [am_ck, Bool.and_eq_true, Bool.or_eq_true, decide_eq_true_eq] at hck
    subst hck
    exact am_k_isub hd h
  | imul =>
    simp only [am_ck, Bool.and_eq_true, Bool.or_eq_true, decide_eq_true_eq] at hck
    subst hck
    exact am_k_imul hd h
  | iand =>
    simp only [am_ck, Bool.and_eq_true, Bool.or_eq_true, decide_eq_true_eq] at hck
    subst hck
    exact am_k_iand hd h
  | ior =>
    simp only [am_ck, Bool.and_eq_true, Bool.or_eq_true, decide_eq_true_eq] at hck
    subst hck
    exact am_k_ior hd h
  | ixor =>
    simp only [am_ck, Bool.and_eq_true, Bool.or_eq_true, decide_eq_true_eq] at hck
    subst hck
    exact am_k_ixor hd h
  | ishl =>
    simp only [am_ck, Bool.and_eq_true, Bool.or_eq_true, decide_eq_true_eq] at hck
    subst hck
    exact am_k_ishl hd h
  | ishr =>
    simp only [am_ck, Bool.and_eq_true, Bool.or_eq_true, decide_eq_true_eq] at hck
    subst hck
    exact am_k_ishr hd h
  | iushr =>
    simp only [am_ck, Bool.and_eq_true, Bool.or_eq_true, decide_eq_true_eq] at hck
    subst hck
    exact am_k_iushr hd h
  | idiv =>
    simp only [am_ck, Bool.and_eq_true, Bool.or_eq_true, decide_eq_true_eq] at hck
    subst hck
    exact am_k_idiv hd h
  | irem =>
    simp only [am_ck, Bool.and_eq_true, Bool.or_eq_true, decide_eq_true_eq] at hck
    subst hck
    exact am_k_irem hd h
  | ladd =>
    simp only [am_ck, Bool.and_eq_true, Bool.or_eq_true, decide_eq_true_eq] at hck
    subst hck
    exact am_k_ladd hd h
  | lmul =>
    simp only [am_ck, Bool.and_eq_true, Bool.or_eq_true, decide_eq_true_eq] at hck
    subst hck
    exact am_k_lmul hd h
  | ldiv =>
    simp only [am_ck, Bool.and_eq_true, Bool.or_eq_true, decide_eq_true_eq] at hck
    subst hck
    exact am_k_ldiv hd h
  | lrem =>
    simp only [am_ck, Bool.and_eq_true, Bool.or_eq_true, decide_eq_true_eq] at hck
    subst hck
    exact am_k_lrem hd h
  | aastore =>
    simp only [am_ck, Bool.and_eq_true, Bool.or_eq_true, decide_eq_true_eq] at hck
    subst hck
    exact am_k_aastore hd hCO h
  | iload v =>
    simp only [am_ck, Bool.and_eq_true, Bool.or_eq_true, decide_eq_true_eq] at hck
    subst hck
    exact am_k_iload hd h
  | lload v =>
    simp only [am_ck, Bool.and_eq_true, Bool.or_eq_true, decide_eq_true_eq] at hck
    subst hck
    exact am_k_lload hd h
  | aload v =>
    simp only [am_ck, Bool.and_eq_true, Bool.or_eq_true, decide_eq_true_eq] at hck
    subst hck
    exact am_k_aload hd h
  | bipush v =>
    simp only [am_ck, Bool.and_eq_true, Bool.or_eq_true, decide_eq_true_eq] at hck
    obtain ⟨rfl, h1⟩ := hck
    exact am_k_bipush hd h1 h
  | sipush v =>
    simp only [am_ck, Bool.and_eq_true, Bool.or_eq_true, decide_eq_true_eq] at hck
    obtain ⟨rfl, h1⟩ := hck
    exact am_k_sipush hd h1 h
  | lconst v =>
    simp only [am_ck, Bool.and_eq_true, Bool.or_eq_true, decide_eq_true_eq] at hck
    obtain ⟨rfl, h1⟩ := hck
    exact am_k_lconst hd h1 h
  | istore_n v =>
    simp only [am_ck, Bool.and_eq_true, Bool.or_eq_true, decide_eq_true_eq] at hck
    obtain ⟨rfl, h1⟩ := hck
    exact am_k_istore_n hd h1 h
  | astore_n v =>
    simp only [am_ck, Bool.and_eq_true, Bool.or_eq_true, decide_eq_true_eq] at hck
    obtain ⟨rfl, h1⟩ := hck
    exact am_k_astore_n hd h1 h
  | lstore_n v =>
    simp only [am_ck, Bool.and_eq_true, Bool.or_eq_true, decide_eq_true_eq] at hck
    obtain ⟨rfl, h1⟩ := hck
    exact am_k_lstore_n hd h1 h
  | istore v =>
    simp only [am_ck, Bool.and_eq_true, Bool.or_eq_true, decide_eq_true_eq] at hck
    obtain ⟨rfl, h1⟩ := hck
    exact am_k_istore hd h1 h
  | astore v =>
    simp only [am_ck, Bool.and_eq_true, Bool.or_eq_true, decide_eq_true_eq] at hck
    obtain ⟨rfl, h1⟩ := hck
    exact am_k_astore hd h1 h
  | lstore v =>
    simp only [am_ck, Bool.and_eq_true, Bool.or_eq_true, decide_eq_true_eq] at hck
    obtain ⟨rfl, h1⟩ := hck
    exact am_k_lstore hd h1 h
  | goto v =>
    simp only [am_ck, Bool.and_eq_true, Bool.or_eq_true, decide_eq_true_eq] at hck
    obtain ⟨rfl, h1⟩ := hck
    exact am_k_goto hd h1 h
  | iinc v w =>
    simp only [am_ck, Bool.and_eq_true, Bool.or_eq_true, decide_eq_true_eq] at hck
    subst hck
    exact am_k_iinc hd h
  | ifCond c off =>
    simp only [am_ck, Bool.and_eq_true, Bool.or_eq_true, decide_eq_true_eq] at hck
    obtain ⟨rfl, h1⟩ := hck
    cases c with
    | eq => exact am_k_if_eq hd h1 h
    | ne => exact am_k_if_ne hd h1 h
    | lt => exact am_k_if_lt hd h1 h
    | ge => exact am_k_if_ge hd h1 h
    | gt => exact am_k_if_gt hd h1 h
    | le => exact am_k_if_le hd h1 h
  | if_icmp c off =>
    simp only [am_ck, Bool.and_eq_true, Bool.or_eq_true, decide_eq_true_eq] at hck
    obtain ⟨rfl, h1⟩ := hck
    cases c with
    | eq => exact am_k_icmp_eq hd h1 h
    | ne => exact am_k_icmp_ne hd h1 h
    | lt => exact am_k_icmp_lt hd h1 h
    | ge => exact am_k_icmp_ge hd h1 h
    | gt => exact am_k_icmp_gt hd h1 h
    | le => exact am_k_icmp_le hd h1 h
  | tableswitch dflt lo hi offs =>
    simp only [am_ck, Bool.and_eq_true, Bool.or_eq_true, decide_eq_true_eq] at hck
    exact am_k_tableswitch hd hck.1 (fun o ho => by have := List.all_eq_true.mp hck.2 o ho; simpa using this) h
  | lookupswitch dflt ps =>
    simp only [am_ck, Bool.and_eq_true, Bool.or_eq_true, decide_eq_true_eq] at hck
    exact am_k_lookupswitch hd hck.2.2 (am_lookup_off hck.1 hck.2.1) h
  | ldc v =>
    simp only [am_ck, Bool.and_eq_true, Bool.or_eq_true, decide_eq_true_eq] at hck
    obtain ⟨rfl, h1⟩ := hck
    obtain ⟨j, hj, hj2⟩ := List.any_eq_true.mp h1
    simp only [Bool.and_eq_true, decide_eq_true_eq] at hj2
    exact am_k_ldc hd ⟨j, List.mem_range.mp hj, hj2.1, hj2.2⟩ h
  | ldc_w v =>
    simp only [am_ck, Bool.and_eq_true, Bool.or_eq_true, decide_eq_true_eq] at hck
    obtain ⟨rfl, h1⟩ := hck
    exact am_k_ldc_w hd (am_inT_tb h1) h
  | ldc2_w v =>
    simp only [am_ck, Bool.and_eq_true, Bool.or_eq_true, decide_eq_true_eq] at hck
    obtain ⟨rfl, h1⟩ := hck
    exact am_k_ldc2_w hd (am_inT_tb h1) h
  | getstatic v =>
    simp only [am_ck, Bool.and_eq_true, Bool.or_eq_true, decide_eq_true_eq] at hck
    obtain ⟨rfl, h1⟩ := hck
    exact am_k_getstatic hd (h1.imp (fun z => ⟨z.1, am_inT_tb z.2⟩) (fun z => ⟨z.1, am_inT_tb z.2⟩)) h
  | getfield v =>
    simp only [am_ck, Bool.and_eq_true, Bool.or_eq_true, decide_eq_true_eq] at hck
    obtain ⟨rfl, h1⟩ := hck
    exact am_k_getfield hd hCO (am_FO_of hFL h1) (am_FS_of hFL h1) h
  | putfield v =>
    simp only [am_ck, Bool.and_eq_true, Bool.or_eq_true, decide_eq_true_eq] at hck
    obtain ⟨rfl, h1, h2⟩ := hck
    exact am_k_putfield hd hCO (am_FO_of hFL h1) (am_FF_of h2) h
  | new v =>
    simp only [am_ck, Bool.and_eq_true, Bool.or_eq_true, decide_eq_true_eq] at hck
    obtain ⟨rfl, h1⟩ := hck
    exact am_k_new hd hCO (am_inT_tb h1) h
  | newarray v =>
    simp only [am_ck, Bool.and_eq_true, Bool.or_eq_true, decide_eq_true_eq] at hck
    subst hck
    exact am_k_newarray hd hac h
  | anewarray v =>
    simp only [am_ck, Bool.and_eq_true, Bool.or_eq_true, decide_eq_true_eq] at hck
    obtain ⟨rfl, h1⟩ := hck
    exact am_k_anewarray hd (am_inT_tb h1) h
  | multianewarray v d =>
    simp only [am_ck, Bool.and_eq_true, Bool.or_eq_true, decide_eq_true_eq] at hck
    obtain ⟨rfl, rfl, h1⟩ := hck
    exact am_k_mna hd (am_inT_tb h1) (hac .int (Or.inl rfl)) h
  | instanceof v =>
    simp only [am_ck, Bool.and_eq_true, Bool.or_eq_true, decide_eq_true_eq] at hck
    obtain ⟨rfl, h0, h1⟩ := hck
    exact am_k_instanceof hd hCO h0 (am_inT_tb h1) h
  | _ => exact absurd h (by simp only [am_s, am_op, am_opj]; exact fun q => by cases q)
end
end
section
/-! a run of the small machine from a frame's place on is a run of the machine; a whole method's is its contract -/
def am_ri (v : Option am_V) : Instr := match v with
  | none => .return_
  | some (.inl _) => .ireturn
  | some (.inr (.inl _)) => .lreturn
  | some (.inr (.inr _)) => .areturn
def am_FS (l : Launch) (G : am_G) (X : Nat × (Nat → Int)) (d mid pc : Nat) (lv : List (Nat × am_V)) (st : List am_V) (M : am_M) (r : am_R) : Prop :=
  ∀ (p : Program) (e : Env) (R : Room) (s : State) (m : MethodId) (args : Array Value) (below : List Frame) (meth : Method) (c : Code) (A : Nat → Prop) (Q : State → Prop) (a : Nat → Nat) (ls : Array Slot) (H : Heap) (locs : List Loc) (cells slots n0 z0 : Nat),
    am_Cx G X p s m args meth c mid A → d ≤ R.frames → 40 * d ≤ R.locals → lv_has ls (am_l mid) (am_lv G a lv) → am_wf M → am_wfl M.1.length lv → am_wfs M.1.length st → am_Wd G a M A s H locs →
    cells + n0 = M.1.length → slots + z0 = am_sz M → r.2.1.length ≤ R.cells + n0 → am_sz r.2 ≤ R.slots + z0 →
    (∀ (a' : Nat → Nat) (H' : Heap) (locs' : List Loc) (cells' slots' pc' : Nat) (ls' : Array Slot), am_ag M.1.length a a' → am_wf r.2 → am_wfs r.2.1.length r.1.toList → am_Wd G a' r.2 A s H' locs' → cells' + n0 = r.2.1.length → slots' + z0 = am_sz r.2 →
      decode (am_b mid) pc' = .ok (am_ri r.1, 1) → am_rok mid r.1 = true → W p l e R s m args below meth c H' locs' cells' slots' Q (F0 m pc' ls' (am_sv G a' r.1.toList))) →
    W p l e R s m args below meth c H locs cells slots Q (F0 m pc ls (am_sv G a st))
def am_FG (l : Launch) (G : am_G) (X : Nat × (Nat → Int)) (d mid pc : Nat) (lv : List (Nat × am_V)) (st : List am_V) (M : am_M) (r : am_R) : Prop :=
  (M.1.length ≤ r.2.1.length ∧ am_sz M ≤ am_sz r.2) ∧ am_FS l G X d mid pc lv st M r
def am_Good (l : Launch) (G : am_G) (X : Nat × (Nat → Int)) (K : am_K) : Prop := ∀ d mid pc lv st M r, K d mid pc lv st M = some r → am_FG l G X d mid pc lv st M r
theorem am_ag_tr {n m : Nat} {a b c : Nat → Nat} (h1 : am_ag n a b) (h2 : am_ag m b c) (hm : n ≤ m) : am_ag n a c := fun i hi => (h2 i (by omega)).trans (h1 i hi)
section
variable {l : Launch} {G : am_G} {X : Nat × (Nat → Int)} {d mid pc pc' : Nat} {lv lv' : List (Nat × am_V)} {st st' : List am_V} {M M' : am_M} {r : am_R}
theorem am_FG.step (hS : am_Stp l G X mid pc lv st M pc' lv' st' M') (hG : am_FG l G X d mid pc' lv' st' M' r) : am_FG l G X d mid pc lv st M r := by
  obtain ⟨⟨s1, s2⟩, sw, sr⟩ := hS
  obtain ⟨⟨g1, g2⟩, gr⟩ := hG
  refine ⟨⟨by omega, by omega⟩, ?_⟩
  intro p e R s m args below meth c A Q a ls H locs cells slots n0 z0 C hd hdl hl w1 w2 w3 hW hc hs hrc hrs kk
  obtain ⟨v1, v2, v3⟩ := sw w1 w2 w3
  refine sr p e R s m args below meth c A Q a ls H locs cells slots C hl w1 w2 w3 hW (by omega) (by omega) (fun a' ls' H' locs' hag hl' hW' => ?_)
  exact gr p e R s m args below meth c A Q a' ls' H' locs' _ _ n0 z0 C hd hdl hl' v1 v2 v3 hW' (by omega) (by omega) hrc hrs (fun a2 H2 locs2 cells2 slots2 pc2 ls2 hag2 u1 u2 u3 u4 u5 u6 u7 => kk a2 H2 locs2 cells2 slots2 pc2 ls2 (am_ag_tr hag hag2 s1) u1 u2 u3 u4 u5 u6 u7)
/-- a return -/
theorem am_FG.ret {v : Option am_V} (hd : decode (am_b mid) pc = .ok (am_ri v, 1)) (hok : am_rok mid v = true) (hst : st = v.toList) : am_FG l G X d mid pc lv st M (v, M) := by
  refine ⟨⟨Nat.le_refl _, Nat.le_refl _⟩, ?_⟩
  intro p e R s m args below meth c A Q a ls H locs cells slots n0 z0 C _ _ hl w1 w2 w3 hW hc hs hrc hrs kk
  subst hst
  exact kk a H locs cells slots pc ls (am_ag_rf _ _) w1 w3 hW hc hs hd hok
end
/-- what is known at a method's entry -/
def am_Pc (G : am_G) (X : Nat × (Nat → Int)) (a : Nat → Nat) (M : am_M) (sz : Nat) : State → Prop := fun U => U.heap.size = sz ∧ va_P G.1 vwCl (am_ws G a M) U.heap ∧ va_D (fun _ => True) (am_ws G a M) ∧ va_K G.1 vwCl (am_tys G) U ∧ am_Ex G X (va_A (am_ws G a M) sz) U
/-- and behind it -/
def am_Qc (G : am_G) (a : Nat → Nat) (M : am_M) (sz : Nat) (r : am_R) : Array Value → State → Outcome → State → Prop := fun _ st oc t =>
  (∃ a' : Nat → Nat, am_ag M.1.length a a' ∧ am_wf r.2 ∧ am_wfs r.2.1.length r.1.toList ∧ oc = .returned (r.1.map (am_tr G a')) ∧ va_P G.1 vwCl (am_ws G a' r.2) t.heap ∧ va_D (va_A (am_ws G a M) sz) (am_ws G a' r.2)) ∧ va_F (va_A (am_ws G a M) sz) st t
def am_rm (d : Nat) (M : am_M) (r : am_R) : Room := { frames := d, cells := r.2.1.length - M.1.length, slots := am_sz r.2 - am_sz M, locals := 40 * d }
def am_wc (mid : Nat) : List Cond := Cond.code (am_y mid) (am_b mid) (am_l mid) (am_r mid) :: am_tb
theorem am_cats_len (G : am_G) (a : Nat → Nat) (as : List am_V) : (lg_sl (am_sv G a as)).length = am_cats as := by
  induction as with
  | nil => rfl
  | cons v vs ih =>
    show (lg_sl (am_tr G a v :: am_sv G a vs)).length = am_cat v + am_cats vs
    rw [← ih]
    unfold lg_sl
    rw [List.flatMap_cons, List.length_append, am_tr_cat]
    congr 1
    rcases v with z | z | r | e <;> rfl
theorem am_narrow_ret {z : Int} {ty : FieldType} (h : match ty with
    | .int => True
    | .boolean => z = 0 ∨ z = 1
    | .char => 0 ≤ z ∧ z < 65536
    | .byte => -128 ≤ z ∧ z < 128
    | _ => False) : narrow ty (.int (Int32.ofInt z)) = .int (Int32.ofInt z) := by
  cases ty <;> simp only at h
  case int => rfl
  case boolean =>
    rcases h with rfl | rfl
    · decide +kernel
    · decide +kernel
  case char =>
    have hc : (Int32.ofInt z).toInt = z := Int32.toInt_ofInt_of_le (by omega) (by omega)
    show Value.int (Int32.ofInt z).toUInt32.toUInt16.toUInt32.toInt32 = _
    congr 1
    obtain ⟨k, hk, rfl⟩ : ∃ k : Nat, k < 65536 ∧ z = (k : Int) := ⟨z.toNat, by omega, by omega⟩
    apply Int32.toInt_inj.mp
    rw [hc]
    have e1 : (Int32.ofInt (k : Int)).toUInt32 = UInt32.ofNat k := by
      rw [Int32.ofInt_eq_ofNat]
      rfl
    rw [e1]
    have e2 : (UInt32.ofNat k).toUInt16.toUInt32 = UInt32.ofNat k := by
      apply UInt32.toNat_inj.mp
      simp [UInt32.toNat_ofNat']
      omega
    rw [e2]
    show (Int32.ofNat k).toInt = _
    rw [← Int32.ofInt_eq_ofNat]
    exact hc
  case byte =>
    have hc : (Int32.ofInt z).toInt = z := Int32.toInt_ofInt_of_le (by omega) (by omega)
    show Value.int (Int32.ofInt z).toInt8.toInt32 = _
    congr 1
    apply Int32.toInt_inj.mp
    rw [Int8.toInt_toInt32, Int32.toInt_toInt8, hc]
    exact Int.bmod_eq_of_le (by omega) (by omega)
/-- as the kit's way from a walk to a contract, also for a kind some of whose methods are the machine's own -/
theorem am_ofW {l : Launch} {y : MethodName} {ws ws' : List Cond} {rm : Room} {Pc : Array Value → State → Prop} {Qc : Array Value → State → Outcome → State → Prop} {mc ms : Nat} {free : Addr → Prop} {cc : ByteArray} {maxL : Nat} {ret : Option FieldType}
    (hy : plainFor y = true) (hw : ws = Cond.code y cc maxL ret :: ws')
    (body : ∀ p e s m args below meth c s₁, BodyLoose p l y (headSpec ws rm) cc maxL ret e s m args below meth c s₁ → c.maxLocals = maxL → Pc args s →
      W p l e (headSpec ws rm).room s m args below meth c s.heap [] 0 0 (MQ below Qc args s mc ms free) (entryFrame m args maxL)) : Met l y ws rm Pc Qc mc ms free := by
  refine MetFree.of_bodySF (code := cc) (maxLocals := maxL) (ret := ret) hy ?_ ?_
  · intro args s m h hn
    obtain ⟨meth, c, h1, h2, h3, h4, h5, h6, -, -⟩ := Cond.code_spec hn (atoms_spec (ws := ws) h _ (by rw [hw]; exact List.mem_cons_self))
    exact ⟨meth, c, h1, h2, h3, h4, h5, h6⟩
  · intro p e s m args below meth c s₁ B hml hP _
    have hh0 : s₁.heap = s.heap := by rw [B.state]; rfl
    obtain ⟨t, a1, o, b1, b2, b3⟩ := body p e s m args below meth c s₁ B hml hP s₁ hh0 (Stand.of_body B)
    exact ⟨t, o, a1, b1, b2, ⟨b3.1, b3.2⟩⟩
theorem am_Met {l : Launch} {G : am_G} {X : Nat × (Nat → Int)} {d mid : Nat} {as : List am_V} {M : am_M} {r : am_R} (hpl : plainFor (am_y mid) = true) (hFG : am_FG l G X d mid 0 (am_args 0 as) [] M r) (hn : am_cats as ≤ am_l mid) (w1 : am_wf M) (w3 : am_wfs M.1.length as) (a : Nat → Nat) (sz : Nat) :
    Met l (am_y mid) (am_wc mid) (am_rm d M r) (va_Pc (am_sv G a as) (am_Pc G X a M sz)) (am_Qc G a M sz r) (r.2.1.length - M.1.length) (am_sz r.2 - am_sz M) (va_A (am_ws G a M) sz) := by
  refine am_ofW (cc := am_b mid) (maxL := am_l mid) (ret := am_r mid) hpl rfl ?_
  intro p e s m args below meth c s₁ B hml hv
  obtain ⟨rfl, hsz, hP, hD, hK, hE⟩ := hv
  obtain ⟨⟨g1, g2⟩, gr⟩ := hFG
  have hts : ∀ w ∈ am_tb, w.before (am_sv G a as).toArray s = true := fun w hw => atoms_spec (ws := am_wc mid) B.pre w (List.mem_cons_of_mem _ hw)
  have hown : s.vm.findClass (am_y mid).cls = some m.cls := findClass_of_methodNamed B.named
  have hlocks := B.notSynchronized
  have hnm : (am_y mid).name = "<init>" → meth.name = "<init>" := fun h => (name_of_methodNamed B.named B.method).1.trans h
  have hl := lv_entry (am_sv G a as) (n := am_l mid) (by rw [am_cats_len]; exact hn)
  rw [lg_entry_eq]
  rw [← am_lv_args] at hl
  subst hsz
  have C : am_Cx G X p s m (am_sv G a as).toArray meth c mid (va_A (am_ws G a M) s.heap.size) := ⟨B.exec, B.bytes, hml, hown, hts, hK, hnm, fun q hq => Or.inr hq, hE⟩
  refine gr p e (am_rm d M r) s m (am_sv G a as).toArray below meth c (va_A (am_ws G a M) s.heap.size) _ a _ s.heap [] 0 0 M.1.length (am_sz M) C (Nat.le_refl _) (Nat.le_refl _) hl w1 (am_wf_args w3 0) (fun v hv => by cases hv) ⟨hP, hD.self, va_S.rf⟩ (Nat.zero_add _) (Nat.zero_add _) (by show _ ≤ (r.2.1.length - M.1.length) + _; omega) (by show _ ≤ (am_sz r.2 - am_sz M) + _; omega) ?_
  intro a' H' locs' cells' slots' pc' ls' hag u1 u2 hW hc' hs' hdec hok
  have hcc : cells' = r.2.1.length - M.1.length := by omega
  have hss : slots' = am_sz r.2 - am_sz M := by omega
  subst hcc
  subst hss
  have hq : ∀ t : State, t.heap = H' → s.WarmedH t.vm → am_Qc G a M s.heap.size r (am_sv G a as).toArray s (.returned (r.1.map (am_tr G a'))) t := fun t ht _ => ⟨⟨a', hag, u1, u2, rfl, by rw [ht]; exact hW.1, hW.2.1⟩, hW.2.2.F ht⟩
  have hr := B.returns
  obtain ⟨rv, rM⟩ := r
  dsimp only at hdec hok hq ⊢
  unfold am_rok at hok
  rcases rv with _ | z | z | z
  · cases hrt : am_r mid with
    | none =>
      rw [hrt] at hr
      exact W.vret B.exec B.bytes hr hq hW.2.2.2.2 hdec
    | some t => rw [hrt] at hok; cases t <;> cases hok
  · cases hrt : am_r mid with
    | none => rw [hrt] at hok; cases hok
    | some t =>
      rw [hrt] at hok hr
      refine W.zret (v := Int32.ofInt z) B.exec B.bytes hr (am_narrow_ret ?_) hq hW.2.2.2.2 hdec
      cases t <;> simp at hok ⊢ <;> first | exact hok | omega
  · cases hrt : am_r mid with
    | none => rw [hrt] at hok; cases hok
    | some t =>
      rw [hrt] at hok hr
      cases t <;> first | (exact W.lret (v := Int64.ofInt z) B.exec B.bytes hr hq hW.2.2.2.2 hdec) | cases hok
  · cases hrt : am_r mid with
    | none => rw [hrt] at hok; cases hok
    | some t =>
      rw [hrt] at hok hr
      cases t <;> first | (exact W.aret (v := am_tr G a' (.inr (.inr z))) B.exec B.bytes hr (Or.inl ⟨_, rfl⟩) (am_tr_ref G a' z) hq hW.2.2.2.2 hdec) | cases hok
end
section
/-! calls -/
theorem va_AOA.moved {u U : State} (hvm : u.vm.Alike U.vm) (h : va_AOA .int u) : va_AOA .int U := by
  have h1 : (Cond.arrayOver (.array .int)).before #[] (u.setVm U.vm) = true := (Cond.arrayOver_setVmC (args := #[]) (s := u) hvm (.array .int)).trans h
  exact h1
/-- what holds of the launch and outside holds at a callee's entry -/
theorem am_Ex.move {G : am_G} {X : Nat × (Nat → Int)} {A B : Nat → Prop} {s U : State} {H : Heap} {locs : List Loc} (h : am_Ex G X A s) (hS : va_S A s.heap H locs) (hU : U.heap = H) (hW : s.WarmedH U.vm) (hAB : ∀ q, B q → A q) : am_Ex G X B U := by
  obtain ⟨h1, h2, h3, h4, h5, ⟨adK, adV, h6, h7, h8⟩, ⟨b, h9, h10⟩, h11, h12⟩ := h
  have hq : ∀ a : Nat, a < s.heap.size → ¬ A a → U.heap[a]? = s.heap[a]? := fun a ha hn => by rw [hU]; exact hS.2.1 a ha hn
  refine ⟨fun w hw => ?_, fun c hc hc4 => va_Nw.warmC hW (h2 c hc hc4), fun x hx c hc hne => ?_, h4.moved hW.alike, h5.moved hW.alike, ⟨adK, adV, ((h6.moved hW.alike).kept hq).narrow hAB, h7, fun q hq => ?_⟩, ⟨b, h9, ((h10.moved hW.alike).kept hq).narrow hAB⟩, ((h11.moved hW.alike).kept hq).narrow hAB, ((h12.moved hW.alike).kept hq).narrow hAB⟩
  · have hw2 := h1 w hw
    unfold am_nests at hw
    simp only [List.mem_cons, List.not_mem_nil, or_false] at hw
    rcases hw with rfl | rfl | rfl | rfl <;> exact va_Nw.warmM hW hw2
  · have h0 := h3 x hx c hc hne
    split at h0
    · exact va_Nw.warmC hW h0
    · exact va_Nc.moved hW.alike h0
  · obtain ⟨tx, ht⟩ := h8 q hq
    exact ⟨tx, ht.warm hW⟩
/-- the callee's start, at any state that stands as the caller's does -/
theorem am_Pc_at {G : am_G} {X : Nat × (Nat → Int)} {A : Nat → Prop} {a : Nat → Nat} {M : am_M} {s U : State} {H : Heap} {locs : List Loc} (hA : ∀ q : Nat, s.heap.size ≤ q → A q) (hE : am_Ex G X A s) (hK : va_K G.1 vwCl (am_tys G) s) (hW : am_Wd G a M A s H locs) (hU : U.heap = H) (hWm : s.WarmedH U.vm) : am_Pc G X a M H.size U := by
  refine ⟨by rw [hU], by rw [hU]; exact hW.1, hW.2.1.weaken (fun _ _ _ _ => trivial), va_K.moved hWm.alike hK, hE.move hW.2.2 hU hWm ?_⟩
  intro q hq
  rcases hq with ⟨k, e, hk⟩ | hq
  · exact hW.2.1.2 k _ hk
  · exact hA q (Nat.le_trans hW.2.2.1 hq)
theorem am_Pc_blind {G : am_G} {X : Nat × (Nat → Int)} {a : Nat → Nat} {M : am_M} {sz : Nat} {vs : List Value} : FrameBlind (va_Pc vs (am_Pc G X a M sz)) := by
  intro ar U g mk h
  obtain ⟨h0, h1, h2, h3, h4, h5⟩ := h
  refine ⟨h0, h1, h2, h3, va_K.moved (u := U) (U := U.calling g mk ar) (Vm.Alike.refl U.vm) h4, ?_⟩
  obtain ⟨g1, g2, g3, g4, g5, ⟨adK, adV, g6, g7, g8⟩, ⟨b, g9, g10⟩, g11, g12⟩ := h5
  have hal : U.vm.Alike (U.calling g mk ar).vm := Vm.Alike.refl U.vm
  have hv : U.vm = (U.calling g mk ar).vm := rfl
  refine ⟨fun w hw => ?_, fun c hc hc4 => va_Nw.same rfl hv (g2 c hc hc4), fun x hx c hc hne => ?_, g4.moved hal, g5.moved hal, ⟨adK, adV, g6.moved hal, g7, fun q hq => ?_⟩, ⟨b, g9, g10.moved hal⟩, g11.moved hal, g12.moved hal⟩
  · have hw2 := g1 w hw
    unfold am_nests at hw
    simp only [List.mem_cons, List.not_mem_nil, or_false] at hw
    rcases hw with rfl | rfl | rfl | rfl <;> exact va_Nw.same rfl hv hw2
  · have h0 := g3 x hx c hc hne
    split at h0
    · exact va_Nw.same rfl hv h0
    · exact va_Nc.moved hal h0
  · obtain ⟨tx, ht⟩ := g8 q hq
    exact ⟨tx, ht.same hv.symm⟩
/-- behind a call -/
theorem am_back {p : Program} {l : Launch} {e : Env} {R : Room} {s : State} {m : MethodId} {args : Array Value} {below : List Frame} {meth : Method} {c : Code} {H : Heap} {locs : List Loc} {cells slots mc ms : Nat} {Q : State → Prop} {pc : Nat} {ls : Array Slot} {st0 rest : List Value} {G : am_G} {A : Nat → Prop} {a : Nat → Nat} {M : am_M} {r : am_R} {ar : Array Value}
    (hr : va_Run p l e R s m args below meth c H locs cells slots mc ms (F0 m pc ls st0) rest (am_Qc G a M H.size r ar) (va_A (am_ws G a M) H.size)) (hA : ∀ q : Nat, s.heap.size ≤ q → A q) (hW : am_Wd G a M A s H locs)
    (kk : ∀ (a' : Nat → Nat) (H1 : Heap) (locs1 : List Loc), am_ag M.1.length a a' → am_wf r.2 → am_wfs r.2.1.length r.1.toList → am_Wd G a' r.2 A s H1 locs1 → W p l e R s m args below meth c H1 locs1 (cells + mc) (slots + ms) Q (F0 m (pc + 3) ls (am_sv G a' r.1.toList ++ rest))) : W p l e R s m args below meth c H locs cells slots Q (F0 m pc ls st0) := by
  intro T hT X
  obtain ⟨v, st₀, t, T', L, h0, X', hL, e1, e2, ⟨⟨a', hag, u1, u2, hv, hP, hD⟩, hz, hk⟩, st⟩ := hr T hT X
  cases hv
  rw [h0] at hz hk
  have hS := hW.2.2
  have hAA : ∀ q, va_A (am_ws G a M) H.size q → A q := fun q hq => by
    rcases hq with ⟨k, e, hk⟩ | hq
    · exact hW.2.1.2 k _ hk
    · exact hA q (Nat.le_trans hS.1 hq)
  have hS2 : va_S A s.heap T'.heap (locs ++ L) := ⟨Nat.le_trans hS.1 (by rw [e1]; exact hz), fun q h1 h2 => by rw [e1, hk q (Nat.lt_of_lt_of_le h1 hS.1) (fun z => h2 (hAA q z))]; exact hS.2.1 q h1 h2, fun q hq => by
      rcases List.mem_append.mp hq with h | h
      · exact hS.2.2 q h
      · exact hAA _ (hL q h)⟩
  obtain ⟨t2, a1, b1⟩ := kk a' T'.heap (locs ++ L) hag u1 u2 ⟨by rw [e1]; exact hP, hD.weaken (fun k q _ h => hAA _ h), hS2⟩ T' rfl X'
  have ev : (Option.map (am_tr G a') r.1).toList = am_sv G a' r.1.toList := by
    cases r.1 <;> rfl
  have st2 := st t2
  simp only [ev] at st2
  exact ⟨t2, st2 a1, b1⟩
/-- a call by any of the machine's ways: out of a contract's run -/
theorem am_FG.call {l : Launch} {G : am_G} {X : Nat × (Nat → Int)} {d mid pc t : Nat} {lv : List (Nat × am_V)} {st rest as : List am_V} {M : am_M} {r1 r : am_R}
    (hpl : plainFor (am_y t) = true) (hml : am_l t ≤ 20) (hG1 : am_FG l G X d t 0 (am_args 0 as) [] M r1) (hG2 : am_FG l G X (d + 1) mid (pc + 3) lv (r1.1.toList ++ rest) r1.2 r) (hcs : am_cats as ≤ am_l t) (hcr : am_cats rest ≤ 8)
    (hst : ∀ v, v ∈ as ∨ v ∈ rest → v ∈ st)
    (hrun : ∀ (p : Program) (e : Env) (R : Room) (s : State) (m : MethodId) (args : Array Value) (below : List Frame) (meth : Method) (c : Code) (A : Nat → Prop) (a : Nat → Nat) (ls : Array Slot) (H : Heap) (locs : List Loc) (cells slots : Nat),
      am_Cx G X p s m args meth c mid A → lv_has ls (am_l mid) (am_lv G a lv) → am_Wd G a M A s H locs →
      Met l (am_y t) (am_wc t) (am_rm d M r1) (va_Pc (am_sv G a as) (am_Pc G X a M H.size)) (am_Qc G a M H.size r1) (r1.2.1.length - M.1.length) (am_sz r1.2 - am_sz M) (va_A (am_ws G a M) H.size) →
      FrameBlind (va_Pc (am_sv G a as) (am_Pc G X a M H.size)) → (∀ U : State, U.heap = H → s.WarmedH U.vm → va_Pc (am_sv G a as) (am_Pc G X a M H.size) (am_sv G a as).toArray U) →
      d + 1 ≤ R.frames → 8 + (am_l t + 11) + 40 * d ≤ R.locals → ((am_sv G a rest).map (fun v => v.category)).sum ≤ 8 → cells + (r1.2.1.length - M.1.length) ≤ R.cells ∧ slots + (am_sz r1.2 - am_sz M) ≤ R.slots →
      va_Run p l e R s m args below meth c H locs cells slots (r1.2.1.length - M.1.length) (am_sz r1.2 - am_sz M) (F0 m pc ls (am_sv G a st)) (am_sv G a rest) (am_Qc G a M H.size r1 (am_sv G a as).toArray) (va_A (am_ws G a M) H.size)) : am_FG l G X (d + 1) mid pc lv st M r := by
  obtain ⟨⟨g1, g2⟩, gr⟩ := hG2
  have h11 := hG1.1.1
  have h12 := hG1.1.2
  refine ⟨⟨by omega, by omega⟩, ?_⟩
  intro p e R s m args below meth c A Q a ls H locs cells slots n0 z0 C hd hdl hl w1 w2 w3 hW hc hs hrc hrs kk
  have was : am_wfs M.1.length as := fun v hv => w3 v (hst v (Or.inl hv))
  have wrest : am_wfs M.1.length rest := fun v hv => w3 v (hst v (Or.inr hv))
  obtain ⟨hx, hb, hml2, hown, hts, hK, hnm, hA, hE⟩ := id C
  have hcat : ((am_sv G a rest).map (fun v => v.category)).sum = am_cats rest := by
    unfold am_sv am_cats
    rw [List.map_map]
    congr 1
    apply List.map_congr_left
    intro v _
    exact am_tr_cat G a v
  have hR := hrun p e R s m args below meth c A a ls H locs cells slots C hl hW (am_Met hpl hG1 hcs w1 was a H.size) am_Pc_blind (fun U hU hWm => ⟨rfl, am_Pc_at hA hE hK hW hU hWm⟩) hd (by omega) (by rw [hcat]; exact hcr) ⟨by omega, by omega⟩
  refine am_back hR hA hW (fun a' H1 locs1 hag u1 u2 hW1 => ?_)
  have wl : am_wfl r1.2.1.length lv := am_wfl_up w2 h11
  have e1 : am_sv G a' r1.1.toList ++ am_sv G a rest = am_sv G a' (r1.1.toList ++ rest) := by
    rw [← am_sv_ag hag wrest]
    unfold am_sv
    rw [List.map_append]
  rw [e1]
  refine gr p e R s m args below meth c A Q a' ls H1 locs1 _ _ n0 z0 C hd hdl (by rw [am_lv_ag hag w2]; exact hl) u1 wl (fun v hv => ?_) hW1 (by omega) (by omega) hrc hrs (fun a2 H2 locs2 cells2 slots2 pc2 ls2 hag2 v1 v2 v3 v4 v5 v6 v7 => kk a2 H2 locs2 cells2 slots2 pc2 ls2 (am_ag_tr hag hag2 h11) v1 v2 v3 v4 v5 v6 v7)
  rcases List.mem_append.mp hv with hv | hv
  · exact u2 v hv
  · exact fun k hk => Nat.lt_of_lt_of_le (wrest v hv k hk) h11
end
section
/-! the machine's ways of calling -/
/-- what a method of the tables must be to be called -/
def am_mk (t : Nat) : Bool := am_inI (am_mix.getD t (0, 0)).1 (.code (am_y t) (am_b t) (am_l t) (am_r t)) && (plainFor (am_y t) && (decide (am_l t ≤ 20) && (am_inI (am_mix.getD t (0, 0)).2 (.initialized (am_y t).cls) && (decide ((am_y t).cls ≠ "java/lang/invoke/MethodHandle") && decide ((am_y t).cls ≠ "java/lang/invoke/VarHandle")))))
theorem am_mk_spec {t : Nat} (h : am_mk t = true) : Cond.code (am_y t) (am_b t) (am_l t) (am_r t) ∈ am_tb ∧ plainFor (am_y t) = true ∧ am_l t ≤ 20 ∧ Cond.initialized (am_y t).cls ∈ am_tb ∧ (am_y t).cls ≠ "java/lang/invoke/MethodHandle" ∧ (am_y t).cls ≠ "java/lang/invoke/VarHandle" := by
  unfold am_mk at h
  simp only [Bool.and_eq_true, decide_eq_true_eq] at h
  exact ⟨am_inI_tb h.1, h.2.1, h.2.2.1, am_inI_tb h.2.2.2.1, h.2.2.2.2.1, h.2.2.2.2.2⟩
theorem am_tb_good {w : Cond} (h : w ∈ am_tb) : (w.onTables && w.keeps) = true ∨ ∃ ty, w = .arrayClass ty := good_of_word (List.mem_filter.mp h).2
theorem am_wc_good {t : Nat} (h : am_mk t = true) : GoodIn am_tb (am_wc t) := by
  intro w hw
  rcases List.mem_cons.mp hw with rfl | hw
  · exact ⟨(am_mk_spec h).1, am_tb_good (am_mk_spec h).1⟩
  · exact ⟨hw, am_tb_good hw⟩
def am_na (ds : String) : Option Nat := (parseMethodDescriptor ds).map (fun d => d.parameters.length)
/-- a static method under a name of a kind below: the call -/
theorem am_callSUp {p : Program} {l : Launch} {e : Env} {R : Room} {s : State} {m : MethodId} {args : Array Value} {below : List Frame} {meth : Method} {c : Code} {T : State} {locs : List Loc} {cells slots : Nat} (X : Stand p l e R s m args below meth c T locs cells slots) (hexec : p.tables.exec = Jvm.exec) {own : String} {index : Nat} {x y : MethodName} {bytes : ByteArray} {maxL : Nat} {ret : Option FieldType}
    (hown : s.vm.findClass own = some m.cls) (hlink : (Cond.methodLink own index x).before args s = true) (hyx : y = ⟨y.cls, x.name, x.desc⟩) (hsame : (Cond.sameMethod x.cls y.cls x.name x.desc).before args s = true) (hstat : (Cond.static y).before args s = true) (hinit : (Cond.initialized y.cls).before args s = true)
    (hcode : (Cond.code y bytes maxL ret).before args s = true) (hy : y.cls ≠ "java/lang/invoke/MethodHandle" ∧ y.cls ≠ "java/lang/invoke/VarHandle")
    {W : Nat} {Pre : Pt → Array Value → Prop} {Post : Pt → Array Value → Option Value → Pt → Prop} (hK : Back l R p e below s args y 3 W Pre Post)
    {g : JFrame} (hg : g.method = m) (hsize : g.locals.size = c.maxLocals) {argsL rest : List Value} (hlen : ∀ sig, parseMethodDescriptor y.desc = some sig → argsL.length = sig.parameters.length)
    (hstack : g.stack = argsL.reverse ++ rest) (hW : 2 * g.monitorRoom + (rest.map fun v => v.category).sum ≤ W) (hdg : decode c.code g.pc = .ok (.invokestatic index, 3))
    (hpre : ∀ vm₁, s.WarmedH vm₁ → Pre ⟨T.setVm vm₁, locs, cells, slots⟩ argsL.toArray) :
    ∃ (v : Option Value) (vm₁ : Vm) (B : Pt), s.WarmedH vm₁ ∧ Stand p l e R s m args below meth c B.U B.locs B.cells B.slots ∧ Post ⟨T.setVm vm₁, locs, cells, slots⟩ argsL.toArray v B ∧
      ∀ target, Steps p.tables e below (B.U.setTop { g with pc := g.pc + 3, stack := v.toList ++ rest }) target → Steps p.tables e below (T.setTop g) target := by
  obtain ⟨mk, hnamed⟩ := Cond.code_named hcode
  obtain ⟨methM, cM, hmethM, -, -, -, -, -, -, hsigM⟩ := Cond.code_spec hnamed hcode
  have hstatic : methM.isStatic = true := Cond.static_spec hnamed hmethM hstat
  obtain ⟨kP, hkP, -⟩ := className_of_methodNamed hnamed
  have hinitP : kP.init = .initialized := Cond.initialized_spec (findClass_of_methodNamed hnamed) hkP hinit
  have hn2 : s.methodNamed? ⟨y.cls, x.name, x.desc⟩ = some mk := by rw [← hyx]; exact hnamed
  obtain ⟨vm₁, X₁, hstep₁⟩ := X.invokestaticUp hexec hown hlink hsame hy hn2 hmethM hstatic hkP hinitP (g := g) hg (argsL := argsL) (rest := rest) (hlen _ hsigM) hstack hdg
  obtain ⟨v, B, X', hpost, hsteps⟩ := hK m meth c ⟨T.setVm vm₁, locs, cells, slots⟩ { g with stack := rest } (.invokestatic index) mk argsL.toArray X₁ hg hsize hdg hW (X₁.named hnamed) (hpre vm₁ X₁.warmed)
  exact ⟨v, vm₁, B, X₁.warmed, X', hpost, fun target h => hstep₁ _ fun acts => by rw [doInvoke_state]; exact hsteps.trans h⟩
/-- what stands above, by one or two steps -/
theorem am_sub {vm : Vm} {a b : ClassId} {k : Class} (hk : vm.classes[a]? = some k) (hs : k.super = some b) : vm.isSubclass a b = true := by
  have h0 : 0 < vm.classes.size := Nat.lt_of_le_of_lt (Nat.zero_le _) (Array.getElem?_eq_some_iff.mp hk).1
  obtain ⟨f, hf⟩ : ∃ f, vm.classes.size = f + 1 := ⟨vm.classes.size - 1, by omega⟩
  unfold Vm.isSubclass
  rw [hf]
  simp [Vm.isSubclassAux, hk, hs]
theorem am_callSup {p : Program} {l : Launch} {e : Env} {R : Room} {s : State} {m : MethodId} {args : Array Value} {below : List Frame} {meth : Method} {c : Code} {T : State} {locs : List Loc} {cells slots : Nat} (X : Stand p l e R s m args below meth c T locs cells slots) (hexec : p.tables.exec = Jvm.exec) {own : String} {index : Nat} {x y : MethodName} {bytes : ByteArray} {maxL : Nat} {ret : Option FieldType}
    (hown : s.vm.findClass own = some m.cls) (hlink : (Cond.methodLink own index x).before args s = true) (hyx : y = ⟨y.cls, x.name, x.desc⟩) (hsame : (Cond.sameMethod x.cls y.cls x.name x.desc).before args s = true) (hsup : (Cond.superclass own x.cls).before args s = true) (hsup2 : x.cls = y.cls ∨ (Cond.superclass x.cls y.cls).before args s = true)
    (hinst : (Cond.instanceMethod y).before args s = true) (hcode : (Cond.code y bytes maxL ret).before args s = true) (hno : x.name ≠ "<init>")
    {W : Nat} {Pre : Pt → Array Value → Prop} {Post : Pt → Array Value → Option Value → Pt → Prop} (hK : Back l R p e below s args y 3 W Pre Post)
    {b : Addr} {cellB : Cell} {kB : Class} (hcell : T.heap[b]? = some cellB) (hobj : cellB.vm.isStatics = false) (hkB : s.vm.classes[cellB.cls]? = some kB)
    {g : JFrame} (hg : g.method = m) (hsize : g.locals.size = c.maxLocals) {argsL rest : List Value} (hlen : ∀ sig, parseMethodDescriptor y.desc = some sig → argsL.length = sig.parameters.length)
    (hstack : g.stack = argsL.reverse ++ .ref b :: rest) (hW : 2 * g.monitorRoom + (rest.map fun v => v.category).sum ≤ W) (hdg : decode c.code g.pc = .ok (.invokespecial index, 3))
    (hpre : ∀ vm₁, s.WarmedH vm₁ → Pre ⟨T.setVm vm₁, locs, cells, slots⟩ (Value.ref b :: argsL).toArray) :
    ∃ (v : Option Value) (vm₁ : Vm) (B : Pt), s.WarmedH vm₁ ∧ Stand p l e R s m args below meth c B.U B.locs B.cells B.slots ∧ Post ⟨T.setVm vm₁, locs, cells, slots⟩ (Value.ref b :: argsL).toArray v B ∧
      ∀ target, Steps p.tables e below (B.U.setTop { g with pc := g.pc + 3, stack := v.toList ++ rest }) target → Steps p.tables e below (T.setTop g) target := by
  obtain ⟨mk, methM, hnamed, hmethM, hstM, habM⟩ := Cond.instanceMethod_spec hinst
  obtain ⟨methM', cM, hmethM', -, -, -, -, -, -, hsigM⟩ := Cond.code_spec hnamed hcode
  cases hmethM.symm.trans hmethM'
  obtain ⟨ps, dk, kp, hps, hdk, hkp, hsuper, -, -, hnid⟩ := Cond.superclass_spec hown hsup
  have hn : s.methodNamed? ⟨y.cls, x.name, x.desc⟩ = some mk := by rw [← hyx]; exact hnamed
  have hfy := findClass_of_methodNamed hnamed
  have hsub : s.vm.isSubclass ps mk.cls = true := by
    rcases hsup2 with h2 | h2
    · have hpm : ps = mk.cls := Option.some.inj (hps.symm.trans (by rw [h2]; exact hfy))
      rw [hpm]; simp [Vm.isSubclass, Vm.isSubclassAux]
    · obtain ⟨p2, k2, -, hp2, hk2, -, hs2, -⟩ := Cond.superclass_spec hps h2
      have : p2 = mk.cls := Option.some.inj (hp2.symm.trans hfy)
      subst this
      exact am_sub hk2 hs2
  obtain ⟨vm₁, X₁, hstep₁⟩ := X.invokespecialUp hexec hown hlink hsame hn hmethM hstM habM hno hdk hnid hps hsuper hsub (a := b) (cell := cellB) hcell
    (fun z h => by rw [h] at hobj; cases hobj) hkB (g := g) hg (argsL := argsL) (rest := rest) (hlen _ hsigM) hstack hdg
  obtain ⟨v, B, X', hpost, hsteps⟩ := hK m meth c ⟨T.setVm vm₁, locs, cells, slots⟩ { g with stack := rest } (.invokespecial index) mk (Value.ref b :: argsL).toArray X₁ hg hsize hdg hW (X₁.named hnamed) (hpre vm₁ X₁.warmed)
  exact ⟨v, vm₁, B, X₁.warmed, X', hpost, fun target h => hstep₁ _ (by rw [doInvoke_state]; exact hsteps.trans h)⟩
section
variable {l : Launch} {G : am_G} {X : Nat × (Nat → Int)} {d mid pc t idx n : Nat} {M : am_M} {r1 : am_R} {p : Program} {e : Env} {R : Room} {s : State} {m : MethodId} {args : Array Value} {below : List Frame} {meth : Method} {c : Code} {A : Nat → Prop} {a : Nat → Nat} {ls : Array Slot} {H : Heap} {locs : List Loc} {cells slots : Nat} {lv : List (Nat × am_V)} {As rest stv : List Value} {b : Nat} {Cn : String}
theorem am_fV {Pc : Array Value → State → Prop} (hmk : am_mk t = true) (C : am_Cx G X p s m args meth c mid A) (hl : lv_has ls (am_l mid) (am_lv G a lv))
    (hM : Met l (am_y t) (am_wc t) (am_rm d M r1) Pc (am_Qc G a M H.size r1) (r1.2.1.length - M.1.length) (am_sz r1.2 - am_sz M) (va_A (am_ws G a M) H.size)) (hbl : FrameBlind Pc) (hpre : ∀ U : State, U.heap = H → s.WarmedH U.vm → Pc (Value.ref b :: As).toArray U)
    (hfr : d + 1 ≤ R.frames) (hlo : 8 + (am_l t + 11) + 40 * d ≤ R.locals) (hcat : (rest.map (fun v => v.category)).sum ≤ 8) (hf : cells + (r1.2.1.length - M.1.length) ≤ R.cells ∧ slots + (am_sz r1.2 - am_sz M) ≤ R.slots)
    (hn : As.length = n) (hst : stv = As.reverse ++ .ref b :: rest) (hrecv : ∃ cellB : Cell, H[b]? = some cellB ∧ cellB.vm.isStatics = false ∧ s.vm.findClass Cn = some cellB.cls) (hdg : decode (am_b mid) pc = .ok (.invokevirtual idx, 3))
    (k1 : Cond.methodLink (am_y mid).cls idx (am_y t) ∈ am_tb) (k2 : Cond.instanceMethod (am_y t) ∈ am_tb) (k3 : Cond.selects Cn (am_y t) (am_y t) ∈ am_tb) (k4 : am_na (am_y t).desc = some n) :
    va_Run p l e R s m args below meth c H locs cells slots (r1.2.1.length - M.1.length) (am_sz r1.2 - am_sz M) (F0 m pc ls stv) rest (am_Qc G a M H.size r1 (Value.ref b :: As).toArray) (va_A (am_ws G a M) H.size) := by
  obtain ⟨hx, hb, hml, hown, hts, hK, hnm, hA, hE⟩ := C
  obtain ⟨q1, q2, q3, q4, q5, q6⟩ := am_mk_spec hmk
  exact va_runV (C := Cn) (n := n) ⟨hx, hb, hml, hown, hts⟩ hM ⟨callB_of n hts (am_wc_good hmk) rfl rfl rfl (hts _ q4) (hts _ k1) ⟨q5, q6, k4⟩ ⟨hfr, hlo⟩, hts _ k2, hts _ k3⟩ ⟨hbl, hrecv, hpre⟩ rfl hn hl.1 hst (lv_room hcat) hdg hf
theorem am_fU {Pc : Array Value → State → Prop} {x : MethodName} {owner : String} {b0 : ByteArray} {m0 : Nat} {r0 : Option FieldType} (hmk : am_mk t = true) (C : am_Cx G X p s m args meth c mid A) (hl : lv_has ls (am_l mid) (am_lv G a lv))
    (hM : Met l (am_y t) (am_wc t) (am_rm d M r1) Pc (am_Qc G a M H.size r1) (r1.2.1.length - M.1.length) (am_sz r1.2 - am_sz M) (va_A (am_ws G a M) H.size)) (hbl : FrameBlind Pc) (hpre : ∀ U : State, U.heap = H → s.WarmedH U.vm → Pc (Value.ref b :: As).toArray U)
    (hfr : d + 1 ≤ R.frames) (hlo : 8 + (am_l t + 11) + 40 * d ≤ R.locals) (hcat : (rest.map (fun v => v.category)).sum ≤ 8) (hf : cells + (r1.2.1.length - M.1.length) ≤ R.cells ∧ slots + (am_sz r1.2 - am_sz M) ≤ R.slots)
    (hn : As.length = n) (hst : stv = As.reverse ++ .ref b :: rest) (hrecv : ∃ cellB : Cell, H[b]? = some cellB ∧ cellB.vm.isStatics = false ∧ s.vm.findClass Cn = some cellB.cls) (hdg : decode (am_b mid) pc = .ok (.invokevirtual idx, 3))
    (k1 : Cond.methodLink (am_y mid).cls idx x ∈ am_tb) (k2 : Cond.sameMethod x.cls owner x.name x.desc ∈ am_tb) (k3 : Cond.selects Cn x (am_y t) ∈ am_tb) (k4 : Cond.instanceMethod (am_y t) ∈ am_tb) (k5 : Cond.instanceMethod ⟨owner, x.name, x.desc⟩ ∈ am_tb) (k6 : Cond.code ⟨owner, x.name, x.desc⟩ b0 m0 r0 ∈ am_tb) (k7 : am_na x.desc = some n) (k8 : owner ≠ "java/lang/invoke/MethodHandle" ∧ owner ≠ "java/lang/invoke/VarHandle") :
    va_Run p l e R s m args below meth c H locs cells slots (r1.2.1.length - M.1.length) (am_sz r1.2 - am_sz M) (F0 m pc ls stv) rest (am_Qc G a M H.size r1 (Value.ref b :: As).toArray) (va_A (am_ws G a M) H.size) := by
  obtain ⟨hx, hb, hml, hown, hts, hK, hnm, hA, hE⟩ := C
  obtain ⟨q1, q2, q3, q4, q5, q6⟩ := am_mk_spec hmk
  refine va_runU (C := Cn) (owner := owner) (x := x) (n := n) (maxL := am_l t) (ret := am_r t) (bytes := am_b t) ⟨hx, hb, hml, hown, hts⟩ hM ⟨⟨rfl, rfl, hfr, hlo, pay_in hts (am_wc_good hmk), List.mem_cons_self⟩, hts _ q1, hts _ q4, k8, fun sig h => ?_, hts _ k1, hts _ k2, va_Decl.of (hts _ k5) (hts _ k6), hts _ k3, hts _ k4⟩ ⟨hbl, hrecv, hpre⟩ rfl hn hl.1 hst (lv_room hcat) hdg hf
  unfold am_na at k7
  rw [h] at k7
  exact (Option.some.inj k7).symm
theorem am_fS {Pc : Array Value → State → Prop} (hmk : am_mk t = true) (C : am_Cx G X p s m args meth c mid A) (hl : lv_has ls (am_l mid) (am_lv G a lv))
    (hM : Met l (am_y t) (am_wc t) (am_rm d M r1) Pc (am_Qc G a M H.size r1) (r1.2.1.length - M.1.length) (am_sz r1.2 - am_sz M) (va_A (am_ws G a M) H.size)) (hbl : FrameBlind Pc) (hpre : ∀ U : State, U.heap = H → s.WarmedH U.vm → Pc As.toArray U)
    (hfr : d + 1 ≤ R.frames) (hlo : 8 + (am_l t + 11) + 40 * d ≤ R.locals) (hcat : (rest.map (fun v => v.category)).sum ≤ 8) (hf : cells + (r1.2.1.length - M.1.length) ≤ R.cells ∧ slots + (am_sz r1.2 - am_sz M) ≤ R.slots)
    (hn : As.length = n) (hst : stv = As.reverse ++ rest) (hdg : decode (am_b mid) pc = .ok (.invokestatic idx, 3))
    (k1 : Cond.methodLink (am_y mid).cls idx (am_y t) ∈ am_tb) (k2 : Cond.static (am_y t) ∈ am_tb) (k4 : am_na (am_y t).desc = some n) :
    va_Run p l e R s m args below meth c H locs cells slots (r1.2.1.length - M.1.length) (am_sz r1.2 - am_sz M) (F0 m pc ls stv) rest (am_Qc G a M H.size r1 As.toArray) (va_A (am_ws G a M) H.size) := by
  obtain ⟨hx, hb, hml, hown, hts, hK, hnm, hA, hE⟩ := C
  obtain ⟨q1, q2, q3, q4, q5, q6⟩ := am_mk_spec hmk
  exact va_runS (n := n) ⟨hx, hb, hml, hown, hts⟩ hM ⟨callB_of n hts (am_wc_good hmk) rfl rfl rfl (hts _ q4) (hts _ k1) ⟨q5, q6, k4⟩ ⟨hfr, hlo⟩, hts _ k2⟩ ⟨hbl, hpre⟩ rfl hn hl.1 hst (lv_room hcat) hdg hf
theorem am_fSU {Pc : Array Value → State → Prop} {x : MethodName} (hmk : am_mk t = true) (C : am_Cx G X p s m args meth c mid A) (hl : lv_has ls (am_l mid) (am_lv G a lv))
    (hM : Met l (am_y t) (am_wc t) (am_rm d M r1) Pc (am_Qc G a M H.size r1) (r1.2.1.length - M.1.length) (am_sz r1.2 - am_sz M) (va_A (am_ws G a M) H.size)) (hbl : FrameBlind Pc) (hpre : ∀ U : State, U.heap = H → s.WarmedH U.vm → Pc As.toArray U)
    (hfr : d + 1 ≤ R.frames) (hlo : 8 + (am_l t + 11) + 40 * d ≤ R.locals) (hcat : (rest.map (fun v => v.category)).sum ≤ 8) (hf : cells + (r1.2.1.length - M.1.length) ≤ R.cells ∧ slots + (am_sz r1.2 - am_sz M) ≤ R.slots)
    (hn : As.length = n) (hst : stv = As.reverse ++ rest) (hdg : decode (am_b mid) pc = .ok (.invokestatic idx, 3))
    (k1 : Cond.methodLink (am_y mid).cls idx x ∈ am_tb) (k2 : Cond.static (am_y t) ∈ am_tb) (k3 : Cond.sameMethod x.cls (am_y t).cls x.name x.desc ∈ am_tb) (k5 : am_y t = ⟨(am_y t).cls, x.name, x.desc⟩) (k4 : am_na (am_y t).desc = some n) :
    va_Run p l e R s m args below meth c H locs cells slots (r1.2.1.length - M.1.length) (am_sz r1.2 - am_sz M) (F0 m pc ls stv) rest (am_Qc G a M H.size r1 As.toArray) (va_A (am_ws G a M) H.size) := by
  obtain ⟨hx, hb, hml, hown, hts, hK, hnm, hA, hE⟩ := C
  obtain ⟨q1, q2, q3, q4, q5, q6⟩ := am_mk_spec hmk
  have hBk : Back l R p e below s args (am_y t) 3 8 (PreOf R (r1.2.1.length - M.1.length) (am_sz r1.2 - am_sz M) Pc) (PostOf (am_Qc G a M H.size r1) (r1.2.1.length - M.1.length) (am_sz r1.2 - am_sz M) (va_A (am_ws G a M) H.size)) :=
    back_of (bytes := am_b t) (maxL := am_l t) (ret := am_r t) hM hbl rfl rfl hfr hlo (pay_in hts (am_wc_good hmk)) List.mem_cons_self (fun a' U hW => word_at hW (Or.inl (by first | rfl | simp [Cond.onTables, Cond.keeps, Cond.steady])) (hts _ q4))
  intro T hT X0
  obtain ⟨v, vm₁, ⟨U', l2, c2, s2⟩, hW₁, X', ⟨g', mk, t', L, e1, e2, hq, h1, hL, h2, h3⟩, st⟩ := am_callSUp X0 hx (bytes := am_b t) (maxL := am_l t) (ret := am_r t) hown (hts _ k1) k5 (hts _ k3) (hts _ k2) (hts _ q4) (hts _ q1) ⟨q5, q6⟩ hBk (g := F0 m pc ls stv) rfl (hl.1.trans hml.symm) (argsL := As) (rest := rest) (fun sig h => by unfold am_na at k4; rw [h] at k4; exact hn.trans (Option.some.inj k4).symm) hst (lv_room hcat) (by rw [hb]; exact hdg)
    (fun vm₁ hW₁ => ⟨hf.1, hf.2, hpre (T.setVm vm₁) hT hW₁⟩)
  dsimp only [Pt.U, Pt.locs, Pt.cells, Pt.slots] at X' e1 e2 h1 h2 h3 st
  subst h1; subst h2; subst h3
  exact ⟨v, (T.setVm vm₁).calling g' mk As.toArray, t', U', L, hT, X', hL, e1, e2, hq, st⟩
theorem am_fI {Pc : Array Value → State → Prop} (hmk : am_mk t = true) (C : am_Cx G X p s m args meth c mid A) (hl : lv_has ls (am_l mid) (am_lv G a lv))
    (hM : Met l (am_y t) (am_wc t) (am_rm d M r1) Pc (am_Qc G a M H.size r1) (r1.2.1.length - M.1.length) (am_sz r1.2 - am_sz M) (va_A (am_ws G a M) H.size)) (hbl : FrameBlind Pc) (hpre : ∀ U : State, U.heap = H → s.WarmedH U.vm → Pc (Value.ref b :: As).toArray U)
    (hfr : d + 1 ≤ R.frames) (hlo : 8 + (am_l t + 11) + 40 * d ≤ R.locals) (hcat : (rest.map (fun v => v.category)).sum ≤ 8) (hf : cells + (r1.2.1.length - M.1.length) ≤ R.cells ∧ slots + (am_sz r1.2 - am_sz M) ≤ R.slots)
    (hn : As.length = n) (hst : stv = As.reverse ++ .ref b :: rest) (hdg : decode (am_b mid) pc = .ok (.invokespecial idx, 3))
    (k1 : Cond.methodLink (am_y mid).cls idx (am_y t) ∈ am_tb) (k2 : Cond.instanceMethod (am_y t) ∈ am_tb) (k3 : (am_y t).name = "<init>") (k5 : am_r t = none) (k4 : am_na (am_y t).desc = some n) :
    va_Run p l e R s m args below meth c H locs cells slots (r1.2.1.length - M.1.length) (am_sz r1.2 - am_sz M) (F0 m pc ls stv) rest (am_Qc G a M H.size r1 (Value.ref b :: As).toArray) (va_A (am_ws G a M) H.size) := by
  obtain ⟨hx, hb, hml, hown, hts, hK, hnm, hA, hE⟩ := C
  obtain ⟨q1, q2, q3, q4, q5, q6⟩ := am_mk_spec hmk
  have hcb := callB_of (R := R) (rm := am_rm d M r1) (mc := r1.2.1.length - M.1.length) (ms := am_sz r1.2 - am_sz M) n hts (am_wc_good hmk) rfl rfl rfl (hts _ q4) (hts _ k1) ⟨q5, q6, k4⟩ ⟨hfr, hlo⟩
  rw [k5] at hcb
  exact va_runI (n := n) ⟨hx, hb, hml, hown, hts⟩ hM ⟨hcb, k3, hts _ k2⟩ ⟨hbl, hpre⟩ rfl hn hl.1 hst (lv_room hcat) hdg hf
theorem am_fIN {Pc : Array Value → State → Prop} {host : String} (hmk : am_mk t = true) (C : am_Cx G X p s m args meth c mid A) (hl : lv_has ls (am_l mid) (am_lv G a lv))
    (hM : Met l (am_y t) (am_wc t) (am_rm d M r1) Pc (am_Qc G a M H.size r1) (r1.2.1.length - M.1.length) (am_sz r1.2 - am_sz M) (va_A (am_ws G a M) H.size)) (hbl : FrameBlind Pc) (hpre : ∀ U : State, U.heap = H → s.WarmedH U.vm → Pc (Value.ref b :: As).toArray U)
    (hfr : d + 1 ≤ R.frames) (hlo : 8 + (am_l t + 11) + 40 * d ≤ R.locals) (hcat : (rest.map (fun v => v.category)).sum ≤ 8) (hf : cells + (r1.2.1.length - M.1.length) ≤ R.cells ∧ slots + (am_sz r1.2 - am_sz M) ≤ R.slots)
    (hn : As.length = n) (hst : stv = As.reverse ++ .ref b :: rest) (hdg : decode (am_b mid) pc = .ok (.invokespecial idx, 3))
    (k1 : Cond.methodLinkNest (am_y mid).cls idx (am_y t) host ∈ am_nests) (k2 : Cond.instanceMethod (am_y t) ∈ am_tb) (k3 : (am_y t).name = "<init>") (k5 : am_r t = none) (k4 : am_na (am_y t).desc = some n) :
    va_Run p l e R s m args below meth c H locs cells slots (r1.2.1.length - M.1.length) (am_sz r1.2 - am_sz M) (F0 m pc ls stv) rest (am_Qc G a M H.size r1 (Value.ref b :: As).toArray) (va_A (am_ws G a M) H.size) := by
  obtain ⟨hx, hb, hml, hown, hts, hK, hnm, hA, hE1, hE⟩ := C
  obtain ⟨q1, q2, q3, q4, q5, q6⟩ := am_mk_spec hmk
  have hcb := va_cnB (R := R) (rm := am_rm d M r1) (mc := r1.2.1.length - M.1.length) (ms := am_sz r1.2 - am_sz M) (host := host) n hts (am_wc_good hmk) rfl rfl rfl (hE1 _ k1) (hts _ q4) ⟨q5, q6, k4⟩ ⟨hfr, hlo⟩
  rw [k5] at hcb
  exact va_runIN (n := n) ⟨hx, hb, hml, hown, hts⟩ hM ⟨hcb, k3, hts _ k2⟩ ⟨hbl, hpre⟩ rfl hn hl.1 hst (lv_room hcat) hdg hf
theorem am_fX {Pc : Array Value → State → Prop} {x : MethodName} (hmk : am_mk t = true) (C : am_Cx G X p s m args meth c mid A) (hl : lv_has ls (am_l mid) (am_lv G a lv))
    (hM : Met l (am_y t) (am_wc t) (am_rm d M r1) Pc (am_Qc G a M H.size r1) (r1.2.1.length - M.1.length) (am_sz r1.2 - am_sz M) (va_A (am_ws G a M) H.size)) (hbl : FrameBlind Pc) (hpre : ∀ U : State, U.heap = H → s.WarmedH U.vm → Pc (Value.ref b :: As).toArray U)
    (hfr : d + 1 ≤ R.frames) (hlo : 8 + (am_l t + 11) + 40 * d ≤ R.locals) (hcat : (rest.map (fun v => v.category)).sum ≤ 8) (hf : cells + (r1.2.1.length - M.1.length) ≤ R.cells ∧ slots + (am_sz r1.2 - am_sz M) ≤ R.slots)
    (hn : As.length = n) (hst : stv = As.reverse ++ .ref b :: rest) (hrecv : ∃ (cellB : Cell) (kB : Class), H[b]? = some cellB ∧ cellB.vm.isStatics = false ∧ s.vm.classes[cellB.cls]? = some kB) (hdg : decode (am_b mid) pc = .ok (.invokespecial idx, 3))
    (k1 : Cond.methodLink (am_y mid).cls idx x ∈ am_tb) (k2 : Cond.instanceMethod (am_y t) ∈ am_tb) (k3 : Cond.sameMethod x.cls (am_y t).cls x.name x.desc ∈ am_tb) (k5 : am_y t = ⟨(am_y t).cls, x.name, x.desc⟩) (k4 : am_na (am_y t).desc = some n) (k6 : Cond.superclass (am_y mid).cls x.cls ∈ am_tb) (k7 : x.cls = (am_y t).cls ∨ Cond.superclass x.cls (am_y t).cls ∈ am_tb) (k8 : x.name ≠ "<init>") :
    va_Run p l e R s m args below meth c H locs cells slots (r1.2.1.length - M.1.length) (am_sz r1.2 - am_sz M) (F0 m pc ls stv) rest (am_Qc G a M H.size r1 (Value.ref b :: As).toArray) (va_A (am_ws G a M) H.size) := by
  obtain ⟨hx, hb, hml, hown, hts, hK, hnm, hA, hE⟩ := C
  obtain ⟨q1, q2, q3, q4, q5, q6⟩ := am_mk_spec hmk
  obtain ⟨cellB, kB, hc1, hc2, hc3⟩ := hrecv
  have hBk : Back l R p e below s args (am_y t) 3 8 (PreOf R (r1.2.1.length - M.1.length) (am_sz r1.2 - am_sz M) Pc) (PostOf (am_Qc G a M H.size r1) (r1.2.1.length - M.1.length) (am_sz r1.2 - am_sz M) (va_A (am_ws G a M) H.size)) :=
    back_of (bytes := am_b t) (maxL := am_l t) (ret := am_r t) hM hbl rfl rfl hfr hlo (pay_in hts (am_wc_good hmk)) List.mem_cons_self (fun a' U hW => word_at hW (Or.inl (by first | rfl | simp [Cond.onTables, Cond.keeps, Cond.steady])) (hts _ q4))
  intro T hT X0
  obtain ⟨v, vm₁, ⟨U', l2, c2, s2⟩, hW₁, X', ⟨g', mk, t', L, e1, e2, hq, h1, hL, h2, h3⟩, st⟩ := am_callSup X0 hx (bytes := am_b t) (maxL := am_l t) (ret := am_r t) hown (hts _ k1) k5 (hts _ k3) (hts _ k6) (k7.imp id (fun z => hts _ z)) (hts _ k2) (hts _ q1) k8 hBk (by rw [hT]; exact hc1) hc2 hc3 (g := F0 m pc ls stv) rfl (hl.1.trans hml.symm) (argsL := As) (rest := rest) (fun sig h => by unfold am_na at k4; rw [h] at k4; exact hn.trans (Option.some.inj k4).symm) hst (lv_room hcat) (by rw [hb]; exact hdg)
    (fun vm₁ hW₁ => ⟨hf.1, hf.2, hpre (T.setVm vm₁) hT hW₁⟩)
  dsimp only [Pt.U, Pt.locs, Pt.cells, Pt.slots] at X' e1 e2 h1 h2 h3 st
  subst h1; subst h2; subst h3
  exact ⟨v, (T.setVm vm₁).calling g' mk (Value.ref b :: As).toArray, t', U', L, hT, X', hL, e1, e2, hq, st⟩
end
end
section
/-! one instruction, calls among them; then any number of them -/
def am_cn2 (c : Nat) : String := if c = 13 then "java/lang/String" else am_cn c
def am_mb (t : Nat) : Bool := decide (0 < t) && decide (t < am_oi)
def am_vk (ix : List (Nat × List Nat)) (own : String) (idx n : Nat) (x : MethodName) (owner : String) (t0 c t : Nat) : Bool :=
  am_mb t && ((am_inI (am_gi ix c 0) (.methodLink own idx (am_y t)) && (am_inI (am_gi ix c 1) (.instanceMethod (am_y t)) && (am_inI (am_gi ix c 2) (.selects (am_cn2 c) (am_y t) (am_y t)) && decide (am_na (am_y t).desc = some n))))
  || (am_inI (am_gi ix c 0) (.methodLink own idx x) && (am_inI (am_gi ix c 1) (.sameMethod x.cls owner x.name x.desc) && (am_inI (am_gi ix c 2) (.selects (am_cn2 c) x (am_y t)) && (am_inI (am_gi ix c 3) (.instanceMethod (am_y t)) && (am_inI (am_gi ix c 4) (.instanceMethod ⟨owner, x.name, x.desc⟩) && (am_inI (am_gi ix c 5) (.code ⟨owner, x.name, x.desc⟩ (am_b t0) (am_l t0) (am_r t0)) && (decide (am_na x.desc = some n) && (decide (owner ≠ "java/lang/invoke/MethodHandle") && decide (owner ≠ "java/lang/invoke/VarHandle"))))))))))
def am_sk (ix : List (Nat × List Nat)) (own : String) (idx n : Nat) (x : MethodName) (t : Nat) : Bool :=
  am_mb t && (am_inI (am_gi ix 0 0) (.static (am_y t)) && (decide (am_na (am_y t).desc = some n) && (am_inI (am_gi ix 0 1) (.methodLink own idx (am_y t)) || (am_inI (am_gi ix 0 1) (.methodLink own idx x) && (am_inI (am_gi ix 0 2) (.sameMethod x.cls (am_y t).cls x.name x.desc) && decide (am_y t = ⟨(am_y t).cls, x.name, x.desc⟩))))))
def am_pk (ix : List (Nat × List Nat)) (own : String) (idx n : Nat) (x : MethodName) (t : Nat) : Bool :=
  (decide (t = am_oi) && am_inI (am_gi ix 0 1) (.methodLink own idx objectInit))
  || (am_mb t && (am_inI (am_gi ix 0 0) (.instanceMethod (am_y t)) && (decide (am_na (am_y t).desc = some n) &&
    ((decide ((am_y t).name = "<init>") && (decide (am_r t = none) && (am_inI (am_gi ix 0 1) (.methodLink own idx (am_y t)) || decide (Cond.methodLinkNest own idx (am_y t) "ClubReads" ∈ am_nests))))
    || (decide (x.name ≠ "<init>") && (am_inI (am_gi ix 0 1) (.methodLink own idx x) && (am_inI (am_gi ix 0 2) (.sameMethod x.cls (am_y t).cls x.name x.desc) && (decide (am_y t = ⟨(am_y t).cls, x.name, x.desc⟩) && (am_inI (am_gi ix 0 3) (.superclass own x.cls) && (decide (x.cls = (am_y t).cls) || am_inI (am_gi ix 0 4) (.superclass x.cls (am_y t).cls)))))))))))
def am_lk (ix : List (Nat × List Nat)) (q : String × Nat × Nat × List (Nat × Nat)) (z : Nat × MethodName × String × Nat) : Bool := match z.1 with
  | 0 => q.2.2.2.all (fun w => am_vk ix q.1 q.2.1 q.2.2.1 z.2.1 z.2.2.1 z.2.2.2 w.1 w.2)
  | 1 => q.2.2.2.all (fun w => am_sk ix q.1 q.2.1 q.2.2.1 z.2.1 w.2)
  | _ => q.2.2.2.all (fun w => am_pk ix q.1 q.2.1 q.2.2.1 z.2.1 w.2)
def am_ik (mid idx x k : Nat) : Bool := match am_cl[x]?, am_cx[x]? with
  | some q, some z => decide (q.1 = (am_y mid).cls) && (decide (q.2.1 = idx) && decide (z.1 = k))
  | _, _ => false
def am_ckc (mid : Nat) (i : Instr) (x : Nat) : Bool := match i with
  | .invokevirtual v => am_ik mid v x 0
  | .invokestatic v => am_ik mid v x 1 && (match am_T x 0 with
    | some _ => true
    | none => decide (am_N x ≠ 5) || am_inT (.methodLink (am_y mid).cls v arraycopyName))
  | .invokespecial v => am_ik mid v x 2
  | _ => true
/-- all that the tables owe the launch's words -/
def am_LK : Prop := am_COs ∧ am_FLs ∧ (∀ t : FieldType, t = .int ∨ t = .long ∨ t = .boolean → Cond.arrayClass t ∈ am_tb) ∧
  (∀ (x : Nat) (q : String × Nat × Nat × List (Nat × Nat)) (z : Nat × MethodName × String × Nat), am_cl[x]? = some q → am_cx[x]? = some z → am_lk (am_cix.getD x []) q z = true) ∧
  (∀ mid pc i n x, am_ins mid pc = some (i, n, x) → decode (am_b mid) pc = .ok (i, n) ∧ am_ck mid pc i n x = true ∧ am_ckc mid i x = true) ∧
  (Cond.native arraycopyName ∈ am_tb ∧ Cond.static arraycopyName ∈ am_tb ∧ Cond.initialized "java/lang/System" ∈ am_tb) ∧ Cond.instanceMethod objectInit ∈ am_tb ∧ Cond.code objectInit ⟨#[0xb1]⟩ 1 none ∈ am_tb ∧ (∀ t, 0 < t → t < am_oi → am_mk t = true)
theorem am_T_mem {x c t : Nat} (h : am_T x c = some t) : ∃ q, am_cl[x]? = some q ∧ (c, t) ∈ q.2.2.2 ∧ am_N x = q.2.2.1 := by
  unfold am_T at h
  split at h
  · rename_i q hq
    refine ⟨q, hq, am_lookm h, ?_⟩
    unfold am_N
    rw [hq]
  · cases h
theorem am_link {mid idx x k c t : Nat} (hLK : am_LK) (hi : am_ik mid idx x k = true) (h : am_T x c = some t) : ∃ (ix : List (Nat × List Nat)) (q : String × Nat × Nat × List (Nat × Nat)) (z : Nat × MethodName × String × Nat), am_lk ix q z = true ∧ z.1 = k ∧ q.1 = (am_y mid).cls ∧ q.2.1 = idx ∧ (c, t) ∈ q.2.2.2 ∧ am_N x = q.2.2.1 := by
  obtain ⟨q, hq, hm, hn⟩ := am_T_mem h
  unfold am_ik at hi
  rw [hq] at hi
  cases hz : am_cx[x]? with
  | none => rw [hz] at hi; cases hi
  | some z =>
    rw [hz] at hi
    simp only [Bool.and_eq_true, decide_eq_true_eq] at hi
    exact ⟨_, q, z, hLK.2.2.2.1 x q z hq hz, hi.2.2, hi.1, hi.2.1, hm, hn⟩
theorem am_mb_mk {t : Nat} (hLK : am_LK) (h : am_mb t = true) : am_mk t = true := by
  unfold am_mb at h
  simp only [Bool.and_eq_true, decide_eq_true_eq] at h
  exact hLK.2.2.2.2.2.2.2.2 t h.1 h.2
theorem am_sv_split {G : am_G} {a : Nat → Nat} {st : List am_V} {n : Nat} : am_sv G a st = (am_sv G a (st.take n).reverse).reverse ++ am_sv G a (st.drop n) := by
  unfold am_sv
  rw [← List.map_reverse, List.reverse_reverse, ← List.map_append, List.take_append_drop]
section
variable {l : Launch} {G : am_G} {X : Nat × (Nat → Int)} {K : am_K} {d mid pc n x : Nat} {lv : List (Nat × am_V)} {st rest : List am_V} {M : am_M} {r : am_R}
theorem am_call_inv {t : Nat} {as : List am_V} (hK : am_Good l G X K) (h : am_call K d mid pc lv rest M t as = some r) : ∃ d' r1, d = d' + 1 ∧ am_cats rest ≤ 8 ∧ am_cats as ≤ am_l t ∧ am_FG l G X d' t 0 (am_args 0 as) [] M r1 ∧ am_FG l G X (d' + 1) mid pc lv (r1.1.toList ++ rest) r1.2 r := by
  unfold am_call at h
  split at h
  · cases h
  · rename_i d'
    split at h
    · rename_i hc
      split at h
      · rename_i r1 h1
        exact ⟨d', r1, rfl, hc.1, hc.2, hK _ _ _ _ _ _ _ h1, hK _ _ _ _ _ _ _ h⟩
      · cases h
    · cases h
/-- who is called: its cell, by its kind -/
theorem am_kd_recv {a : Nat → Nat} {A : Nat → Prop} {s : State} {H : Heap} {locs : List Loc} {p : Program} {m : MethodId} {args : Array Value} {meth : Method} {c : Code} {v : am_V} {k : Nat} (hCO : am_COs) (C : am_Cx G X p s m args meth c mid A) (hW : am_Wd G a M A s H locs) (h : am_kd M v = some k) : ∃ b, am_tr G a v = .ref b ∧ ∃ cellB : Cell, H[b]? = some cellB ∧ cellB.vm.isStatics = false ∧ s.vm.findClass (am_cn2 k) = some cellB.cls := by
  obtain ⟨hx, hb, hml, hown, hts, hK, hnm, hA, hE1, hE2, hE3, hE4, hE5, ⟨adK, adV, hvk, had, hsr⟩, hE6⟩ := C
  unfold am_kd at h
  split at h
  · rename_i q
    split at h
    · rename_i sh hs
      split at h
      · rename_i h13
        cases h
        obtain ⟨r, ty0, hr, -⟩ := hCO sh.1 h13
        have he := am_ws_get (G := G) (a := a) hs
        rw [am_ceo h13] at he
        obtain ⟨cell, c1, c2, c3⟩ := va_recv hK hW.1 hr he
        refine ⟨a q, rfl, cell, c1, c2, ?_⟩
        unfold am_cn2
        rw [if_neg (by omega), am_cn_of hr]
        exact c3
      · cases h
    · cases h
  · rename_i ev
    split at h
    · rename_i he
      cases h
      obtain ⟨j, hj⟩ : ∃ j, ev = 1 + 2 * j := ⟨ev / 2, by omega⟩
      subst hj
      have hj : j < 10 := by omega
      refine ⟨adK j, ?_, vk_recv hvk hj hW.2.2⟩
      show va_rf (G.2.2 (1 + 2 * j)) = _
      rw [(had j hj).1]
      rfl
    · cases h
  · cases h
theorem am_drop_mem {v : am_V} (hd : st.drop n = v :: rest) : ∀ w, w ∈ v :: (st.take n).reverse ∨ w ∈ rest → w ∈ st := by
  intro w hw
  rw [← List.take_append_drop n st, hd]
  rcases hw with hw | hw
  · rcases List.mem_cons.mp hw with rfl | hw
    · exact List.mem_append_right _ List.mem_cons_self
    · exact List.mem_append_left _ (List.mem_reverse.mp hw)
  · exact List.mem_append_right _ (List.mem_cons_of_mem _ hw)
theorem am_x_virtual {v : Nat} (hLK : am_LK) (hK : am_Good l G X K) (hdec : decode (am_b mid) pc = .ok (.invokevirtual v, 3)) (hi : am_ik mid v x 0 = true) (h : am_x X K d mid pc lv st M (.invokevirtual v) 3 x = some r) : am_FG l G X d mid pc lv st M r := by
  simp only [am_x] at h
  split at h
  · rename_i w rest hdr
    split at h
    · rename_i k hk
      split at h
      · rename_i t ht
        split at h
        · rename_i hlen
          obtain ⟨d', r1, rfl, hc8, hcl, g1, g2⟩ := am_call_inv hK h
          obtain ⟨ix, q, z, hlk, hz, hq1, hq2, hm, hN⟩ := am_link hLK hi ht
          unfold am_lk at hlk
          rw [hz] at hlk
          have hvk := List.all_eq_true.mp hlk (k, t) hm
          dsimp only at hvk
          rw [hq1, hq2, ← hN] at hvk
          unfold am_vk at hvk
          rw [Bool.and_eq_true] at hvk
          obtain ⟨hmk, hvk⟩ := hvk
          have hmk := am_mb_mk hLK hmk
          obtain ⟨q1, q2, q3, q4, q5, q6⟩ := am_mk_spec hmk
          refine am_FG.call q2 q3 g1 g2 hcl hc8 (am_drop_mem hdr) (fun p e R s m args below meth c A a ls H locs cells slots C hl hW hM hbl hpre hfr hlo hcat hf => ?_)
          obtain ⟨b, hb1, hrecv⟩ := am_kd_recv hLK.1 C hW hk
          have e1 : am_sv G a (w :: (st.take (am_N x)).reverse) = .ref b :: am_sv G a (st.take (am_N x)).reverse := by
            show am_tr G a w :: am_sv G a (st.take (am_N x)).reverse = _
            rw [hb1]
          have est : am_sv G a st = (am_sv G a (st.take (am_N x)).reverse).reverse ++ .ref b :: am_sv G a rest := by
            rw [am_sv_split (n := am_N x), hdr]
            show _ ++ am_tr G a w :: am_sv G a rest = _
            rw [hb1]
          have hn : (am_sv G a (st.take (am_N x)).reverse).length = am_N x := by
            unfold am_sv
            rw [List.length_map, List.length_reverse, List.length_take]
            omega
          rw [e1] at hM hbl hpre ⊢
          rw [Bool.or_eq_true] at hvk
          rcases hvk with hvk | hvk
          · simp only [Bool.and_eq_true, decide_eq_true_eq] at hvk
            exact am_fV hmk C hl hM hbl hpre hfr hlo hcat hf hn est hrecv hdec (am_inI_tb hvk.1) (am_inI_tb hvk.2.1) (am_inI_tb hvk.2.2.1) hvk.2.2.2
          · simp only [Bool.and_eq_true, decide_eq_true_eq] at hvk
            obtain ⟨y1, y2, y3, y4, y5, y6, y7, y8⟩ := hvk
            exact am_fU hmk C hl hM hbl hpre hfr hlo hcat hf hn est hrecv hdec (am_inI_tb y1) (am_inI_tb y2) (am_inI_tb y3) (am_inI_tb y4) (am_inI_tb y5) (am_inI_tb y6) y7 y8
        · cases h
      · cases h
    · cases h
  · cases h
theorem am_x_special {v : Nat} (hLK : am_LK) (hK : am_Good l G X K) (hdec : decode (am_b mid) pc = .ok (.invokespecial v, 3)) (hi : am_ik mid v x 2 = true) (h : am_x X K d mid pc lv st M (.invokespecial v) 3 x = some r) : am_FG l G X d mid pc lv st M r := by
  simp only [am_x] at h
  split at h
  · rename_i w rest hdr
    split at h
    · rename_i k hk
      split at h
      · rename_i t ht
        obtain ⟨ix, q, z, hlk, hz, hq1, hq2, hm, hN⟩ := am_link hLK hi ht
        unfold am_lk at hlk
        rw [hz] at hlk
        have hvk := List.all_eq_true.mp hlk (0, t) hm
        dsimp only at hvk
        rw [hq1, hq2, ← hN] at hvk
        unfold am_pk at hvk
        rw [Bool.or_eq_true] at hvk
        split at h
        · rename_i hoi
          split at h
          · cases h
          · rename_i d'
            split at h
            · rename_i hc8
              obtain ⟨hc8, hn0⟩ := hc8
              have hlnk : Cond.methodLink (am_y mid).cls v objectInit ∈ am_tb := by
                rcases hvk with hvk | hvk
                · simp only [Bool.and_eq_true] at hvk
                  exact am_inI_tb hvk.2
                · exfalso
                  rw [Bool.and_eq_true] at hvk
                  subst hoi
                  have := hvk.1
                  revert this
                  decide +kernel
              obtain ⟨gg, gr⟩ := hK _ _ _ _ _ _ _ h
              rw [hn0] at hdr
              have hdr : st = w :: rest := hdr
              subst hdr
              refine ⟨gg, ?_⟩
              intro p e R s m args below meth c A Q a ls H locs cells slots n0 z0 C hd hdl hl w1 w2 w3 hW hc hs hrc hrs kk
              obtain ⟨b, hb1, -⟩ := am_kd_recv hLK.1 C hW hk
              obtain ⟨hx, hb, hml, hown, hts, hKK, hnm, hA, hE⟩ := id C
              have hcat : ((am_sv G a rest).map (fun v => v.category)).sum = am_cats rest := by
                unfold am_sv am_cats
                rw [List.map_map]
                congr 1
                apply List.map_congr_left
                intro v _
                exact am_tr_cat G a v
              refine W.objInit hx hb hown (hts _ hlnk) (hts _ hLK.2.2.2.2.2.2.1) (hts _ hLK.2.2.2.2.2.2.2.1) (g := F0 m pc ls (am_sv G a (w :: rest))) rfl (by rw [hml]; exact hl.1) (a := b) (rest := am_sv G a rest) (by show am_tr G a w :: am_sv G a rest = _; rw [hb1]) hdec (by omega) (by show 2 * 0 + _ + 12 ≤ _; rw [hcat]; omega) ?_
              exact gr p e R s m args below meth c A Q a ls H locs cells slots n0 z0 C hd hdl hl w1 w2 (am_wfs_tl w3) hW hc hs hrc hrs kk
            · cases h
        · rename_i hoi
          split at h
          · rename_i hlen
            obtain ⟨d', r1, rfl, hc8, hcl, g1, g2⟩ := am_call_inv hK h
            rcases hvk with hvk | hvk
            · simp only [Bool.and_eq_true, decide_eq_true_eq] at hvk
              exact absurd hvk.1 hoi
            · rw [Bool.and_eq_true] at hvk
              obtain ⟨hmk, hvk⟩ := hvk
              have hmk := am_mb_mk hLK hmk
              obtain ⟨q1, q2, q3, q4, q5, q6⟩ := am_mk_spec hmk
              refine am_FG.call q2 q3 g1 g2 hcl hc8 (am_drop_mem hdr) (fun p e R s m args below meth c A a ls H locs cells slots C hl hW hM hbl hpre hfr hlo hcat hf => ?_)
              obtain ⟨b, hb1, cellB, hr1, hr2, hr3⟩ := am_kd_recv hLK.1 C hW hk
              have e1 : am_sv G a (w :: (st.take (am_N x)).reverse) = .ref b :: am_sv G a (st.take (am_N x)).reverse := by
                show am_tr G a w :: am_sv G a (st.take (am_N x)).reverse = _
                rw [hb1]
              have est : am_sv G a st = (am_sv G a (st.take (am_N x)).reverse).reverse ++ .ref b :: am_sv G a rest := by
                rw [am_sv_split (n := am_N x), hdr]
                show _ ++ am_tr G a w :: am_sv G a rest = _
                rw [hb1]
              have hn : (am_sv G a (st.take (am_N x)).reverse).length = am_N x := by
                unfold am_sv
                rw [List.length_map, List.length_reverse, List.length_take]
                omega
              rw [e1] at hM hbl hpre ⊢
              simp only [Bool.and_eq_true, Bool.or_eq_true, decide_eq_true_eq] at hvk
              obtain ⟨k1, k2, k3⟩ := hvk
              rcases k3 with ⟨y1, y2, y3⟩ | ⟨y1, y2, y3, y4, y5, y6⟩
              · rcases y3 with y3 | y3
                · exact am_fI hmk C hl hM hbl hpre hfr hlo hcat hf hn est hdec (am_inI_tb y3) (am_inI_tb k1) y1 y2 k2
                · exact am_fIN hmk C hl hM hbl hpre hfr hlo hcat hf hn est hdec y3 (am_inI_tb k1) y1 y2 k2
              · obtain ⟨kB, hkB⟩ := Vm.classAt_of_findClass hr3
                exact am_fX hmk C hl hM hbl hpre hfr hlo hcat hf hn est ⟨cellB, kB, hr1, hr2, hkB⟩ hdec (am_inI_tb y2) (am_inI_tb k1) (am_inI_tb y3) y4 k2 (am_inI_tb y5) (y6.imp id am_inI_tb) y1
          · cases h
      · cases h
    · cases h
  · cases h
theorem am_x_copy {v : Nat} {q : List am_V × am_M} {d' : Nat} (hLK : am_LK) (hdec : decode (am_b mid) pc = .ok (.invokestatic v, 3)) (hlk : Cond.methodLink (am_y mid).cls v arraycopyName ∈ am_tb) (hcp : am_cp M st = some q) (hG : am_FG l G X (d' + 1) mid (pc + 3) lv q.1 q.2 r) : am_FG l G X (d' + 1) mid pc lv st M r := by
  unfold am_cp at hcp
  split at hcp
  · rename_i nn dp k sp qq st'
    split at hcp
    · rename_i sh th hs ht
      split at hcp
      · rename_i hc
        obtain ⟨c1, c2, c3, c4, c5, c6, c7, c8, c9, c10⟩ := hc
        cases hcp
        obtain ⟨gg, gr⟩ := hG
        refine ⟨gg, ?_⟩
        intro p e R s m args below meth c A Q a ls H locs cells slots n0 z0 C hd hdl hl w1 w2 w3 hW hc0 hs0 hrc hrs kk
        obtain ⟨hx, hb, hml, hown, hts, hKK, hnm, hA, hE⟩ := id C
        have hcat : ((am_sv G a st').map (fun v => v.category)).sum = am_cats st' := by
          unfold am_sv am_cats
          rw [List.map_map]
          congr 1
          apply List.map_congr_left
          intro v _
          exact am_tr_cat G a v
        have he1 := am_ws_get (G := G) (a := a) hs
        rw [am_ce20 c1] at he1
        have he0 := am_ws_get (G := G) (a := a) ht
        rw [am_ce20 c2] at he0
        obtain ⟨n1, n2, n3⟩ := hLK.2.2.2.2.2.1
        have v1 := am_clamp c3 (show nn < 2147483648 by omega)
        have v2 := am_clamp c4 (show dp < 2147483648 by omega)
        have v3 := am_clamp c5 (show sp < 2147483648 by omega)
        refine va_copyi (ty := .int) hx hb (by rw [hml]; exact hl.1.symm) hown (hts _ hlk) (hts _ n1) (hts _ n2) (hts _ n3) hKK hW.1 hW.2.1 hW.2.2 qq k 0 0 he0 he1 rfl rfl rfl (am_nneg c5 (by omega)) (am_nneg c4 (by omega)) (am_nneg c3 (by omega)) (by rw [v1, v3]; omega) (by rw [v1, v2]; omega) (fun _ _ => rfl) (by omega) (by show ((am_sv G a st').map (fun v => v.category)).sum + (5 + 2 + 11) ≤ _; rw [hcat]; omega) hdec (fun H1 locs1 q1 q2 q3 => ?_)
        have hset : (am_ws G a M).set k (a k, .inl (G.2.1 0, sh.2, .inl (va_cpy (fun i => Int32.ofInt (M.2.1 qq i)) (fun i => Int32.ofInt (M.2.1 k i)) (Int32.ofInt sp).toNatClampNeg (Int32.ofInt dp).toNatClampNeg (Int32.ofInt nn).toNatClampNeg))) = am_ws G a (M.1, (fun c i => if c = k ∧ (dp.toNat ≤ i ∧ i < dp.toNat + nn.toNat) then M.2.1 qq (sp.toNat + (i - dp.toNat)) else M.2.1 c i), M.2.2.1, M.2.2.2) := by
          refine am_ws_set (M := M) (M' := (M.1, (fun c i => if c = k ∧ (dp.toNat ≤ i ∧ i < dp.toNat + nn.toNat) then M.2.1 qq (sp.toNat + (i - dp.toNat)) else M.2.1 c i), M.2.2.1, M.2.2.2)) rfl hs (fun w hw => ⟨?_, rfl, rfl⟩) ?_
          · funext i
            show (if w = k ∧ _ then _ else M.2.1 w i) = _
            rw [if_neg (fun h => hw h.1)]
          · rw [am_ce20 c1, v1, v2, v3]
            congr 4
            funext i
            show va_cpy (fun i => Int32.ofInt (M.2.1 qq i)) (fun i => Int32.ofInt (M.2.1 k i)) sp.toNat dp.toNat nn.toNat i = Int32.ofInt (if k = k ∧ (dp.toNat ≤ i ∧ i < dp.toNat + nn.toNat) then M.2.1 qq (sp.toNat + (i - dp.toNat)) else M.2.1 k i)
            unfold va_cpy
            by_cases hi : dp.toNat ≤ i ∧ i < dp.toNat + nn.toNat
            · rw [if_pos hi, if_pos ⟨rfl, hi⟩]
            · rw [if_neg hi, if_neg (fun h => hi h.2)]
        rw [hset] at q1 q2
        exact gr p e R s m args below meth c A Q a ls H1 locs1 cells slots n0 z0 C hd hdl hl w1 w2 (am_wfs_tl (am_wfs_tl (am_wfs_tl (am_wfs_tl (am_wfs_tl w3))))) ⟨q1, q2, q3⟩ hc0 hs0 hrc hrs kk
      · cases hcp
    · cases hcp
  · cases hcp
theorem am_x_static {v : Nat} (hLK : am_LK) (hK : am_Good l G X K) (hdec : decode (am_b mid) pc = .ok (.invokestatic v, 3)) (hck : am_ckc mid (.invokestatic v) x = true) (h : am_x X K d mid pc lv st M (.invokestatic v) 3 x = some r) : am_FG l G X d mid pc lv st M r := by
  simp only [am_x] at h
  simp only [am_ckc, Bool.and_eq_true] at hck
  obtain ⟨hi, hck⟩ := hck
  split at h
  · rename_i t ht
    split at h
    · rename_i hlen
      obtain ⟨d', r1, rfl, hc8, hcl, g1, g2⟩ := am_call_inv hK h
      obtain ⟨ix, q, z, hlk, hz, hq1, hq2, hm, hN⟩ := am_link hLK hi ht
      unfold am_lk at hlk
      rw [hz] at hlk
      have hvk := List.all_eq_true.mp hlk (0, t) hm
      dsimp only at hvk
      rw [hq1, hq2, ← hN] at hvk
      unfold am_sk at hvk
      rw [Bool.and_eq_true] at hvk
      obtain ⟨hmk, hvk⟩ := hvk
      have hmk := am_mb_mk hLK hmk
      obtain ⟨q1, q2, q3, q4, q5, q6⟩ := am_mk_spec hmk
      refine am_FG.call q2 q3 g1 g2 hcl hc8 ?_ (fun p e R s m args below meth c A a ls H locs cells slots C hl hW hM hbl hpre hfr hlo hcat hf => ?_)
      · intro w hw
        rw [← List.take_append_drop (am_N x) st]
        rcases hw with hw | hw
        · exact List.mem_append_left _ (List.mem_reverse.mp hw)
        · exact List.mem_append_right _ hw
      have hn : (am_sv G a (st.take (am_N x)).reverse).length = am_N x := by
        unfold am_sv
        rw [List.length_map, List.length_reverse, List.length_take]
        omega
      simp only [Bool.and_eq_true, Bool.or_eq_true, decide_eq_true_eq] at hvk
      obtain ⟨k1, k2, k3⟩ := hvk
      rcases k3 with k3 | ⟨y1, y2, y3⟩
      · exact am_fS hmk C hl hM hbl hpre hfr hlo hcat hf hn am_sv_split hdec (am_inI_tb k3) (am_inI_tb k1) k2
      · exact am_fSU hmk C hl hM hbl hpre hfr hlo hcat hf hn am_sv_split hdec (am_inI_tb y1) (am_inI_tb k1) (am_inI_tb y2) y3 k2
    · cases h
  · rename_i ht
    split at h
    · rename_i h5
      split at h
      · cases h
      · rename_i d'
        split at h
        · rename_i q hq
          rw [ht] at hck
          simp only [h5, ne_eq, not_true_eq_false, decide_false, Bool.false_or] at hck
          exact am_x_copy hLK hdec (am_inT_tb hck) hq (hK _ _ _ _ _ _ _ h)
        · cases h
    · cases h
/-- one instruction -/
theorem am_x_ok {i : Instr} (hLK : am_LK) (hK : am_Good l G X K) (hdec : decode (am_b mid) pc = .ok (i, n)) (hck : am_ck mid pc i n x = true) (hckc : am_ckc mid i x = true) (h : am_x X K d mid pc lv st M i n x = some r) : am_FG l G X d mid pc lv st M r := by
  have hret : ∀ v, am_ret mid v M = some r → (am_rok mid v = true ∧ r = (v, M)) := by
    intro v hv
    unfold am_ret at hv
    split at hv
    · rename_i h1
      exact ⟨h1, (Option.some.inj hv).symm⟩
    · cases hv
  have hdef : ∀ q, am_s X pc lv st M i n x = some q → K d mid q.1 q.2.1 q.2.2.1 q.2.2.2 = some r → am_FG l G X d mid pc lv st M r := fun q h1 h2 => am_FG.step (am_s_ok hLK.1 hLK.2.1 hLK.2.2.1 hdec hck h1) (hK _ _ _ _ _ _ _ h2)
  have hn1 : ∀ {j : Instr}, i = j → (am_ck mid pc j n x = decide (n = 1)) → n = 1 := fun hj h1 => by
    rw [hj, h1, decide_eq_true_eq] at hck
    exact hck
  have hn3 : ∀ {j : Instr}, i = j → (am_ck mid pc j n x = decide (n = 3)) → n = 3 := fun hj h1 => by
    rw [hj, h1, decide_eq_true_eq] at hck
    exact hck
  cases i with
  | ireturn =>
    have hn := hn1 rfl rfl
    subst hn
    simp only [am_x] at h
    split at h
    · obtain ⟨h1, rfl⟩ := hret _ h
      exact am_FG.ret hdec h1 rfl
    · cases h
  | lreturn =>
    have hn := hn1 rfl rfl
    subst hn
    simp only [am_x] at h
    split at h
    · obtain ⟨h1, rfl⟩ := hret _ h
      exact am_FG.ret hdec h1 rfl
    · cases h
  | areturn =>
    have hn := hn1 rfl rfl
    subst hn
    simp only [am_x] at h
    split at h
    · obtain ⟨h1, rfl⟩ := hret _ h
      exact am_FG.ret hdec h1 rfl
    · cases h
  | return_ =>
    have hn := hn1 rfl rfl
    subst hn
    simp only [am_x] at h
    split at h
    · obtain ⟨h1, rfl⟩ := hret _ h
      exact am_FG.ret hdec h1 rfl
    · cases h
  | invokevirtual v =>
    have hn := hn3 rfl rfl
    subst hn
    exact am_x_virtual hLK hK hdec hckc h
  | invokespecial v =>
    have hn := hn3 rfl rfl
    subst hn
    exact am_x_special hLK hK hdec hckc h
  | invokestatic v =>
    have hn := hn3 rfl rfl
    subst hn
    exact am_x_static hLK hK hdec hckc h
  | _ =>
    simp only [am_x] at h
    split at h
    · rename_i q hq
      exact hdef q hq h
    · cases h
theorem am_good_step (hLK : am_LK) (hK : am_Good l G X K) : am_Good l G X (am_step X K) := by
  intro d mid pc lv st M r h
  unfold am_step at h
  split at h
  · rename_i q hq
    obtain ⟨i, n, x⟩ := q
    obtain ⟨h1, h2, h3⟩ := hLK.2.2.2.2.1 mid pc i n x hq
    exact am_x_ok hLK hK h1 h2 h3 h
  · cases h
/-- THE SMALL MACHINE's runs are the machine's -/
theorem am_good (hLK : am_LK) : ∀ n, am_Good l G X (am_run X n) := by
  intro n
  induction n with
  | zero => intro d mid pc lv st M r h; cases h
  | succ n ih => exact am_good_step hLK ih
end
end
