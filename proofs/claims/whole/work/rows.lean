section
-- ===== PART A: goes FIRST, ahead of the names: the tables' words, and 'selects' of the private methods out of them =====
/-- a private method of a class that the tables say can be made, by its rows of tables_1 -/
def lw_okq (q : MethodName × Nat) : Prop := (q.1.cls ≠ "java/lang/invoke/MethodHandle" ∧ q.1.cls ≠ "java/lang/invoke/VarHandle") ∧ Cond.instantiable q.1.cls q.2 ∈ tables_1 ∧ Cond.privateMethod q.1 ∈ tables_1 ∧ Cond.instanceMethod q.1 ∈ tables_1
theorem lw_p0 : lw_okq (⟨"GhostInn", "letRoom", "(I)V"⟩, 8) := ⟨⟨by decide +kernel, by decide +kernel⟩, List.mem_of_getElem? (i := 24) (by decide +kernel), List.mem_of_getElem? (i := 108) (by decide +kernel), List.mem_of_getElem? (i := 109) (by decide +kernel)⟩
theorem lw_p1 : lw_okq (⟨"GhostInn", "winnerOf", "(I)I"⟩, 8) := ⟨⟨by decide +kernel, by decide +kernel⟩, List.mem_of_getElem? (i := 24) (by decide +kernel), List.mem_of_getElem? (i := 112) (by decide +kernel), List.mem_of_getElem? (i := 113) (by decide +kernel)⟩
theorem lw_p2 : lw_okq (⟨"GhostInn", "countsFor", "(LGhostInn$Guest;I)Z"⟩, 8) := ⟨⟨by decide +kernel, by decide +kernel⟩, List.mem_of_getElem? (i := 24) (by decide +kernel), List.mem_of_getElem? (i := 131) (by decide +kernel), List.mem_of_getElem? (i := 132) (by decide +kernel)⟩
theorem lw_p3 : lw_okq (⟨"GhostInn", "isRoom", "(I)Z"⟩, 8) := ⟨⟨by decide +kernel, by decide +kernel⟩, List.mem_of_getElem? (i := 24) (by decide +kernel), List.mem_of_getElem? (i := 135) (by decide +kernel), List.mem_of_getElem? (i := 136) (by decide +kernel)⟩
theorem lw_p4 : lw_okq (⟨"GhostInn", "isGuest", "(I)Z"⟩, 8) := ⟨⟨by decide +kernel, by decide +kernel⟩, List.mem_of_getElem? (i := 24) (by decide +kernel), List.mem_of_getElem? (i := 144) (by decide +kernel), List.mem_of_getElem? (i := 145) (by decide +kernel)⟩
theorem lw_p5 : lw_okq (⟨"GhostInn", "hauntingOfNight", "(II)I"⟩, 8) := ⟨⟨by decide +kernel, by decide +kernel⟩, List.mem_of_getElem? (i := 24) (by decide +kernel), List.mem_of_getElem? (i := 148) (by decide +kernel), List.mem_of_getElem? (i := 149) (by decide +kernel)⟩
theorem lw_p6 : lw_okq (⟨"GhostInn", "hauntingInHour", "(III)I"⟩, 8) := ⟨⟨by decide +kernel, by decide +kernel⟩, List.mem_of_getElem? (i := 24) (by decide +kernel), List.mem_of_getElem? (i := 152) (by decide +kernel), List.mem_of_getElem? (i := 153) (by decide +kernel)⟩
theorem lw_p7 : lw_okq (⟨"GhostInn", "dueFor", "(II)I"⟩, 8) := ⟨⟨by decide +kernel, by decide +kernel⟩, List.mem_of_getElem? (i := 24) (by decide +kernel), List.mem_of_getElem? (i := 161) (by decide +kernel), List.mem_of_getElem? (i := 162) (by decide +kernel)⟩
theorem lw_p8 : lw_okq (⟨"GhostInn", "allowSeats", "()V"⟩, 8) := ⟨⟨by decide +kernel, by decide +kernel⟩, List.mem_of_getElem? (i := 24) (by decide +kernel), List.mem_of_getElem? (i := 206) (by decide +kernel), List.mem_of_getElem? (i := 207) (by decide +kernel)⟩
theorem lw_p9 : lw_okq (⟨"GhostInn", "nextDearest", "(I)I"⟩, 8) := ⟨⟨by decide +kernel, by decide +kernel⟩, List.mem_of_getElem? (i := 24) (by decide +kernel), List.mem_of_getElem? (i := 218) (by decide +kernel), List.mem_of_getElem? (i := 219) (by decide +kernel)⟩
theorem lw_p10 : lw_okq (⟨"GhostInn", "isDearer", "(II)Z"⟩, 8) := ⟨⟨by decide +kernel, by decide +kernel⟩, List.mem_of_getElem? (i := 24) (by decide +kernel), List.mem_of_getElem? (i := 222) (by decide +kernel), List.mem_of_getElem? (i := 223) (by decide +kernel)⟩
theorem lw_p11 : lw_okq (⟨"GhostInn", "bidsWritten", "()I"⟩, 8) := ⟨⟨by decide +kernel, by decide +kernel⟩, List.mem_of_getElem? (i := 24) (by decide +kernel), List.mem_of_getElem? (i := 247) (by decide +kernel), List.mem_of_getElem? (i := 248) (by decide +kernel)⟩
theorem lw_p12 : lw_okq (⟨"GhostInn", "roomsToLet", "()I"⟩, 8) := ⟨⟨by decide +kernel, by decide +kernel⟩, List.mem_of_getElem? (i := 24) (by decide +kernel), List.mem_of_getElem? (i := 251) (by decide +kernel), List.mem_of_getElem? (i := 252) (by decide +kernel)⟩
theorem lw_p13 : lw_okq (⟨"java/lang/Throwable", "fillInStackTrace", "(I)Ljava/lang/Throwable;"⟩, 6) := ⟨⟨by decide +kernel, by decide +kernel⟩, List.mem_of_getElem? (i := 293) (by decide +kernel), List.mem_of_getElem? (i := 291) (by decide +kernel), List.mem_of_getElem? (i := 292) (by decide +kernel)⟩
theorem lw_p14 : lw_okq (⟨"GhostInn", "digestRoom", "(JI)J"⟩, 8) := ⟨⟨by decide +kernel, by decide +kernel⟩, List.mem_of_getElem? (i := 24) (by decide +kernel), List.mem_of_getElem? (i := 323) (by decide +kernel), List.mem_of_getElem? (i := 324) (by decide +kernel)⟩
theorem lw_p15 : lw_okq (⟨"GhostInn", "bidsThatCount", "(I)I"⟩, 8) := ⟨⟨by decide +kernel, by decide +kernel⟩, List.mem_of_getElem? (i := 24) (by decide +kernel), List.mem_of_getElem? (i := 347) (by decide +kernel), List.mem_of_getElem? (i := 348) (by decide +kernel)⟩
def lw_privs_1 : List (MethodName × Nat) := [(⟨"GhostInn", "letRoom", "(I)V"⟩, 8), (⟨"GhostInn", "winnerOf", "(I)I"⟩, 8), (⟨"GhostInn", "countsFor", "(LGhostInn$Guest;I)Z"⟩, 8), (⟨"GhostInn", "isRoom", "(I)Z"⟩, 8), (⟨"GhostInn", "isGuest", "(I)Z"⟩, 8), (⟨"GhostInn", "hauntingOfNight", "(II)I"⟩, 8), (⟨"GhostInn", "hauntingInHour", "(III)I"⟩, 8), (⟨"GhostInn", "dueFor", "(II)I"⟩, 8), (⟨"GhostInn", "allowSeats", "()V"⟩, 8), (⟨"GhostInn", "nextDearest", "(I)I"⟩, 8), (⟨"GhostInn", "isDearer", "(II)Z"⟩, 8), (⟨"GhostInn", "bidsWritten", "()I"⟩, 8), (⟨"GhostInn", "roomsToLet", "()I"⟩, 8), (⟨"java/lang/Throwable", "fillInStackTrace", "(I)Ljava/lang/Throwable;"⟩, 6), (⟨"GhostInn", "digestRoom", "(JI)J"⟩, 8), (⟨"GhostInn", "bidsThatCount", "(I)I"⟩, 8)]
theorem lw_r1 : ∀ q ∈ lw_privs_1, lw_okq q := List.forall_mem_cons.mpr ⟨lw_p0, List.forall_mem_cons.mpr ⟨lw_p1, List.forall_mem_cons.mpr ⟨lw_p2, List.forall_mem_cons.mpr ⟨lw_p3, List.forall_mem_cons.mpr ⟨lw_p4, List.forall_mem_cons.mpr ⟨lw_p5, List.forall_mem_cons.mpr ⟨lw_p6, List.forall_mem_cons.mpr ⟨lw_p7, List.forall_mem_cons.mpr ⟨lw_p8, List.forall_mem_cons.mpr ⟨lw_p9, List.forall_mem_cons.mpr ⟨lw_p10, List.forall_mem_cons.mpr ⟨lw_p11, List.forall_mem_cons.mpr ⟨lw_p12, List.forall_mem_cons.mpr ⟨lw_p13, List.forall_mem_cons.mpr ⟨lw_p14, List.forall_mem_cons.mpr ⟨lw_p15, fun _ h => absurd h List.not_mem_nil⟩⟩⟩⟩⟩⟩⟩⟩⟩⟩⟩⟩⟩⟩⟩⟩
theorem lw_p16 : lw_okq (⟨"GhostInn", "isGhost", "(I)Z"⟩, 8) := ⟨⟨by decide +kernel, by decide +kernel⟩, List.mem_of_getElem? (i := 24) (by decide +kernel), List.mem_of_getElem? (i := 364) (by decide +kernel), List.mem_of_getElem? (i := 365) (by decide +kernel)⟩
theorem lw_p17 : lw_okq (⟨"java/util/ArrayList", "add", "(Ljava/lang/Object;[Ljava/lang/Object;I)V"⟩, 3) := ⟨⟨by decide +kernel, by decide +kernel⟩, List.mem_of_getElem? (i := 32) (by decide +kernel), List.mem_of_getElem? (i := 451) (by decide +kernel), List.mem_of_getElem? (i := 452) (by decide +kernel)⟩
theorem lw_p18 : lw_okq (⟨"java/util/ArrayList", "grow", "()[Ljava/lang/Object;"⟩, 3) := ⟨⟨by decide +kernel, by decide +kernel⟩, List.mem_of_getElem? (i := 32) (by decide +kernel), List.mem_of_getElem? (i := 455) (by decide +kernel), List.mem_of_getElem? (i := 456) (by decide +kernel)⟩
theorem lw_p19 : lw_okq (⟨"java/util/ArrayList", "grow", "(I)[Ljava/lang/Object;"⟩, 3) := ⟨⟨by decide +kernel, by decide +kernel⟩, List.mem_of_getElem? (i := 32) (by decide +kernel), List.mem_of_getElem? (i := 459) (by decide +kernel), List.mem_of_getElem? (i := 460) (by decide +kernel)⟩
theorem lw_p20 : lw_okq (⟨"GhostInn", "planAllWays", "()V"⟩, 8) := ⟨⟨by decide +kernel, by decide +kernel⟩, List.mem_of_getElem? (i := 24) (by decide +kernel), List.mem_of_getElem? (i := 518) (by decide +kernel), List.mem_of_getElem? (i := 519) (by decide +kernel)⟩
theorem lw_p21 : lw_okq (⟨"GhostInn", "planWay", "(LGhostInn$Ghost;)V"⟩, 8) := ⟨⟨by decide +kernel, by decide +kernel⟩, List.mem_of_getElem? (i := 24) (by decide +kernel), List.mem_of_getElem? (i := 522) (by decide +kernel), List.mem_of_getElem? (i := 523) (by decide +kernel)⟩
theorem lw_p22 : lw_okq (⟨"GhostInn", "nextRoom", "(I)I"⟩, 8) := ⟨⟨by decide +kernel, by decide +kernel⟩, List.mem_of_getElem? (i := 24) (by decide +kernel), List.mem_of_getElem? (i := 526) (by decide +kernel), List.mem_of_getElem? (i := 527) (by decide +kernel)⟩
theorem lw_p23 : lw_okq (⟨"GhostInn", "backTonight", "(I)I"⟩, 8) := ⟨⟨by decide +kernel, by decide +kernel⟩, List.mem_of_getElem? (i := 24) (by decide +kernel), List.mem_of_getElem? (i := 671) (by decide +kernel), List.mem_of_getElem? (i := 672) (by decide +kernel)⟩
theorem lw_p24 : lw_okq (⟨"GhostInnModel", "fail", "(I)I"⟩, 11) := ⟨⟨by decide +kernel, by decide +kernel⟩, List.mem_of_getElem? (i := 675) (by decide +kernel), List.mem_of_getElem? (i := 726) (by decide +kernel), List.mem_of_getElem? (i := 727) (by decide +kernel)⟩
theorem lw_p25 : lw_okq (⟨"GhostInnModel", "isRoom", "(I)Z"⟩, 11) := ⟨⟨by decide +kernel, by decide +kernel⟩, List.mem_of_getElem? (i := 675) (by decide +kernel), List.mem_of_getElem? (i := 735) (by decide +kernel), List.mem_of_getElem? (i := 736) (by decide +kernel)⟩
theorem lw_p26 : lw_okq (⟨"GhostInnModel", "isGhost", "(I)Z"⟩, 11) := ⟨⟨by decide +kernel, by decide +kernel⟩, List.mem_of_getElem? (i := 675) (by decide +kernel), List.mem_of_getElem? (i := 747) (by decide +kernel), List.mem_of_getElem? (i := 748) (by decide +kernel)⟩
theorem lw_p27 : lw_okq (⟨"GhostInnModel", "place", "(II)I"⟩, 11) := ⟨⟨by decide +kernel, by decide +kernel⟩, List.mem_of_getElem? (i := 675) (by decide +kernel), List.mem_of_getElem? (i := 751) (by decide +kernel), List.mem_of_getElem? (i := 752) (by decide +kernel)⟩
theorem lw_p28 : lw_okq (⟨"GhostInnModel", "sp", "(II)I"⟩, 11) := ⟨⟨by decide +kernel, by decide +kernel⟩, List.mem_of_getElem? (i := 675) (by decide +kernel), List.mem_of_getElem? (i := 755) (by decide +kernel), List.mem_of_getElem? (i := 756) (by decide +kernel)⟩
theorem lw_p29 : lw_okq (⟨"GhostInnModel", "next", "(I)I"⟩, 11) := ⟨⟨by decide +kernel, by decide +kernel⟩, List.mem_of_getElem? (i := 675) (by decide +kernel), List.mem_of_getElem? (i := 759) (by decide +kernel), List.mem_of_getElem? (i := 760) (by decide +kernel)⟩
theorem lw_p30 : lw_okq (⟨"GhostInnModel", "haunted", "(II)I"⟩, 11) := ⟨⟨by decide +kernel, by decide +kernel⟩, List.mem_of_getElem? (i := 675) (by decide +kernel), List.mem_of_getElem? (i := 771) (by decide +kernel), List.mem_of_getElem? (i := 772) (by decide +kernel)⟩
theorem lw_p31 : lw_okq (⟨"GhostInnModel", "roomTold", "(II)I"⟩, 11) := ⟨⟨by decide +kernel, by decide +kernel⟩, List.mem_of_getElem? (i := 675) (by decide +kernel), List.mem_of_getElem? (i := 779) (by decide +kernel), List.mem_of_getElem? (i := 780) (by decide +kernel)⟩
def lw_privs_2 : List (MethodName × Nat) := [(⟨"GhostInn", "isGhost", "(I)Z"⟩, 8), (⟨"java/util/ArrayList", "add", "(Ljava/lang/Object;[Ljava/lang/Object;I)V"⟩, 3), (⟨"java/util/ArrayList", "grow", "()[Ljava/lang/Object;"⟩, 3), (⟨"java/util/ArrayList", "grow", "(I)[Ljava/lang/Object;"⟩, 3), (⟨"GhostInn", "planAllWays", "()V"⟩, 8), (⟨"GhostInn", "planWay", "(LGhostInn$Ghost;)V"⟩, 8), (⟨"GhostInn", "nextRoom", "(I)I"⟩, 8), (⟨"GhostInn", "backTonight", "(I)I"⟩, 8), (⟨"GhostInnModel", "fail", "(I)I"⟩, 11), (⟨"GhostInnModel", "isRoom", "(I)Z"⟩, 11), (⟨"GhostInnModel", "isGhost", "(I)Z"⟩, 11), (⟨"GhostInnModel", "place", "(II)I"⟩, 11), (⟨"GhostInnModel", "sp", "(II)I"⟩, 11), (⟨"GhostInnModel", "next", "(I)I"⟩, 11), (⟨"GhostInnModel", "haunted", "(II)I"⟩, 11), (⟨"GhostInnModel", "roomTold", "(II)I"⟩, 11)]
theorem lw_r2 : ∀ q ∈ lw_privs_2, lw_okq q := List.forall_mem_cons.mpr ⟨lw_p16, List.forall_mem_cons.mpr ⟨lw_p17, List.forall_mem_cons.mpr ⟨lw_p18, List.forall_mem_cons.mpr ⟨lw_p19, List.forall_mem_cons.mpr ⟨lw_p20, List.forall_mem_cons.mpr ⟨lw_p21, List.forall_mem_cons.mpr ⟨lw_p22, List.forall_mem_cons.mpr ⟨lw_p23, List.forall_mem_cons.mpr ⟨lw_p24, List.forall_mem_cons.mpr ⟨lw_p25, List.forall_mem_cons.mpr ⟨lw_p26, List.forall_mem_cons.mpr ⟨lw_p27, List.forall_mem_cons.mpr ⟨lw_p28, List.forall_mem_cons.mpr ⟨lw_p29, List.forall_mem_cons.mpr ⟨lw_p30, List.forall_mem_cons.mpr ⟨lw_p31, fun _ h => absurd h List.not_mem_nil⟩⟩⟩⟩⟩⟩⟩⟩⟩⟩⟩⟩⟩⟩⟩⟩
theorem lw_p32 : lw_okq (⟨"GhostInnModel", "ro", "(II)I"⟩, 11) := ⟨⟨by decide +kernel, by decide +kernel⟩, List.mem_of_getElem? (i := 675) (by decide +kernel), List.mem_of_getElem? (i := 783) (by decide +kernel), List.mem_of_getElem? (i := 784) (by decide +kernel)⟩
theorem lw_p33 : lw_okq (⟨"GhostInnModel", "isGuest", "(I)Z"⟩, 11) := ⟨⟨by decide +kernel, by decide +kernel⟩, List.mem_of_getElem? (i := 675) (by decide +kernel), List.mem_of_getElem? (i := 796) (by decide +kernel), List.mem_of_getElem? (i := 797) (by decide +kernel)⟩
theorem lw_p34 : lw_okq (⟨"GhostInnModel", "set", "(III)V"⟩, 11) := ⟨⟨by decide +kernel, by decide +kernel⟩, List.mem_of_getElem? (i := 675) (by decide +kernel), List.mem_of_getElem? (i := 800) (by decide +kernel), List.mem_of_getElem? (i := 801) (by decide +kernel)⟩
theorem lw_p35 : lw_okq (⟨"GhostInnModel", "suits", "(II)Z"⟩, 11) := ⟨⟨by decide +kernel, by decide +kernel⟩, List.mem_of_getElem? (i := 675) (by decide +kernel), List.mem_of_getElem? (i := 804) (by decide +kernel), List.mem_of_getElem? (i := 805) (by decide +kernel)⟩
theorem lw_p36 : lw_okq (⟨"GhostInnModel", "pe", "(II)I"⟩, 11) := ⟨⟨by decide +kernel, by decide +kernel⟩, List.mem_of_getElem? (i := 675) (by decide +kernel), List.mem_of_getElem? (i := 808) (by decide +kernel), List.mem_of_getElem? (i := 809) (by decide +kernel)⟩
theorem lw_p37 : lw_okq (⟨"GhostInnModel", "withdraw", "(I)V"⟩, 11) := ⟨⟨by decide +kernel, by decide +kernel⟩, List.mem_of_getElem? (i := 675) (by decide +kernel), List.mem_of_getElem? (i := 816) (by decide +kernel), List.mem_of_getElem? (i := 817) (by decide +kernel)⟩
theorem lw_p38 : lw_okq (⟨"GhostInnModel", "won", "(II)I"⟩, 11) := ⟨⟨by decide +kernel, by decide +kernel⟩, List.mem_of_getElem? (i := 675) (by decide +kernel), List.mem_of_getElem? (i := 828) (by decide +kernel), List.mem_of_getElem? (i := 829) (by decide +kernel)⟩
theorem lw_p39 : lw_okq (⟨"GhostInnModel", "winner", "(I)I"⟩, 11) := ⟨⟨by decide +kernel, by decide +kernel⟩, List.mem_of_getElem? (i := 675) (by decide +kernel), List.mem_of_getElem? (i := 832) (by decide +kernel), List.mem_of_getElem? (i := 833) (by decide +kernel)⟩
theorem lw_p40 : lw_okq (⟨"GhostInnModel", "counts", "(II)Z"⟩, 11) := ⟨⟨by decide +kernel, by decide +kernel⟩, List.mem_of_getElem? (i := 675) (by decide +kernel), List.mem_of_getElem? (i := 836) (by decide +kernel), List.mem_of_getElem? (i := 837) (by decide +kernel)⟩
theorem lw_p41 : lw_okq (⟨"GhostInnModel", "pays", "(I)I"⟩, 11) := ⟨⟨by decide +kernel, by decide +kernel⟩, List.mem_of_getElem? (i := 675) (by decide +kernel), List.mem_of_getElem? (i := 840) (by decide +kernel), List.mem_of_getElem? (i := 841) (by decide +kernel)⟩
theorem lw_p42 : lw_okq (⟨"GhostInnModel", "addRo", "(III)V"⟩, 11) := ⟨⟨by decide +kernel, by decide +kernel⟩, List.mem_of_getElem? (i := 675) (by decide +kernel), List.mem_of_getElem? (i := 853) (by decide +kernel), List.mem_of_getElem? (i := 854) (by decide +kernel)⟩
theorem lw_p43 : lw_okq (⟨"GhostInnModel", "counted", "(I)I"⟩, 11) := ⟨⟨by decide +kernel, by decide +kernel⟩, List.mem_of_getElem? (i := 675) (by decide +kernel), List.mem_of_getElem? (i := 861) (by decide +kernel), List.mem_of_getElem? (i := 862) (by decide +kernel)⟩
theorem lw_p44 : lw_okq (⟨"GhostInnModel", "givenBack", "(I)I"⟩, 11) := ⟨⟨by decide +kernel, by decide +kernel⟩, List.mem_of_getElem? (i := 675) (by decide +kernel), List.mem_of_getElem? (i := 877) (by decide +kernel), List.mem_of_getElem? (i := 878) (by decide +kernel)⟩
def lw_privs_3 : List (MethodName × Nat) := [(⟨"GhostInnModel", "ro", "(II)I"⟩, 11), (⟨"GhostInnModel", "isGuest", "(I)Z"⟩, 11), (⟨"GhostInnModel", "set", "(III)V"⟩, 11), (⟨"GhostInnModel", "suits", "(II)Z"⟩, 11), (⟨"GhostInnModel", "pe", "(II)I"⟩, 11), (⟨"GhostInnModel", "withdraw", "(I)V"⟩, 11), (⟨"GhostInnModel", "won", "(II)I"⟩, 11), (⟨"GhostInnModel", "winner", "(I)I"⟩, 11), (⟨"GhostInnModel", "counts", "(II)Z"⟩, 11), (⟨"GhostInnModel", "pays", "(I)I"⟩, 11), (⟨"GhostInnModel", "addRo", "(III)V"⟩, 11), (⟨"GhostInnModel", "counted", "(I)I"⟩, 11), (⟨"GhostInnModel", "givenBack", "(I)I"⟩, 11)]
theorem lw_r3 : ∀ q ∈ lw_privs_3, lw_okq q := List.forall_mem_cons.mpr ⟨lw_p32, List.forall_mem_cons.mpr ⟨lw_p33, List.forall_mem_cons.mpr ⟨lw_p34, List.forall_mem_cons.mpr ⟨lw_p35, List.forall_mem_cons.mpr ⟨lw_p36, List.forall_mem_cons.mpr ⟨lw_p37, List.forall_mem_cons.mpr ⟨lw_p38, List.forall_mem_cons.mpr ⟨lw_p39, List.forall_mem_cons.mpr ⟨lw_p40, List.forall_mem_cons.mpr ⟨lw_p41, List.forall_mem_cons.mpr ⟨lw_p42, List.forall_mem_cons.mpr ⟨lw_p43, List.forall_mem_cons.mpr ⟨lw_p44, fun _ h => absurd h List.not_mem_nil⟩⟩⟩⟩⟩⟩⟩⟩⟩⟩⟩⟩⟩
def lw_privs : List (MethodName × Nat) := lw_privs_1 ++ (lw_privs_2 ++ (lw_privs_3))
def lw_tbl : List Cond := k2_sels lw_privs ++ tables_1
theorem lw_privs_ok : ∀ q ∈ lw_privs, lw_okq q := by
  show ∀ q ∈ lw_privs_1 ++ (lw_privs_2 ++ (lw_privs_3)), lw_okq q
  exact List.forall_mem_append.mpr ⟨lw_r1, List.forall_mem_append.mpr ⟨lw_r2, lw_r3⟩⟩
/-- the streams that the claim lets the run draw from -/
abbrev lw_cs : List Choice := [Jvm.Choice.named "NaN.bits"]
theorem lw_bits : nanBits ∈ lw_cs := by first | decide | exact List.mem_cons_self | simp [lw_cs, nanBits]
-- ===== end of PART A; then your names; then what follows =====
end
section
/-! ===== BEGIN words of one list among another's, by their places ===== -/
theorem goodIn_r {big : List Cond} (ws : List Cond) (ps : List Nat) (hp : ws = ps.filterMap (fun i => big[i]?)) (h : ws.all goodWord = true) : GoodIn big ws := by
  intro w hw
  have h1 := List.all_eq_true.mp h w hw
  rw [hp] at hw
  obtain ⟨i, -, hi⟩ := List.mem_filterMap.mp hw
  have hm : w ∈ big := by first | exact List.mem_of_getElem? hi | exact List.getElem?_mem hi
  exact ⟨hm, good_of_word h1⟩
theorem goodIn_app {big a b : List Cond} (ha : GoodIn big a) (hb : GoodIn big b) : GoodIn big (a ++ b) := fun w h => (List.mem_append.mp h).elim (ha w) (hb w)
theorem goodIn_ca {big a b : List Cond} {c : Cond} (ha : GoodIn big (c :: a)) (hb : GoodIn big b) : GoodIn big (c :: (a ++ b)) := fun w h => (List.mem_cons.mp h).elim (fun e => ha w (List.mem_cons.mpr (Or.inl e))) (fun h => (List.mem_append.mp h).elim (fun h => ha w (List.mem_cons.mpr (Or.inr h))) (hb w))
theorem goodIn_sub {big ws : List Cond} (hm : ∀ w ∈ ws, w ∈ big) (h : ws.all goodWord = true) : GoodIn big ws := fun w hw => ⟨hm w hw, good_of_word (List.all_eq_true.mp h w hw)⟩
/-! ===== END ===== -/

/-! ===== BEGIN exceptions that leave a method, and their catching by the caller (launches without stack traces) ===== -/
section VXA
/-! The laws vx_back, vx_callV, vx_callS, vx_callSW, vx_throw0, vx_throwS follow proofs of the library, with one case more: JvmDerived/Free/Laws.lean (Back.of_free), Shelf42/LK1.lean (callV, callS), Shelf/KitTraced.lean (throwNew0V, throwNewS). -/
/-- where a method has thrown q: the class by its name, the cell, what was written, the world -/
def vx_T (XC : String → State → State → Prop) (st : State) (q : Addr) (t : State) (mc ms : Nat) (free : Addr → Prop) : Prop :=
  ∃ (E : String) (ce : Cell) (L : List Loc), XC E st t ∧ t.heap[q]? = some ce ∧ ce.vm = .none ∧ st.vm.findClass E = some ce.cls ∧ st.WarmedH t.vm ∧ st.sameButNew ({ t with vm := st.vm } : State) L mc ms ∧ ∀ z ∈ L, free z.base
def vx_Q (Qc : Array Value → State → Outcome → State → Prop) (XC : String → State → State → Prop) (mc ms : Nat) (free : Addr → Prop) : Array Value → State → Outcome → State → Prop := fun a st o t =>
  (Qc a st o t ∧ ∃ L, FrameEnd st o t L mc ms ∧ ∀ q ∈ L, free q.base) ∨ ∃ q, o = .threw q ∧ vx_T XC st q t mc ms free
/-- a callee that returns or throws -/
def vx_Met (l : Launch) (y : MethodName) (ws : List Cond) (rm : Room) (Pc : Array Value → State → Prop) (Qc : Array Value → State → Outcome → State → Prop) (XC : String → State → State → Prop) (mc ms : Nat) (free : Addr → Prop) : Prop :=
  MetFree l y (headSpec ws rm) Pc (fun _ _ _ _ _ => True) (vx_Q Qc XC mc ms free)
def vx_Post (XC : String → State → State → Prop) (mc ms : Nat) (free : Addr → Prop) : Pt → Array Value → Addr → Pt → Prop := fun A a q B =>
  ∃ (g : JFrame) (mk : MethodId) (t : State) (L : List Loc) (E : String) (ce : Cell), B.U.heap = t.heap ∧ B.U.vm = t.vm ∧ XC E (A.U.calling g mk a) t ∧ t.heap[q]? = some ce ∧ ce.vm = .none ∧ A.U.vm.findClass E = some ce.cls ∧ B.locs = A.locs ++ L ∧ (∀ z ∈ L, free z.base) ∧ B.cells = A.cells + mc ∧ B.slots = A.slots + ms
def vx_Back (l : Launch) (R : Room) (p : Program) (e : Env) (below : List Frame) (s : State) (sargs : Array Value) (y : MethodName) (len W9 : Nat)
    (Pre : Pt → Array Value → Prop) (Post : Pt → Array Value → Option Value → Pt → Prop) (PostX : Pt → Array Value → Addr → Pt → Prop) : Prop :=
  ∀ (m : MethodId) (meth : Method) (c : Code) (A : Pt) (g : JFrame) (ig : Instr) (mk : MethodId) (a : Array Value),
    Stand p l e R s m sargs below meth c A.U A.locs A.cells A.slots → g.method = m → g.locals.size = c.maxLocals → decode c.code g.pc = .ok (ig, len) →
    2 * g.monitorRoom + (g.stack.map fun v => v.category).sum ≤ W9 → A.U.methodNamed? y = some mk → Pre A a →
    (∃ (v : Option Value) (B : Pt), Stand p l e R s m sargs below meth c B.U B.locs B.cells B.slots ∧ Post A a v B ∧
      Steps p.tables e below (doInvoke e (A.U.setTop g) [] mk a).1 (B.U.setTop { g with pc := g.pc + len, stack := v.toList ++ g.stack })) ∨
    (∃ (q : Addr) (B : Pt), Stand p l e R s m sargs below meth c B.U B.locs B.cells B.slots ∧ PostX A a q B ∧
      Steps p.tables e below (doInvoke e (A.U.setTop g) [] mk a).1 ((B.U.setTop g).pushFrame (.throwing q)))
section Payer
variable {l : Launch} {R : Room} {p : Program} {e : Env} {below : List Frame} {s : State} {sargs : Array Value} {y : MethodName} {len W9 : Nat}
theorem vx_back {ws : List Cond} {rm : Room} {Pc : Array Value → State → Prop} {Qc : Array Value → State → Outcome → State → Prop} {XC : String → State → State → Prop} {mc ms : Nat} {free : Addr → Prop} {bytes : ByteArray} {maxL : Nat} {ret : Option FieldType}
    (hM : vx_Met l y ws rm Pc Qc XC mc ms free) (hblind : FrameBlind Pc) (hrc : rm.cells = mc) (hrs : rm.slots = ms)
    (hframes : rm.frames + 1 ≤ R.frames) (hlocals : W9 + (maxL + 11) + rm.locals ≤ R.locals)
    (hws : ∀ w ∈ ws, ∀ a' U, s.WarmedH U.vm → w.before a' U = true) (hcode : Cond.code y bytes maxL ret ∈ ws) (hinit : ∀ a' U, s.WarmedH U.vm → (Cond.initialized y.cls).before a' U = true) :
    vx_Back l R p e below s sargs y len W9 (PreOf R mc ms Pc) (PostOf Qc mc ms free) (vx_Post XC mc ms free) := by
  intro m meth c A g ig mk a X hg hsize hdg hW hn hp
  have h1 : (headSpec ws rm).pre.before a A.U = true := atoms_intro fun w hw => hws w hw _ _ X.warmed
  have h2 : (Cond.code y bytes maxL ret).before a A.U = true := hws _ hcode _ _ X.warmed
  have h3 : (Cond.initialized y.cls).before a A.U = true := hinit _ _ X.warmed
  have h4 : A.cells + (headSpec ws rm).room.cells ≤ R.cells := by rw [show (headSpec ws rm).room.cells = mc from hrc]; exact hp.1
  have h5 : A.slots + (headSpec ws rm).room.slots ≤ R.slots := by rw [show (headSpec ws rm).room.slots = ms from hrs]; exact hp.2.1
  have hPc : Pc a (A.U.calling g mk a) := hblind _ _ _ _ hp.2.2
  obtain ⟨U, Ls, c0, s0⟩ := A
  dsimp only [Pt.U, Pt.locs, Pt.cells, Pt.slots] at h1 h2 h3 h4 h5 X hn hPc ⊢
  obtain ⟨methY, cY, hmY, hcY, -, hlY, -, -, -, -⟩ := Cond.code_spec hn h2
  obtain ⟨kY, hkY, -⟩ := className_of_methodNamed hn
  have hinitY : kY.init = .initialized := Cond.initialized_spec (findClass_of_methodNamed hn) hkY h3
  have h : At U g.method c below := by rw [hg]; exact X.here
  have hlocals9 : W9 + (maxL + 11) + (headSpec ws rm).room.locals ≤ R.locals := hlocals
  have happ : (headSpec ws rm).appliesLoose y e.platform (U.calling g mk a) = true :=
    Spec.appliesLoose_calling (g := g) h hdg hn hkY hinitY
      (X.room_calling (g := g) (R' := (headSpec ws rm).room) hsize hmY hcY hframes (by rw [hlY]; omega) h4 h5) h1
  obtain ⟨mid, hmid⟩ := h.above
  have hfr : (U.setTop g).frames = (.java g :: mid) ++ below := by rw [State.frames_setTop' g h.top, hmid]; rfl
  obtain ⟨o, s₂, hsteps, -, hend, hq⟩ := Steps.callFree hM p X.admits X.cas X.clock (acts := []) hfr happ hPc trivial
  have hq' : vx_Q Qc XC mc ms free a (U.calling g mk a) o s₂ := hq
  rw [State.frames_setTop' g h.top] at hend
  obtain ⟨g₀, hg0⟩ := Option.isSome_iff_exists.mp h.top
  obtain ⟨r, hr⟩ := State.topJava?_eq_some.mp hg0
  have hr' : (({ U with heap := s₂.heap, slotsUsed := s₂.slotsUsed } : State).setVm s₂.vm).frames = .java g₀ :: r := hr
  rcases hq' with ⟨hqc, L, hfe, hL⟩ | ⟨q, rfl, E, ce, L, hx, hce, hcv, hcl, hW₂, hsm, hL⟩
  · obtain ⟨⟨v, rfl⟩, hW₂, e2, q2, q3, q4, q5, q6⟩ := id hfe
    have e3 : s₂ = ({ (U.calling g mk a).setFrames s₂.frames with heap := s₂.heap, slotsUsed := s₂.slotsUsed } : State).setVm s₂.vm := by
      have : s₂ = ({ s₂ with vm := (U.calling g mk a).vm } : State).setVm s₂.vm := rfl
      rw [e2] at this
      exact this
    obtain ⟨c₂, i₂, len₂, hc₂, hd₂, hf₂⟩ := hend
    have hW' : U.WarmedH s₂.vm := hW₂
    have hcc : c₂ = c := by
      have h1 : s₂.code? g.method = U.code? g.method := by
        rw [State.code?_eq, State.code?_eq, hW'.alike.method?]
      exact Option.some.inj (hc₂.symm.trans (h1.trans h.code))
    subst hcc
    have hlen : len₂ = len := by rw [hdg] at hd₂; cases hd₂; rfl
    subst hlen
    have hs₂ : s₂ = (({ U with heap := s₂.heap, slotsUsed := s₂.slotsUsed } : State).setVm s₂.vm).setTop { g with pc := g.pc + len₂, stack := v.toList ++ g.stack } := by
      refine e3.trans ?_
      rw [hf₂, State.calling_eq h.top, State.setFrames_setFrames, State.setTop_of_frames _ hr', hr]
      rfl
    have hsame : U.sameButNew ({ U with heap := s₂.heap, slotsUsed := s₂.slotsUsed } : State) L mc ms := by
      refine ⟨?_, q2, q3, q4, q5, q6⟩
      obtain ⟨t, ht, -⟩ := State.frames_cons hr
      show ({ U with heap := s₂.heap, slotsUsed := s₂.slotsUsed } : State) = { U.setFrames U.frames with heap := s₂.heap, slotsUsed := s₂.slotsUsed }
      rw [State.setFrames_self ht]
    subst hg
    refine Or.inl ⟨v, ⟨(({ U with heap := s₂.heap, slotsUsed := s₂.slotsUsed } : State).setVm s₂.vm), Ls ++ L, c0 + mc, s0 + ms⟩,
      ⟨X.admits, X.cas, X.clock, X.frames, X.room, X.hears, X.method, X.code, (X.here.setHeapUsed s₂.heap s₂.slotsUsed).setVm hW'.alike, X.tail, State.WarmedH.trans X.warmed hW', X.limits, X.bytes, X.same.trans (hsame.setVm s.vm)⟩,
      ⟨g, mk, s₂, L, rfl, rfl, hqc, rfl, hL, rfl, rfl⟩, ?_⟩
    show Steps p.tables e below _ ((({ U with heap := s₂.heap, slotsUsed := s₂.slotsUsed } : State).setVm s₂.vm).setTop { g with pc := g.pc + len₂, stack := v.toList ++ g.stack })
    rw [← hs₂]
    exact hsteps
  · obtain ⟨e2, q2, q3, q4, q5, q6⟩ := id hsm
    have e3 : s₂ = ({ (U.calling g mk a).setFrames s₂.frames with heap := s₂.heap, slotsUsed := s₂.slotsUsed } : State).setVm s₂.vm := by
      have : s₂ = ({ s₂ with vm := (U.calling g mk a).vm } : State).setVm s₂.vm := rfl
      rw [e2] at this
      exact this
    have hf₂ : s₂.frames = .throwing q :: .java g :: U.frames.tail := hend
    have hW' : U.WarmedH s₂.vm := hW₂
    have hs₂ : s₂ = ((({ U with heap := s₂.heap, slotsUsed := s₂.slotsUsed } : State).setVm s₂.vm).setTop g).pushFrame (.throwing q) := by
      refine e3.trans ?_
      rw [hf₂, State.calling_eq h.top, State.setFrames_setFrames, State.pushFrame, State.frames_setTop _ hr', State.setTop_of_frames _ hr', State.setFrames_setFrames, hr]
      rfl
    have hsame : U.sameButNew ({ U with heap := s₂.heap, slotsUsed := s₂.slotsUsed } : State) L mc ms := by
      refine ⟨?_, q2, q3, q4, q5, q6⟩
      obtain ⟨t, ht, -⟩ := State.frames_cons hr
      show ({ U with heap := s₂.heap, slotsUsed := s₂.slotsUsed } : State) = { U.setFrames U.frames with heap := s₂.heap, slotsUsed := s₂.slotsUsed }
      rw [State.setFrames_self ht]
    subst hg
    refine Or.inr ⟨q, ⟨(({ U with heap := s₂.heap, slotsUsed := s₂.slotsUsed } : State).setVm s₂.vm), Ls ++ L, c0 + mc, s0 + ms⟩,
      ⟨X.admits, X.cas, X.clock, X.frames, X.room, X.hears, X.method, X.code, (X.here.setHeapUsed s₂.heap s₂.slotsUsed).setVm hW'.alike, X.tail, State.WarmedH.trans X.warmed hW', X.limits, X.bytes, X.same.trans (hsame.setVm s.vm)⟩,
      ⟨g, mk, s₂, L, E, ce, rfl, rfl, hx, hce, hcv, hcl, rfl, hL, rfl, rfl⟩, ?_⟩
    show Steps p.tables e below _ (((({ U with heap := s₂.heap, slotsUsed := s₂.slotsUsed } : State).setVm s₂.vm).setTop g).pushFrame (.throwing q))
    rw [← hs₂]
    exact hsteps
end Payer
section Calls
variable {p : Program} {l : Launch} {e : Env} {R : Room} {s : State} {m : MethodId} {args : Array Value} {below : List Frame} {meth : Method} {c : Code} {T : State} {locs : List Loc} {cells slots : Nat}
theorem vx_callV (X : Stand p l e R s m args below meth c T locs cells slots) (hexec : p.tables.exec = Jvm.exec) {own C : String} {index : Nat} {y : MethodName} {bytes : ByteArray} {maxL : Nat} {ret : Option FieldType}
    (hown : s.vm.findClass own = some m.cls) (hlink : (Cond.methodLink own index y).before args s = true) (hinst : (Cond.instanceMethod y).before args s = true) (hsel : (Cond.selects C y y).before args s = true)
    (hcode : (Cond.code y bytes maxL ret).before args s = true) (hy : y.cls ≠ "java/lang/invoke/MethodHandle" ∧ y.cls ≠ "java/lang/invoke/VarHandle")
    {W9 : Nat} {Pre : Pt → Array Value → Prop} {Post : Pt → Array Value → Option Value → Pt → Prop} {PostX : Pt → Array Value → Addr → Pt → Prop} (hK : vx_Back l R p e below s args y 3 W9 Pre Post PostX)
    {b : Addr} {cellB : Cell} (hcell : T.heap[b]? = some cellB) (hobj : cellB.vm.isStatics = false) (hcls : s.vm.findClass C = some cellB.cls)
    {g : JFrame} (hg : g.method = m) (hsize : g.locals.size = c.maxLocals) {argsL rest : List Value} (hlen : ∀ sig, parseMethodDescriptor y.desc = some sig → argsL.length = sig.parameters.length)
    (hstack : g.stack = argsL.reverse ++ .ref b :: rest) (hW : 2 * g.monitorRoom + (rest.map fun v => v.category).sum ≤ W9) (hdg : decode c.code g.pc = .ok (.invokevirtual index, 3))
    (hpre : ∀ vm₁, s.WarmedH vm₁ → Pre ⟨T.setVm vm₁, locs, cells, slots⟩ (Value.ref b :: argsL).toArray) :
    (∃ (v : Option Value) (vm₁ : Vm) (B : Pt), s.WarmedH vm₁ ∧ Stand p l e R s m args below meth c B.U B.locs B.cells B.slots ∧ Post ⟨T.setVm vm₁, locs, cells, slots⟩ (Value.ref b :: argsL).toArray v B ∧
      ∀ target, Steps p.tables e below (B.U.setTop { g with pc := g.pc + 3, stack := v.toList ++ rest }) target → Steps p.tables e below (T.setTop g) target) ∨
    (∃ (q : Addr) (vm₁ : Vm) (B : Pt), s.WarmedH vm₁ ∧ Stand p l e R s m args below meth c B.U B.locs B.cells B.slots ∧ PostX ⟨T.setVm vm₁, locs, cells, slots⟩ (Value.ref b :: argsL).toArray q B ∧
      Steps p.tables e below (T.setTop g) ((B.U.setTop { g with stack := rest }).pushFrame (.throwing q))) := by
  obtain ⟨mk, methM, hnamed, hmethM, hstM, habM⟩ := Cond.instanceMethod_spec hinst
  obtain ⟨methM', cM, hmethM', -, -, -, -, -, -, hsigM⟩ := Cond.code_spec hnamed hcode
  cases hmethM.symm.trans hmethM'
  obtain ⟨c2, r2, m2, q1, q2, q3, q4, kP, hkP, hkPi⟩ := Cond.selects_spec hsel
  cases hcls.symm.trans q1
  cases (State.methodFound?_of_named hnamed hy).symm.trans q2
  cases hnamed.symm.trans q3
  have hselP : selectMethod e.platform s.vm cellB.cls mk = .method mk := by rw [Launch.admits_selectMethod X.admits]; exact q4
  obtain ⟨vm₁, X₁, hstep₁⟩ := X.invokevirtual hexec hown hlink hnamed hmethM hstM hkP hkPi hy (a := b) (cell := cellB) hcell
    (fun z h => by rw [h] at hobj; cases hobj) hselP hmethM habM hkP hkPi (g := g) hg (argsL := argsL) (rest := rest) (hlen _ hsigM) hstack hdg
  rcases hK m meth c ⟨T.setVm vm₁, locs, cells, slots⟩ { g with stack := rest } (.invokevirtual index) mk (Value.ref b :: argsL).toArray X₁ hg hsize hdg hW (X₁.named hnamed) (hpre vm₁ X₁.warmed) with ⟨v, B, X', hpost, hsteps⟩ | ⟨q, B, X', hpost, hsteps⟩
  · exact Or.inl ⟨v, vm₁, B, X₁.warmed, X', hpost, fun target h => hstep₁ _ fun acts => by rw [doInvoke_state]; exact hsteps.trans h⟩
  · exact Or.inr ⟨q, vm₁, B, X₁.warmed, X', hpost, hstep₁ _ fun acts => by rw [doInvoke_state]; exact hsteps⟩
theorem vx_callS (X : Stand p l e R s m args below meth c T locs cells slots) (hexec : p.tables.exec = Jvm.exec) {own : String} {index : Nat} {y : MethodName} {bytes : ByteArray} {maxL : Nat} {ret : Option FieldType}
    (hown : s.vm.findClass own = some m.cls) (hlink : (Cond.methodLink own index y).before args s = true) (hstat : (Cond.static y).before args s = true) (hinit : (Cond.initialized y.cls).before args s = true)
    (hcode : (Cond.code y bytes maxL ret).before args s = true) (hy : y.cls ≠ "java/lang/invoke/MethodHandle" ∧ y.cls ≠ "java/lang/invoke/VarHandle")
    {W9 : Nat} {Pre : Pt → Array Value → Prop} {Post : Pt → Array Value → Option Value → Pt → Prop} {PostX : Pt → Array Value → Addr → Pt → Prop} (hK : vx_Back l R p e below s args y 3 W9 Pre Post PostX)
    {g : JFrame} (hg : g.method = m) (hsize : g.locals.size = c.maxLocals) {argsL rest : List Value} (hlen : ∀ sig, parseMethodDescriptor y.desc = some sig → argsL.length = sig.parameters.length)
    (hstack : g.stack = argsL.reverse ++ rest) (hW : 2 * g.monitorRoom + (rest.map fun v => v.category).sum ≤ W9) (hdg : decode c.code g.pc = .ok (.invokestatic index, 3))
    (hpre : ∀ vm₁, s.WarmedH vm₁ → Pre ⟨T.setVm vm₁, locs, cells, slots⟩ argsL.toArray) :
    (∃ (v : Option Value) (vm₁ : Vm) (B : Pt), s.WarmedH vm₁ ∧ Stand p l e R s m args below meth c B.U B.locs B.cells B.slots ∧ Post ⟨T.setVm vm₁, locs, cells, slots⟩ argsL.toArray v B ∧
      ∀ target, Steps p.tables e below (B.U.setTop { g with pc := g.pc + 3, stack := v.toList ++ rest }) target → Steps p.tables e below (T.setTop g) target) ∨
    (∃ (q : Addr) (vm₁ : Vm) (B : Pt), s.WarmedH vm₁ ∧ Stand p l e R s m args below meth c B.U B.locs B.cells B.slots ∧ PostX ⟨T.setVm vm₁, locs, cells, slots⟩ argsL.toArray q B ∧
      Steps p.tables e below (T.setTop g) ((B.U.setTop { g with stack := rest }).pushFrame (.throwing q))) := by
  obtain ⟨mk, hnamed⟩ := Cond.code_named hcode
  obtain ⟨methM, cM, hmethM, -, -, -, -, -, -, hsigM⟩ := Cond.code_spec hnamed hcode
  have hstatic : methM.isStatic = true := Cond.static_spec hnamed hmethM hstat
  obtain ⟨kP, hkP, -⟩ := className_of_methodNamed hnamed
  have hinitP : kP.init = .initialized := Cond.initialized_spec (findClass_of_methodNamed hnamed) hkP hinit
  obtain ⟨vm₁, X₁, hstep₁⟩ := X.invokestatic hexec hown hlink hnamed hmethM hstatic hkP hinitP hy (g := g) hg (argsL := argsL) (rest := rest) (hlen _ hsigM) hstack hdg
  rcases hK m meth c ⟨T.setVm vm₁, locs, cells, slots⟩ { g with stack := rest } (.invokestatic index) mk argsL.toArray X₁ hg hsize hdg hW (X₁.named hnamed) (hpre vm₁ X₁.warmed) with ⟨v, B, X', hpost, hsteps⟩ | ⟨q, B, X', hpost, hsteps⟩
  · exact Or.inl ⟨v, vm₁, B, X₁.warmed, X', hpost, fun target h => hstep₁ _ fun acts => by rw [doInvoke_state]; exact hsteps.trans h⟩
  · exact Or.inr ⟨q, vm₁, B, X₁.warmed, X', hpost, hstep₁ _ fun acts => by rw [doInvoke_state]; exact hsteps⟩
end Calls
theorem vx_cls {s : State} {T : State} {vm₁ : Vm} {E : String} {k : ClassId} (hW : s.WarmedH vm₁) (h : (T.setVm vm₁).vm.findClass E = some k) : s.vm.findClass E = some k := by
  have h1 : vm₁.findClass E = some k := h
  rw [hW.alike.findClass] at h1
  exact h1
/-- the method's frame g, with q thrown over it -/
def vx_W (p : Program) (l : Launch) (e : Env) (R : Room) (s : State) (m : MethodId) (args : Array Value) (below : List Frame) (meth : Method) (c : Code) (H : Heap) (locs : List Loc) (cells slots : Nat) (Q : State → Prop) (g : JFrame) (q : Addr) : Prop :=
  ∀ T : State, T.heap = H → Stand p l e R s m args below meth c T locs cells slots → ∃ t, Steps p.tables e below ((T.setTop g).pushFrame (.throwing q)) t ∧ Q t
def vx_Run (p : Program) (l : Launch) (e : Env) (R : Room) (s : State) (m : MethodId) (args : Array Value) (below : List Frame) (meth : Method) (c : Code) (H : Heap) (locs : List Loc) (cells slots mc ms : Nat) (g : JFrame) (rest : List Value) (Qa : State → Outcome → State → Prop) (XC : String → State → State → Prop) (free : Addr → Prop) : Prop :=
  ∀ T : State, T.heap = H → Stand p l e R s m args below meth c T locs cells slots →
    (∃ (v : Option Value) (st₀ t T' : State) (L : List Loc), st₀.heap = H ∧ Stand p l e R s m args below meth c T' (locs ++ L) (cells + mc) (slots + ms) ∧ (∀ q ∈ L, free q.base) ∧ T'.heap = t.heap ∧ T'.vm = t.vm ∧ Qa st₀ (.returned v) t ∧
      Goes p e below T g T' { g with pc := g.pc + 3, stack := v.toList ++ rest }) ∨
    (∃ (q : Addr) (st₀ t T' : State) (L : List Loc) (E : String) (ce : Cell), st₀.heap = H ∧ Stand p l e R s m args below meth c T' (locs ++ L) (cells + mc) (slots + ms) ∧ (∀ z ∈ L, free z.base) ∧ T'.heap = t.heap ∧ T'.vm = t.vm ∧ XC E st₀ t ∧ t.heap[q]? = some ce ∧ ce.vm = .none ∧ s.vm.findClass E = some ce.cls ∧
      Steps p.tables e below (T.setTop g) ((T'.setTop { g with stack := rest }).pushFrame (.throwing q)))
def vx_X {S : Type} (px : S → Prop) (B : String → S → State → Prop) (A : Nat → Prop) : String → State → State → Prop := fun E st t => ∃ u : S, px u ∧ B E u t ∧ va_F A st t
section Runs
variable {p : Program} {l : Launch} {e : Env} {R : Room} {s : State} {m : MethodId} {args : Array Value} {below : List Frame} {meth : Method} {c : Code} {H : Heap} {locs : List Loc} {cells slots : Nat}
variable {y : MethodName} {bytes cc : ByteArray} {maxL nL mc ms n index : Nat} {ret : Option FieldType} {ws : List Cond} {rm : Room} {Pc : Array Value → State → Prop} {Qc : Array Value → State → Outcome → State → Prop} {XC : String → State → State → Prop} {free : Addr → Prop} {Ts : List Cond} {own C : String} {b : Addr} {As rest : List Value} {g : JFrame}
theorem vx_callBack (cb : CallB R s args own index y bytes maxL ret ws rm mc ms n) (hM : vx_Met l y ws rm Pc Qc XC mc ms free) (hbl : FrameBlind Pc) : vx_Back l R p e below s args y 3 8 (PreOf R mc ms Pc) (PostOf Qc mc ms free) (vx_Post XC mc ms free) := by
  obtain ⟨hrc, hrs, hfr, hlo, hws, hcw, -, hini, -⟩ := cb
  exact vx_back (bytes := bytes) (maxL := maxL) (ret := ret) hM hbl hrc hrs hfr hlo hws hcw (fun a' U hW => word_at hW (Or.inl (by first | rfl | simp [Cond.onTables, Cond.keeps, Cond.steady])) hini)
theorem vx_runV (S : CallFix p m c cc nL s args Ts own) (hM : vx_Met l y ws rm Pc Qc XC mc ms free) (cw : CallW R s args own C index y bytes maxL ret ws rm mc ms n) (hp : PreV s H C b Pc As)
    (hg : g.method = m) (hn : As.length = n) (hsize : g.locals.size = nL) (hstack : g.stack = As.reverse ++ .ref b :: rest) (hW : 2 * g.monitorRoom + (rest.map fun v => v.category).sum ≤ 8) (hdg : decode cc g.pc = .ok (.invokevirtual index, 3)) (hf : cells + mc ≤ R.cells ∧ slots + ms ≤ R.slots) :
    vx_Run p l e R s m args below meth c H locs cells slots mc ms g rest (Qc (Value.ref b :: As).toArray) XC free := by
  have hK : vx_Back l R p e below s args y 3 8 (PreOf R mc ms Pc) (PostOf Qc mc ms free) (vx_Post XC mc ms free) := vx_callBack cw.1 hM hp.1
  obtain ⟨⟨-, -, -, -, -, -, hcode, -, hy, hlen, hl⟩, hin, hse⟩ := cw
  obtain ⟨hx, hb, hml, ho, -⟩ := S
  obtain ⟨-, ⟨cellB, hcB, hoB, hclB⟩, hPc⟩ := hp
  intro T hT X
  rcases vx_callV X hx (C := C) (bytes := bytes) (maxL := maxL) (ret := ret) ho hl hin hse hcode hy hK (by rw [hT]; exact hcB) hoB hclB hg (hsize.trans hml.symm) (argsL := As) (rest := rest) (fun sig h => hn.trans (hlen sig h)) hstack hW (by rw [hb]; exact hdg)
    (fun vm₁ hW₁ => ⟨hf.1, hf.2, hPc (T.setVm vm₁) hT hW₁⟩) with ⟨v, vm₁, ⟨U', l2, c2, s2⟩, hW₁, X', ⟨g', mk, t, L, e1, e2, hq, h1, hL, h2, h3⟩, st⟩ | ⟨q, vm₁, ⟨U', l2, c2, s2⟩, hW₁, X', ⟨g', mk, t, L, E, ce, e1, e2, hq, hce, hcv, hcl, h1, hL, h2, h3⟩, st⟩
  · dsimp only [Pt.U, Pt.locs, Pt.cells, Pt.slots] at X' e1 e2 h1 h2 h3 st
    subst h1; subst h2; subst h3
    exact Or.inl ⟨v, (T.setVm vm₁).calling g' mk (Value.ref b :: As).toArray, t, U', L, hT, X', hL, e1, e2, hq, st⟩
  · dsimp only [Pt.U, Pt.locs, Pt.cells, Pt.slots] at X' e1 e2 h1 h2 h3 st hcl
    subst h1; subst h2; subst h3
    exact Or.inr ⟨q, (T.setVm vm₁).calling g' mk (Value.ref b :: As).toArray, t, U', L, E, ce, hT, X', hL, e1, e2, hq, hce, hcv, vx_cls hW₁ hcl, st⟩
theorem vx_runS (S : CallFix p m c cc nL s args Ts own) (hM : vx_Met l y ws rm Pc Qc XC mc ms free) (cw : CallB R s args own index y bytes maxL ret ws rm mc ms n ∧ (Cond.static y).before args s = true) (hp : PreS s H Pc As)
    (hg : g.method = m) (hn : As.length = n) (hsize : g.locals.size = nL) (hstack : g.stack = As.reverse ++ rest) (hW : 2 * g.monitorRoom + (rest.map fun v => v.category).sum ≤ 8) (hdg : decode cc g.pc = .ok (.invokestatic index, 3)) (hf : cells + mc ≤ R.cells ∧ slots + ms ≤ R.slots) :
    vx_Run p l e R s m args below meth c H locs cells slots mc ms g rest (Qc As.toArray) XC free := by
  have hK : vx_Back l R p e below s args y 3 8 (PreOf R mc ms Pc) (PostOf Qc mc ms free) (vx_Post XC mc ms free) := vx_callBack cw.1 hM hp.1
  obtain ⟨⟨-, -, -, -, -, -, hcode, hini, hy, hlen, hl⟩, hstt⟩ := cw
  obtain ⟨hx, hb, hml, ho, -⟩ := S
  intro T hT X
  rcases vx_callS X hx (bytes := bytes) (maxL := maxL) (ret := ret) ho hl hstt hini hcode hy hK hg (hsize.trans hml.symm) (argsL := As) (rest := rest) (fun sig h => hn.trans (hlen sig h)) hstack hW (by rw [hb]; exact hdg)
    (fun vm₁ hW₁ => ⟨hf.1, hf.2, hp.2 (T.setVm vm₁) hT hW₁⟩) with ⟨v, vm₁, ⟨U', l2, c2, s2⟩, hW₁, X', ⟨g', mk, t, L, e1, e2, hq, h1, hL, h2, h3⟩, st⟩ | ⟨q, vm₁, ⟨U', l2, c2, s2⟩, hW₁, X', ⟨g', mk, t, L, E, ce, e1, e2, hq, hce, hcv, hcl, h1, hL, h2, h3⟩, st⟩
  · dsimp only [Pt.U, Pt.locs, Pt.cells, Pt.slots] at X' e1 e2 h1 h2 h3 st
    subst h1; subst h2; subst h3
    exact Or.inl ⟨v, (T.setVm vm₁).calling g' mk As.toArray, t, U', L, hT, X', hL, e1, e2, hq, st⟩
  · dsimp only [Pt.U, Pt.locs, Pt.cells, Pt.slots] at X' e1 e2 h1 h2 h3 st hcl
    subst h1; subst h2; subst h3
    exact Or.inr ⟨q, (T.setVm vm₁).calling g' mk As.toArray, t, U', L, E, ce, hT, X', hL, e1, e2, hq, hce, hcv, vx_cls hW₁ hcl, st⟩
end Runs
section Rows
variable {p : Program} {l : Launch} {e : Env} {R : Room} {s : State} {m : MethodId} {args : Array Value} {below : List Frame} {meth : Method} {c : Code} {H : Heap} {locs : List Loc} {cells slots : Nat} {Q : State → Prop}
variable {mc ms : Nat} {free : Addr → Prop} {A0 A1 : Nat → Prop} {H0 : Heap} {a : Array Value} {pc : Nat} {ls : Array Slot} {st0 rest : List Value}
theorem vx_keep {st₀ t T' : State} {L : List Loc} (h0 : st₀.heap = H) (e1 : T'.heap = t.heap) (hS : va_S A0 H0 H locs) (hA : ∀ q, q < H.size → A1 q → A0 q) (hf : ∀ q, free q → A0 q) (hL : ∀ q ∈ L, free q.base) (hF : va_F A1 st₀ t) :
    H.size ≤ T'.heap.size ∧ (∀ q : Nat, q < H.size → ¬ A1 q → T'.heap[q]? = H[q]?) ∧ va_S A0 H0 T'.heap (locs ++ L) := by
  obtain ⟨hz, hk⟩ := hF
  rw [h0] at hz hk
  exact ⟨by rw [e1]; exact hz, fun q h1 h2 => by rw [e1]; exact hk q h1 h2,
    ⟨Nat.le_trans hS.1 (by rw [e1]; exact hz), fun q h1 h2 => by rw [e1, hk q (Nat.lt_of_lt_of_le h1 hS.1) (fun z => h2 (hA q (Nat.lt_of_lt_of_le h1 hS.1) z))]; exact hS.2.1 q h1 h2, fun q hq => by
      rcases List.mem_append.mp hq with h | h
      · exact hS.2.2 q h
      · exact hf _ (hL q h)⟩⟩
theorem vx_calli {S SX : Type} {post : Int32 → S → Prop} {px : SX → Prop} {B : S → State → Prop} {BX : String → SX → State → Prop} {AX : Nat → Prop} (hr : vx_Run p l e R s m args below meth c H locs cells slots mc ms (F0 m pc ls st0) rest (va_Qi post B A1 a) (vx_X px BX AX) free) (hS : va_S A0 H0 H locs) (hA : ∀ q, q < H.size → A1 q → A0 q) (hf : ∀ q, free q → A0 q) (hAX : ∀ q, q < H.size → AX q → A0 q)
    (kx : ∀ (E : String) (ce : Cell) (q9 : Addr) (u : SX) (t : State) (H1 : Heap) (locs1 : List Loc), t.heap = H1 → s.vm.Alike t.vm → px u → BX E u t → H.size ≤ H1.size → (∀ q : Nat, q < H.size → ¬ AX q → H1[q]? = H[q]?) → va_S A0 H0 H1 locs1 → H1[q9]? = some ce → ce.vm = .none → s.vm.findClass E = some ce.cls → vx_W p l e R s m args below meth c H1 locs1 (cells + mc) (slots + ms) Q (F0 m pc ls rest) q9)
    (kk : ∀ (r : Int32) (u : S) (t : State) (H1 : Heap) (locs1 : List Loc), t.heap = H1 → s.vm.Alike t.vm → post r u → B u t → H.size ≤ H1.size → (∀ q : Nat, q < H.size → ¬ A1 q → H1[q]? = H[q]?) → va_S A0 H0 H1 locs1 → W p l e R s m args below meth c H1 locs1 (cells + mc) (slots + ms) Q (F0 m (pc + 3) ls (.int r :: rest))) : W p l e R s m args below meth c H locs cells slots Q (F0 m pc ls st0) := by
  intro T hT X
  rcases hr T hT X with ⟨v, st₀, t, T', L, h0, X', hL, e1, e2, ⟨⟨r, u, hv, hp, hb⟩, hF⟩, st⟩ | ⟨q, st₀, t, T', L, E, ce, h0, X', hL, e1, e2, ⟨u, hp, hb, hF⟩, hce, hcv, hcl, st⟩
  · cases hv
    obtain ⟨k1, k2, k3⟩ := vx_keep h0 e1 hS hA hf hL hF
    obtain ⟨t2, a1, b1⟩ := kk r u t T'.heap (locs ++ L) e1.symm (by rw [← e2]; exact X'.warmed.alike) hp hb k1 k2 k3 T' rfl X'
    exact ⟨t2, st t2 a1, b1⟩
  · obtain ⟨k1, k2, k3⟩ := vx_keep h0 e1 hS hAX hf hL hF
    obtain ⟨t2, a1, b1⟩ := kx E ce q u t T'.heap (locs ++ L) e1.symm (by rw [← e2]; exact X'.warmed.alike) hp hb k1 k2 k3 (by rw [e1]; exact hce) hcv hcl T' rfl X'
    exact ⟨t2, st.trans a1, b1⟩
theorem vx_calll {S SX : Type} {post : Int64 → S → Prop} {px : SX → Prop} {B : S → State → Prop} {BX : String → SX → State → Prop} {AX : Nat → Prop} (hr : vx_Run p l e R s m args below meth c H locs cells slots mc ms (F0 m pc ls st0) rest (va_Ql post B A1 a) (vx_X px BX AX) free) (hS : va_S A0 H0 H locs) (hA : ∀ q, q < H.size → A1 q → A0 q) (hf : ∀ q, free q → A0 q) (hAX : ∀ q, q < H.size → AX q → A0 q)
    (kx : ∀ (E : String) (ce : Cell) (q9 : Addr) (u : SX) (t : State) (H1 : Heap) (locs1 : List Loc), t.heap = H1 → s.vm.Alike t.vm → px u → BX E u t → H.size ≤ H1.size → (∀ q : Nat, q < H.size → ¬ AX q → H1[q]? = H[q]?) → va_S A0 H0 H1 locs1 → H1[q9]? = some ce → ce.vm = .none → s.vm.findClass E = some ce.cls → vx_W p l e R s m args below meth c H1 locs1 (cells + mc) (slots + ms) Q (F0 m pc ls rest) q9)
    (kk : ∀ (r : Int64) (u : S) (t : State) (H1 : Heap) (locs1 : List Loc), t.heap = H1 → s.vm.Alike t.vm → post r u → B u t → H.size ≤ H1.size → (∀ q : Nat, q < H.size → ¬ A1 q → H1[q]? = H[q]?) → va_S A0 H0 H1 locs1 → W p l e R s m args below meth c H1 locs1 (cells + mc) (slots + ms) Q (F0 m (pc + 3) ls (.long r :: rest))) : W p l e R s m args below meth c H locs cells slots Q (F0 m pc ls st0) := by
  intro T hT X
  rcases hr T hT X with ⟨v, st₀, t, T', L, h0, X', hL, e1, e2, ⟨⟨r, u, hv, hp, hb⟩, hF⟩, st⟩ | ⟨q, st₀, t, T', L, E, ce, h0, X', hL, e1, e2, ⟨u, hp, hb, hF⟩, hce, hcv, hcl, st⟩
  · cases hv
    obtain ⟨k1, k2, k3⟩ := vx_keep h0 e1 hS hA hf hL hF
    obtain ⟨t2, a1, b1⟩ := kk r u t T'.heap (locs ++ L) e1.symm (by rw [← e2]; exact X'.warmed.alike) hp hb k1 k2 k3 T' rfl X'
    exact ⟨t2, st t2 a1, b1⟩
  · obtain ⟨k1, k2, k3⟩ := vx_keep h0 e1 hS hAX hf hL hF
    obtain ⟨t2, a1, b1⟩ := kx E ce q u t T'.heap (locs ++ L) e1.symm (by rw [← e2]; exact X'.warmed.alike) hp hb k1 k2 k3 (by rw [e1]; exact hce) hcv hcl T' rfl X'
    exact ⟨t2, st.trans a1, b1⟩
theorem vx_callf {S SX : Type} {post : UInt32 → S → Prop} {px : SX → Prop} {B : S → State → Prop} {BX : String → SX → State → Prop} {AX : Nat → Prop} (hr : vx_Run p l e R s m args below meth c H locs cells slots mc ms (F0 m pc ls st0) rest (va_Qf post B A1 a) (vx_X px BX AX) free) (hS : va_S A0 H0 H locs) (hA : ∀ q, q < H.size → A1 q → A0 q) (hf : ∀ q, free q → A0 q) (hAX : ∀ q, q < H.size → AX q → A0 q)
    (kx : ∀ (E : String) (ce : Cell) (q9 : Addr) (u : SX) (t : State) (H1 : Heap) (locs1 : List Loc), t.heap = H1 → s.vm.Alike t.vm → px u → BX E u t → H.size ≤ H1.size → (∀ q : Nat, q < H.size → ¬ AX q → H1[q]? = H[q]?) → va_S A0 H0 H1 locs1 → H1[q9]? = some ce → ce.vm = .none → s.vm.findClass E = some ce.cls → vx_W p l e R s m args below meth c H1 locs1 (cells + mc) (slots + ms) Q (F0 m pc ls rest) q9)
    (kk : ∀ (r : UInt32) (u : S) (t : State) (H1 : Heap) (locs1 : List Loc), t.heap = H1 → s.vm.Alike t.vm → post r u → B u t → H.size ≤ H1.size → (∀ q : Nat, q < H.size → ¬ A1 q → H1[q]? = H[q]?) → va_S A0 H0 H1 locs1 → W p l e R s m args below meth c H1 locs1 (cells + mc) (slots + ms) Q (F0 m (pc + 3) ls (.float r :: rest))) : W p l e R s m args below meth c H locs cells slots Q (F0 m pc ls st0) := by
  intro T hT X
  rcases hr T hT X with ⟨v, st₀, t, T', L, h0, X', hL, e1, e2, ⟨⟨r, u, hv, hp, hb⟩, hF⟩, st⟩ | ⟨q, st₀, t, T', L, E, ce, h0, X', hL, e1, e2, ⟨u, hp, hb, hF⟩, hce, hcv, hcl, st⟩
  · cases hv
    obtain ⟨k1, k2, k3⟩ := vx_keep h0 e1 hS hA hf hL hF
    obtain ⟨t2, a1, b1⟩ := kk r u t T'.heap (locs ++ L) e1.symm (by rw [← e2]; exact X'.warmed.alike) hp hb k1 k2 k3 T' rfl X'
    exact ⟨t2, st t2 a1, b1⟩
  · obtain ⟨k1, k2, k3⟩ := vx_keep h0 e1 hS hAX hf hL hF
    obtain ⟨t2, a1, b1⟩ := kx E ce q u t T'.heap (locs ++ L) e1.symm (by rw [← e2]; exact X'.warmed.alike) hp hb k1 k2 k3 (by rw [e1]; exact hce) hcv hcl T' rfl X'
    exact ⟨t2, st.trans a1, b1⟩
theorem vx_calld {S SX : Type} {post : UInt64 → S → Prop} {px : SX → Prop} {B : S → State → Prop} {BX : String → SX → State → Prop} {AX : Nat → Prop} (hr : vx_Run p l e R s m args below meth c H locs cells slots mc ms (F0 m pc ls st0) rest (va_Qd post B A1 a) (vx_X px BX AX) free) (hS : va_S A0 H0 H locs) (hA : ∀ q, q < H.size → A1 q → A0 q) (hf : ∀ q, free q → A0 q) (hAX : ∀ q, q < H.size → AX q → A0 q)
    (kx : ∀ (E : String) (ce : Cell) (q9 : Addr) (u : SX) (t : State) (H1 : Heap) (locs1 : List Loc), t.heap = H1 → s.vm.Alike t.vm → px u → BX E u t → H.size ≤ H1.size → (∀ q : Nat, q < H.size → ¬ AX q → H1[q]? = H[q]?) → va_S A0 H0 H1 locs1 → H1[q9]? = some ce → ce.vm = .none → s.vm.findClass E = some ce.cls → vx_W p l e R s m args below meth c H1 locs1 (cells + mc) (slots + ms) Q (F0 m pc ls rest) q9)
    (kk : ∀ (r : UInt64) (u : S) (t : State) (H1 : Heap) (locs1 : List Loc), t.heap = H1 → s.vm.Alike t.vm → post r u → B u t → H.size ≤ H1.size → (∀ q : Nat, q < H.size → ¬ A1 q → H1[q]? = H[q]?) → va_S A0 H0 H1 locs1 → W p l e R s m args below meth c H1 locs1 (cells + mc) (slots + ms) Q (F0 m (pc + 3) ls (.double r :: rest))) : W p l e R s m args below meth c H locs cells slots Q (F0 m pc ls st0) := by
  intro T hT X
  rcases hr T hT X with ⟨v, st₀, t, T', L, h0, X', hL, e1, e2, ⟨⟨r, u, hv, hp, hb⟩, hF⟩, st⟩ | ⟨q, st₀, t, T', L, E, ce, h0, X', hL, e1, e2, ⟨u, hp, hb, hF⟩, hce, hcv, hcl, st⟩
  · cases hv
    obtain ⟨k1, k2, k3⟩ := vx_keep h0 e1 hS hA hf hL hF
    obtain ⟨t2, a1, b1⟩ := kk r u t T'.heap (locs ++ L) e1.symm (by rw [← e2]; exact X'.warmed.alike) hp hb k1 k2 k3 T' rfl X'
    exact ⟨t2, st t2 a1, b1⟩
  · obtain ⟨k1, k2, k3⟩ := vx_keep h0 e1 hS hAX hf hL hF
    obtain ⟨t2, a1, b1⟩ := kx E ce q u t T'.heap (locs ++ L) e1.symm (by rw [← e2]; exact X'.warmed.alike) hp hb k1 k2 k3 (by rw [e1]; exact hce) hcv hcl T' rfl X'
    exact ⟨t2, st.trans a1, b1⟩
theorem vx_callv {S SX : Type} {post : S → Prop} {px : SX → Prop} {B : S → State → Prop} {BX : String → SX → State → Prop} {AX : Nat → Prop} (hr : vx_Run p l e R s m args below meth c H locs cells slots mc ms (F0 m pc ls st0) rest (va_Qv post B A1 a) (vx_X px BX AX) free) (hS : va_S A0 H0 H locs) (hA : ∀ q, q < H.size → A1 q → A0 q) (hf : ∀ q, free q → A0 q) (hAX : ∀ q, q < H.size → AX q → A0 q)
    (kx : ∀ (E : String) (ce : Cell) (q9 : Addr) (u : SX) (t : State) (H1 : Heap) (locs1 : List Loc), t.heap = H1 → s.vm.Alike t.vm → px u → BX E u t → H.size ≤ H1.size → (∀ q : Nat, q < H.size → ¬ AX q → H1[q]? = H[q]?) → va_S A0 H0 H1 locs1 → H1[q9]? = some ce → ce.vm = .none → s.vm.findClass E = some ce.cls → vx_W p l e R s m args below meth c H1 locs1 (cells + mc) (slots + ms) Q (F0 m pc ls rest) q9)
    (kk : ∀ (u : S) (t : State) (H1 : Heap) (locs1 : List Loc), t.heap = H1 → s.vm.Alike t.vm → post u → B u t → H.size ≤ H1.size → (∀ q : Nat, q < H.size → ¬ A1 q → H1[q]? = H[q]?) → va_S A0 H0 H1 locs1 → W p l e R s m args below meth c H1 locs1 (cells + mc) (slots + ms) Q (F0 m (pc + 3) ls (rest))) : W p l e R s m args below meth c H locs cells slots Q (F0 m pc ls st0) := by
  intro T hT X
  rcases hr T hT X with ⟨v, st₀, t, T', L, h0, X', hL, e1, e2, ⟨⟨u, hv, hp, hb⟩, hF⟩, st⟩ | ⟨q, st₀, t, T', L, E, ce, h0, X', hL, e1, e2, ⟨u, hp, hb, hF⟩, hce, hcv, hcl, st⟩
  · cases hv
    obtain ⟨k1, k2, k3⟩ := vx_keep h0 e1 hS hA hf hL hF
    obtain ⟨t2, a1, b1⟩ := kk u t T'.heap (locs ++ L) e1.symm (by rw [← e2]; exact X'.warmed.alike) hp hb k1 k2 k3 T' rfl X'
    exact ⟨t2, st t2 a1, b1⟩
  · obtain ⟨k1, k2, k3⟩ := vx_keep h0 e1 hS hAX hf hL hF
    obtain ⟨t2, a1, b1⟩ := kx E ce q u t T'.heap (locs ++ L) e1.symm (by rw [← e2]; exact X'.warmed.alike) hp hb k1 k2 k3 (by rw [e1]; exact hce) hcv hcl T' rfl X'
    exact ⟨t2, st.trans a1, b1⟩
/-- caught by the row x of this method's table; the rows ahead don't take it -/
theorem vx_catch {own name : String} {E : String} {ce : Cell} {q : Addr} (hown : s.vm.findClass own = some m.cls) (pre : List ExceptionTableEntry) (x : ExceptionTableEntry) (suf : List ExceptionTableEntry) (hsplit : c.exceptionTable.toList = pre ++ x :: suf)
    (hpass : ∀ z ∈ pre, covers z pc = false ∨ (z.catchType ≠ 0 ∧ ∃ nm : String, (Cond.classLink own z.catchType nm).before args s = true ∧ va_Nc E nm s)) (hx : covers x pc = true) (h0 : x.catchType ≠ 0)
    (hlink : (Cond.classLink own x.catchType name).before args s = true) (hcast : (Cond.castable E name).before args s = true) (hcell : H[q]? = some ce) (hv : ce.vm = .none) (hcl : s.vm.findClass E = some ce.cls)
    (kk : W p l e R s m args below meth c H locs cells slots Q (F0 m x.handlerPc ls [.ref q])) : vx_W p l e R s m args below meth c H locs cells slots Q (F0 m pc ls rest) q := by
  intro T hT X
  have hpl : e.platform.magicAccessors = ({} : Platform).magicAccessors := by rw [X.admits.platform]
  obtain ⟨c3, c4, hc3, hc4, hasg⟩ := Cond.castable_spec hcast
  cases Option.some.inj (hc3.symm.trans hcl)
  obtain ⟨c5, hc5, hcl5⟩ := Cond.classLink_spec hown hlink e.platform hpl
  cases Option.some.inj (hc4.symm.trans hc5)
  obtain ⟨vm', X', st⟩ := X.thenCaughtThrough q (g := F0 m pc ls rest) rfl (Steps.refl _) (by rw [hT]; exact hcell) (by rw [hv]; rfl) (by obtain ⟨k9, h9, -⟩ := Vm.findClass_spec hcl; exact ⟨k9, h9⟩) pre x suf hsplit
    (fun z hz => by
      rcases hpass z hz with h | ⟨hz0, nm, hl1, hn1⟩
      · exact Or.inl h
      · obtain ⟨c6, hc6, hcl6⟩ := Cond.classLink_spec hown hl1 e.platform hpl
        obtain ⟨a8, b8, h1, h2, h3⟩ := hn1
        cases Option.some.inj (h1.symm.trans hcl)
        cases Option.some.inj (h2.symm.trans hc6)
        exact Or.inr ⟨hz0, _, hcl6, h3⟩) hx (Or.inr ⟨h0, c4, hcl5, hasg⟩)
  obtain ⟨t, a1, b1⟩ := kk (T.setVm vm') hT X'
  exact ⟨t, st.trans a1, b1⟩
end Rows
section Ends
variable {p : Program} {l : Launch} {e : Env} {R : Room} {s : State} {m : MethodId} {args : Array Value} {below : List Frame} {meth : Method} {c : Code} {H : Heap} {locs : List Loc} {cells slots : Nat} {Q : State → Prop}
variable {mc ms : Nat} {free : Addr → Prop} {A0 A1 : Nat → Prop} {H0 : Heap} {a : Array Value} {ls : Array Slot} {st0 rest : List Value}
variable {Qc : Array Value → State → Outcome → State → Prop} {XC : String → State → State → Prop}
/-- what a body that may throw owes at its end -/
def vx_MQ (below : List Frame) (Qc : Array Value → State → Outcome → State → Prop) (XC : String → State → State → Prop) (a : Array Value) (s : State) (mc ms : Nat) (free : Addr → Prop) : State → Prop := fun t =>
  ∃ o, t.status = .running ∧ Ended t below o ∧ vx_Q Qc XC mc ms free a s o t
theorem vx_ret {g : JFrame} {mc ms : Nat} (k : W p l e R s m args below meth c H locs cells slots (MQ below Qc args s mc ms free) g) : W p l e R s m args below meth c H locs cells slots (vx_MQ below Qc XC args s mc ms free) g := by
  intro T hT X
  obtain ⟨t, a1, o, b1, b2, b3, b4⟩ := k T hT X
  exact ⟨t, a1, o, b1, b2, Or.inl ⟨b3, b4⟩⟩
/-- not caught here: it goes on to the caller -/
theorem vx_widen {g : JFrame} {q : Addr} {k n : Nat} (h1 : cells ≤ k) (h2 : slots ≤ n) (kk : vx_W p l e R s m args below meth c H locs k n Q g q) : vx_W p l e R s m args below meth c H locs cells slots Q g q := fun T hT X => kk T hT (stand_widen X h1 h2)
theorem vx_out {pc : Nat} {E : String} {ce : Cell} {q : Addr} {mc ms : Nat} (hout : ∀ x ∈ c.exceptionTable.toList, covers x pc = false) (hlocks : meth.locks = false) (hcell : H[q]? = some ce) (hv : ce.vm = .none) (hcl : s.vm.findClass E = some ce.cls)
    (hx : ∀ t : State, t.heap = H → s.vm.Alike t.vm → XC E s t) (hf : ∀ z ∈ locs, free z.base) (hc : cells ≤ mc) (hs : slots ≤ ms) :
    vx_W p l e R s m args below meth c H locs cells slots (vx_MQ below Qc XC args s mc ms free) (F0 m pc ls rest) q := by
  intro T hT X
  obtain ⟨st1, hrun, hend, hW, hsm⟩ := X.leaveThrown q (g := F0 m pc ls rest) rfl rfl rfl hout hlocks
  have hcell9 : (T.setFrames (.throwing q :: below)).heap[q]? = some ce := by
    show T.heap[q]? = some ce
    rw [hT]; exact hcell
  exact ⟨_, st1, .threw q, hrun, hend, Or.inr ⟨q, rfl, E, ce, locs, hx _ hT hW.alike, hcell9, hv, hcl, hW, hsm.mono hc hs, hf⟩⟩
theorem vx_frame {U : State} {k n : Nat} (h : s.sameButNew ({ U with vm := s.vm } : State) locs k n) : s.heap.size ≤ U.heap.size ∧ ∀ q : Nat, q < s.heap.size → (∀ z ∈ locs, z.base ≠ q) → U.heap[q]? = s.heap[q]? := by
  obtain ⟨-, h2, -, -, -, h6⟩ := h
  refine ⟨h2, fun q hq hz => ?_⟩
  obtain ⟨c9, e1, e2, e3, e4⟩ := h6 q _ (Array.getElem?_eq_getElem hq)
  have hs : c9.slots = (s.heap[q]).slots := Array.ext_getElem? fun i => e4 i fun hm => hz _ hm rfl
  have h9 : c9 = s.heap[q] := by
    rw [hs] at e2
    exact e2
  have e5 : U.heap[q]? = some c9 := e1
  rw [e5, h9, Array.getElem?_eq_getElem hq]
/-- the words of a throw but the four that speak of the heap -/
def vx_no (w : Cond) : Bool := decide (w ≠ .isRef (.static Bundle.tN "UNASSIGNED_STACK" Bundle.steD)) && decide (w ≠ .isRef (.static Bundle.tN "SUPPRESSED_SENTINEL" Bundle.listD)) && decide (w ≠ .laysStatic Bundle.tN "UNASSIGNED_STACK" Bundle.steD) && decide (w ≠ .laysStatic Bundle.tN "SUPPRESSED_SENTINEL" Bundle.listD)
def vx_at0 (own : String) (ic : Nat) (X : String) (names : List String) : List Cond := (Bundle.ownAtoms0 own ic X names).filter vx_no
def vx_atS (own : String) (ic : Nat) (X : String) (names : List String) : List Cond := (Bundle.ownAtoms own ic X names).filter vx_no
/-- a word that the tables alone decide, or a good one -/
def vx_ot (w : Cond) : Bool := w.onTables || goodWord w
theorem vx_ot_at {args a' : Array Value} {s U : State} {w : Cond} (hW : s.WarmedH U.vm) (hvm : s.vm = U.vm) (hg : vx_ot w = true) (h : w.before args s = true) : w.before a' U = true := by
  simp only [vx_ot, Bool.or_eq_true] at hg
  rcases hg with hg | hg
  · exact va_tabs hg hvm h
  · exact word_at hW (good_of_word hg) h
/-- a list's words: the good ones out of the method's own list, the others by premises of their own -/
theorem vx_hat {args : Array Value} {s : State} {L B : List Cond} (h1 : ∀ w ∈ L.filter goodWord, w.before args s = true) (h2 : ∀ w ∈ L.filter (fun w => !goodWord w), w ∈ B) (h3 : ∀ w ∈ B, w.before args s = true) : ∀ w ∈ L, w.before args s = true := by
  intro w hw
  by_cases g : goodWord w = true
  · exact h1 w (List.mem_filter.mpr ⟨hw, g⟩)
  · refine h3 w (h2 w (List.mem_filter.mpr ⟨hw, ?_⟩))
    show (!goodWord w) = true
    cases hgw : goodWord w
    · rfl
    · exact absurd hgw g
theorem vx_c {args : Array Value} {s : State} {w : Cond} {B : List Cond} (h : w.before args s = true) (t : ∀ w ∈ B, w.before args s = true) : ∀ w' ∈ w :: B, w'.before args s = true := fun w' h' => (List.mem_cons.mp h').elim (fun e => by rw [e]; exact h) (t w')
theorem vx_n {args : Array Value} {s : State} : ∀ w ∈ ([] : List Cond), w.before args s = true := fun _ h => nomatch h
theorem vx_own {args : Array Value} {s : State} {L : List Cond} (h1 : ∀ w ∈ L.filter vx_no, w.before args s = true)
    (hU : (Cond.isRef (.static Bundle.tN "UNASSIGNED_STACK" Bundle.steD)).before args s = true) (hN : (Cond.isRef (.static Bundle.tN "SUPPRESSED_SENTINEL" Bundle.listD)).before args s = true)
    (lU : (Cond.laysStatic Bundle.tN "UNASSIGNED_STACK" Bundle.steD).before args s = true) (lN : (Cond.laysStatic Bundle.tN "SUPPRESSED_SENTINEL" Bundle.listD).before args s = true) : ∀ w ∈ L, w.before args s = true := by
  intro w hw
  by_cases e1 : w = .isRef (.static Bundle.tN "UNASSIGNED_STACK" Bundle.steD)
  · rw [e1]; exact hU
  · by_cases e2 : w = .isRef (.static Bundle.tN "SUPPRESSED_SENTINEL" Bundle.listD)
    · rw [e2]; exact hN
    · by_cases e3 : w = .laysStatic Bundle.tN "UNASSIGNED_STACK" Bundle.steD
      · rw [e3]; exact lU
      · by_cases e4 : w = .laysStatic Bundle.tN "SUPPRESSED_SENTINEL" Bundle.listD
        · rw [e4]; exact lN
        · exact h1 w (List.mem_filter.mpr ⟨hw, by unfold vx_no; rw [decide_eq_true e1, decide_eq_true e2, decide_eq_true e3, decide_eq_true e4]; rfl⟩)
/-- where a static field lies, its class's statics cell in H -/
def vx_L (C n d : String) (A : Nat → Prop) (U : State) (H : Heap) : Prop := ∃ (c : ClassId) (k : Class) (i : Nat) (f : Field) (a : Nat) (cell : Cell), U.vm.findClass C = some c ∧ U.fieldFound? C n d = some (c, k, i, f) ∧ f.isStatic = true ∧ k.statics = some a ∧ H[a]? = some cell ∧ cell.vm.isStatics = true ∧ cell.cls = c ∧ f.slot < cell.slots.size ∧ k.staticTypes[f.slot]? = some f.type ∧ ¬ A a
theorem vx_L.moved {C n d : String} {A : Nat → Prop} {u U : State} {H : Heap} (hvm : u.vm.Alike U.vm) (h : vx_L C n d A u H) : vx_L C n d A U H := by
  obtain ⟨c, k, i, f, a, cell, h1, h2, h3, h4, h5, h6, h7, h8, h9, h10⟩ := h
  obtain ⟨k', hi', he⟩ := State.fieldFound?_setVm hvm h2
  exact ⟨c, k', i, f, a, cell, by rw [hvm.findClass]; exact h1, hi', h3, by rw [he]; exact h4, h5, h6, h7, h8, by rw [he]; exact h9, h10⟩
theorem vx_L.kept {C n d : String} {A : Nat → Prop} {U : State} {H H1 : Heap} (h : vx_L C n d A U H) (hq : ∀ a : Nat, a < H.size → ¬ A a → H1[a]? = H[a]?) : vx_L C n d A U H1 := by
  obtain ⟨c, k, i, f, a, cell, h1, h2, h3, h4, h5, h6, h7, h8, h9, h10⟩ := h
  exact ⟨c, k, i, f, a, cell, h1, h2, h3, h4, by rw [hq a (Array.getElem?_eq_some_iff.mp h5).1 h10]; exact h5, h6, h7, h8, h9, h10⟩
theorem vx_L.narrow {C n d : String} {A B : Nat → Prop} {U : State} {H : Heap} (h : vx_L C n d A U H) (hAB : ∀ q, B q → A q) : vx_L C n d B U H := by
  obtain ⟨c, k, i, f, a, cell, h1, h2, h3, h4, h5, h6, h7, h8, h9, h10⟩ := h
  exact ⟨c, k, i, f, a, cell, h1, h2, h3, h4, h5, h6, h7, h8, h9, fun z => h10 (hAB _ z)⟩
theorem vx_L.word {C n d : String} {A : Nat → Prop} {s : State} {args : Array Value} (h : vx_L C n d A s s.heap) : (Cond.laysStatic C n d).before args s = true := by
  obtain ⟨c, k, i, f, a, cell, h1, h2, h3, h4, h5, h6, h7, h8, h9, -⟩ := h
  show (Cond.laysStatic C n d).holds args s none s [] = true
  exact Cond.laysStatic_of h1 h2 h3 h4 h5 h6 h7 h8 h9
/-- .. and what it holds: null or some reference -/
def vx_Zq (C n d : String) (A : Nat → Prop) (U : State) (H : Heap) : Prop := va_Zq C n d A U H ∧ vx_L C n d A U H
theorem vx_Zq.moved {C n d : String} {A : Nat → Prop} {u U : State} {H : Heap} (hvm : u.vm.Alike U.vm) (h : vx_Zq C n d A u H) : vx_Zq C n d A U H := ⟨va_Zq.moved hvm h.1, vx_L.moved hvm h.2⟩
theorem vx_Zq.kept {C n d : String} {A : Nat → Prop} {U : State} {H H1 : Heap} (h : vx_Zq C n d A U H) (hq : ∀ a : Nat, a < H.size → ¬ A a → H1[a]? = H[a]?) : vx_Zq C n d A U H1 := ⟨va_Zq.kept h.1 hq, vx_L.kept h.2 hq⟩
theorem vx_Zq.narrow {C n d : String} {A B : Nat → Prop} {U : State} {H : Heap} (h : vx_Zq C n d A U H) (hAB : ∀ q, B q → A q) : vx_Zq C n d B U H := ⟨va_Zq.narrow h.1 hAB, vx_L.narrow h.2 hAB⟩
theorem vx_Zqof {args : Array Value} {s : State} {C n d : String} {A : Nat → Prop} (hl : (Cond.laysStatic C n d).before args s = true) (hini : (Cond.initialized C).before args s = true) (h : (Cond.isRef (.static C n d)).before args s = true) (hA : ∀ a : Nat, a < s.heap.size → ¬ A a) : vx_Zq C n d A s s.heap := by
  refine ⟨va_Zqof hl hini h hA, ?_⟩
  obtain ⟨c, k, i, f, a, cell, h1, h2, h3, h4, h5, h6, h7, h8, h9⟩ := Cond.laysStatic_spec hl
  exact ⟨c, k, i, f, a, cell, h1, h2, h3, h4, h5, h6, h7, h8, h9, hA a (Array.getElem?_eq_some_iff.mp h5).1⟩
theorem vx_isRef {C n d : String} {v : Value} {A : Nat → Prop} {s : State} {args : Array Value} (h : va_Z C n d v A s s.heap) (hv : v.isRef = true) : (Cond.isRef (.static C n d)).before args s = true := by
  obtain ⟨cf, kf, fi, f, a, cell, h1, h2, h3, h4, h5, h6, h7, -⟩ := h
  have he : (Term.static C n d).eval args s none [] s = some v := by
    simp [Term.eval, State.fieldNamed?, h1, h2, h4, h5, h6, h7]
  simp only [Cond.before, Cond.holds, Cond.value, he]
  cases v <;> simp_all [Value.isRef]
theorem vx_isRefq {C n d : String} {A : Nat → Prop} {s : State} {args : Array Value} (h : va_Zq C n d A s s.heap) : (Cond.isRef (.static C n d)).before args s = true := by
  rcases h with h | ⟨t, h⟩
  · exact vx_isRef h rfl
  · exact vx_isRef h rfl
/-- the same frame, seen from here: as if the method were called anew in this heap -/
theorem vx_rebase {T : State} (X : Stand p l e R s m args below meth c T locs cells slots) {R' : Room} (hf : R'.frames ≤ R.frames) (hl : R'.locals ≤ R.locals) (hc : cells + R'.cells ≤ R.cells) (hs : slots + R'.slots ≤ R.slots) :
    Stand p l e R' ((T.setVm s.vm).setFrames (.invoking m args :: below)) m args below meth c T [] 0 0 := by
  have htop : (T.setVm s.vm).topJava?.isSome := X.here.top
  have hF : ((T.setVm s.vm).setFrames (.invoking m args :: below)).frames = .invoking m args :: below := State.frames_setFrames _ (State.cur_lt_of_top htop)
  obtain ⟨g₀, hg0⟩ := Option.isSome_iff_exists.mp htop
  obtain ⟨r, hr⟩ := State.topJava?_eq_some.mp hg0
  have hl9 : e.platform.stackLimits (T.setVm s.vm).me = e.platform.stackLimits s.me := X.limits
  have hb9 : (T.setVm s.vm).me.stackBytes = s.me.stackBytes := X.bytes
  refine ⟨X.admits, X.cas, X.clock, hF, ?_, X.hears, X.method, X.code, X.here, X.tail, X.warmed, ?_, ?_, ?_⟩
  · have h := X.room
    have hU : ((T.setVm s.vm).setFrames (.invoking m args :: below)).localsInUse = s.localsInUse := by
      rw [State.localsInUse_invoking hF (meth := meth) (c := c) X.method X.code, State.localsInUse_invoking X.frames X.method X.code]
    simp only [State.hasRoom, Bool.and_eq_true, decide_eq_true_eq] at h ⊢
    obtain ⟨⟨⟨⟨h1, h2, h3, h4, h5, h6⟩, h7⟩, h8⟩, h9⟩ := h
    rw [X.frames, List.length_cons] at h2 h3
    have q1 := X.heapSize
    have q2 := X.used
    simp only [hF, hU, List.length_cons, State.stackLimits_setFrames, State.stackBytes_setFrames, hl9, hb9]
    refine ⟨⟨⟨⟨by omega, by omega, by omega, by omega, by omega, h6⟩, ?_⟩, ?_⟩, X.book⟩
    · show T.heap.size + R'.cells ≤ e.platform.maxCells
      omega
    · show T.slotsUsed + R'.slots ≤ e.platform.maxSlots
      omega
  · rw [State.stackLimits_setFrames]; rfl
  · rw [State.stackBytes_setFrames]; rfl
  · refine ⟨?_, Nat.le_refl _, Nat.le_refl _, ?_, ?_, fun a c9 h9 => ⟨c9, h9, rfl, rfl, fun _ _ => rfl⟩⟩
    · obtain ⟨t, ht, -⟩ := State.frames_cons hr
      show T.setVm s.vm = { ((T.setVm s.vm).setFrames (.invoking m args :: below)).setFrames (T.setVm s.vm).frames with heap := T.heap, slotsUsed := T.slotsUsed }
      rw [State.setFrames_setFrames, State.setFrames_self ht]
      rfl
    · show T.slotsUsed = T.slotsUsed + ((T.heap.toList.drop T.heap.size).map (·.slots.size)).sum
      rw [List.drop_eq_nil_of_le (Nat.le_of_eq Array.length_toList)]
      rfl
    · show ((T.heap.toList.drop T.heap.size).map (·.slots.size)).sum ≤ 0
      rw [List.drop_eq_nil_of_le (Nat.le_of_eq Array.length_toList)]
      exact Nat.le_refl _
/-- 'throw new E()': new; dup; invokespecial; athrow -/
theorem vx_throw0 {cc : ByteArray} {pc : Nat} (hexec : p.tables.exec = Jvm.exec) (hb : c.code = cc) (hl : l.stackTraces = false) {own cls : String} {names : List String} {ik ic mc ms : Nat} {A : Nat → Prop}
    (hown : s.vm.findClass own = some m.cls) (hcls : Bundle.fit cls = true) (hnames : ∀ n ∈ names, Bundle.fit n = true)
    (hk : (Cond.classLink own ik cls).before args s = true) (hini : (Cond.initialized cls).before args s = true) (hat : ∀ w ∈ vx_at0 own ic cls names, w.before args s = true)
    (hgood : ∀ w ∈ Cond.classLink own ik cls :: Cond.initialized cls :: vx_at0 own ic cls names, vx_ot w = true)
    (hU : vx_Zq Bundle.tN "UNASSIGNED_STACK" Bundle.steD A s s.heap) (hN : vx_Zq Bundle.tN "SUPPRESSED_SENTINEL" Bundle.listD A s s.heap) (hS : va_S A s.heap H locs) (hsize : ls.size = c.maxLocals)
    (d0 : decode cc pc = .ok (.new ik, 3)) (d3 : decode cc (pc + 3) = .ok (.dup, 1)) (d4 : decode cc (pc + 4) = .ok (.invokespecial ic, 3)) (d7 : decode cc (pc + 7) = .ok (.athrow, 1))
    (hout : ∀ x ∈ c.exceptionTable.toList, covers x (pc + 7) = false)
    (hRframes : names.length + 3 < R.frames) (hRlocals : (rest.map fun v => v.category).sum + (13 * (names.length + 1) + 42) ≤ R.locals) (hRcells : cells + 1 ≤ R.cells) (hRslots : slots + 6 ≤ R.slots) (hlocks : meth.locks = false)
    (hx : ∀ t : State, s.vm.Alike t.vm → H.size ≤ t.heap.size → (∀ q : Nat, q < H.size → t.heap[q]? = H[q]?) → XC cls s t)
    (hf : ∀ z ∈ locs, free z.base) (hc : cells + 1 ≤ mc) (hs : slots + 6 ≤ ms) :
    W p l e R s m args below meth c H locs cells slots (vx_MQ below Qc XC args s mc ms free) (F0 m pc ls rest) := by
  intro T hT X
  have htr : e.platform.stackTraces = false := (show e.platform.stackTraces = l.stackTraces by rw [X.admits.platform]).trans hl
  have Y := vx_rebase X (R' := { frames := R.frames, locals := R.locals, cells := 1, slots := 6 }) (Nat.le_refl _) (Nat.le_refl _) hRcells hRslots
  obtain ⟨s', hA⟩ : ∃ z, z = (T.setVm s.vm).setFrames (.invoking m args :: below) := ⟨_, rfl⟩
  rw [← hA] at Y
  have hvm : s'.vm = s.vm := by rw [hA]; rfl
  have hhp : s'.heap = H := by rw [hA]; exact hT
  have hW0 : s.WarmedH s'.vm := by rw [hvm]; exact State.WarmedH.refl s
  have hat' : ∀ w ∈ vx_at0 own ic cls names, w.before args s' = true := fun w hw => vx_ot_at hW0 hvm.symm (hgood w (List.mem_cons_of_mem _ (List.mem_cons_of_mem _ hw))) (hat w hw)
  have hk' : (Cond.classLink own ik cls).before args s' = true := vx_ot_at hW0 hvm.symm (hgood _ List.mem_cons_self) hk
  have hini' : (Cond.initialized cls).before args s' = true := vx_ot_at hW0 hvm.symm (hgood _ (List.mem_cons_of_mem _ List.mem_cons_self)) hini
  have hU' : vx_Zq Bundle.tN "UNASSIGNED_STACK" Bundle.steD A s' s'.heap := by rw [hhp]; exact vx_Zq.moved hW0.alike (hU.kept hS.2.1)
  have hN' : vx_Zq Bundle.tN "SUPPRESSED_SENTINEL" Bundle.listD A s' s'.heap := by rw [hhp]; exact vx_Zq.moved hW0.alike (hN.kept hS.2.1)
  have h : ∀ w ∈ Bundle.ownAtoms0 own ic cls names, w.before args s' = true := vx_own hat' (vx_isRefq hU'.1) (vx_isRefq hN'.1) hU'.2.word hN'.2.word
  have hown' : s'.vm.findClass own = some m.cls := by rw [hvm]; exact hown
  have hins : (Cond.instantiable cls 6).before args s' = true := h _ (by simp [Bundle.ownAtoms0])
  obtain ⟨vm₁, cX, kX, hfX, hkX, -, -, X₁, st1⟩ := Y.newCold hexec (own := own) (C := cls) (index := ik) (n := 6) hown' hk' hins hini'
    (g := F0 m pc ls rest) rfl (by rw [hb]; exact d0) (Nat.le_refl _) (Nat.le_refl _)
  generalize hT1 : (T.setVm vm₁).pushCell { cls := cX, slots := kX.instanceTypes.map defaultValue, vm := .none } = T1 at X₁ st1
  have hcat : (Value.ref T.heap.size).category = 1 := rfl
  have hcellA : T1.heap[T.heap.size]? = some (freshCell cX kX) := by rw [← hT1]; exact State.heap_pushCell_size _ _
  have d3' : decode c.code (pc + 3) = .ok (.dup, 1) := by rw [hb]; exact d3
  obtain ⟨U, hsteps, hrun, hend, hW, hsame, ce, hce, hO⟩ := X₁.ctorThrow0 hexec htr (own := own) (cls := cls) (names := names) (ic := ic) hown' hcls hnames h (fun x hx => nomatch hx) hfX hkX hcellA (by rw [hhp, hT]; exact Nat.le_refl _)
    (g := { method := m, pc := pc + 4, locals := ls, stack := .ref T.heap.size :: .ref T.heap.size :: rest, locked := none }) rfl hsize rfl rfl (rest := rest) rfl
    (by rw [hb]; exact d4) (by rw [hb]; exact d7) hout hRframes (by simp only [List.map_cons, List.sum_cons, hcat]; omega) hlocks
  obtain ⟨f1, f2⟩ := vx_frame hsame
  rw [hhp] at f1 f2
  have hWs : s.WarmedH U.vm := State.WarmedH.trans hW0 hW
  have hcl : s.vm.findClass cls = some ce.cls := by
    have h9 := hO.cls
    rw [hvm] at h9
    exact h9
  have hall : s.sameButNew ({ U with vm := s.vm } : State) locs mc ms := by
    subst hA
    obtain ⟨e1, e2⟩ := hsame
    rw [State.setFrames_setFrames] at e1
    have h2 : (T.setVm s.vm).sameButNew ({ U with vm := s.vm } : State) [] (0 + 1) (0 + 6) := ⟨e1, e2⟩
    have h3 := X.same.trans h2
    rw [List.append_nil] at h3
    exact h3.mono hc hs
  refine ⟨U, ?_, .threw T.heap.size, hrun, hend, Or.inr ⟨T.heap.size, rfl, cls, ce, locs, hx U hWs.alike f1 (fun q hq => f2 q hq (fun z hz => nomatch hz)), hce, hO.vm, hcl, hWs, hall, hf⟩⟩
  refine st1 _ ?_
  show Steps p.tables e below (T1.setTop { method := m, pc := pc + 3, locals := ls, stack := .ref T.heap.size :: rest, locked := none }) _
  jvm_step X₁.here [X₁.here.top, hexec, d3', Value.category]
  exact hsteps
/-- 'throw new E("text")': new; dup; ldc; invokespecial; athrow -/
theorem vx_throwS {cc : ByteArray} {pc : Nat} (hexec : p.tables.exec = Jvm.exec) (hb : c.code = cc) (hl : l.stackTraces = false) {own cls text : String} {names : List String} {ik is ic mc ms sa : Nat} {A : Nat → Prop}
    (hown : s.vm.findClass own = some m.cls) (hcls : Bundle.fit cls = true) (hnames : ∀ n ∈ names, Bundle.fit n = true)
    (hk : (Cond.classLink own ik cls).before args s = true) (hini : (Cond.initialized cls).before args s = true) (hstr : vk_R own is text sa s) (hat : ∀ w ∈ vx_atS own ic cls names, w.before args s = true)
    (hgood : ∀ w ∈ Cond.classLink own ik cls :: Cond.initialized cls :: vx_atS own ic cls names, vx_ot w = true)
    (hU : vx_Zq Bundle.tN "UNASSIGNED_STACK" Bundle.steD A s s.heap) (hN : vx_Zq Bundle.tN "SUPPRESSED_SENTINEL" Bundle.listD A s s.heap) (hS : va_S A s.heap H locs) (hsize : ls.size = c.maxLocals)
    (d0 : decode cc pc = .ok (.new ik, 3)) (d3 : decode cc (pc + 3) = .ok (.dup, 1)) (d4 : decode cc (pc + 4) = .ok (.ldc is, 2)) (d6 : decode cc (pc + 6) = .ok (.invokespecial ic, 3)) (d9 : decode cc (pc + 9) = .ok (.athrow, 1))
    (hout : ∀ x ∈ c.exceptionTable.toList, covers x (pc + 9) = false)
    (hRframes : names.length + 3 < R.frames) (hRlocals : (rest.map fun v => v.category).sum + (13 * (names.length + 1) + 43) ≤ R.locals) (hRcells : cells + 1 ≤ R.cells) (hRslots : slots + 6 ≤ R.slots) (hlocks : meth.locks = false)
    (hx : ∀ t : State, s.vm.Alike t.vm → H.size ≤ t.heap.size → (∀ q : Nat, q < H.size → t.heap[q]? = H[q]?) → XC cls s t)
    (hf : ∀ z ∈ locs, free z.base) (hc : cells + 1 ≤ mc) (hs : slots + 6 ≤ ms) :
    W p l e R s m args below meth c H locs cells slots (vx_MQ below Qc XC args s mc ms free) (F0 m pc ls rest) := by
  intro T hT X
  have htr : e.platform.stackTraces = false := (show e.platform.stackTraces = l.stackTraces by rw [X.admits.platform]).trans hl
  have Y := vx_rebase X (R' := { frames := R.frames, locals := R.locals, cells := 1, slots := 6 }) (Nat.le_refl _) (Nat.le_refl _) hRcells hRslots
  obtain ⟨s', hA⟩ : ∃ z, z = (T.setVm s.vm).setFrames (.invoking m args :: below) := ⟨_, rfl⟩
  rw [← hA] at Y
  have hvm : s'.vm = s.vm := by rw [hA]; rfl
  have hhp : s'.heap = H := by rw [hA]; exact hT
  have hW0 : s.WarmedH s'.vm := by rw [hvm]; exact State.WarmedH.refl s
  have hat' : ∀ w ∈ vx_atS own ic cls names, w.before args s' = true := fun w hw => vx_ot_at hW0 hvm.symm (hgood w (List.mem_cons_of_mem _ (List.mem_cons_of_mem _ hw))) (hat w hw)
  have hk' : (Cond.classLink own ik cls).before args s' = true := vx_ot_at hW0 hvm.symm (hgood _ List.mem_cons_self) hk
  have hini' : (Cond.initialized cls).before args s' = true := vx_ot_at hW0 hvm.symm (hgood _ (List.mem_cons_of_mem _ List.mem_cons_self)) hini
  have hU' : vx_Zq Bundle.tN "UNASSIGNED_STACK" Bundle.steD A s' s'.heap := by rw [hhp]; exact vx_Zq.moved hW0.alike (hU.kept hS.2.1)
  have hN' : vx_Zq Bundle.tN "SUPPRESSED_SENTINEL" Bundle.listD A s' s'.heap := by rw [hhp]; exact vx_Zq.moved hW0.alike (hN.kept hS.2.1)
  have h : ∀ w ∈ Bundle.ownAtoms own ic cls names, w.before args s' = true := vx_own hat' (vx_isRefq hU'.1) (vx_isRefq hN'.1) hU'.2.word hN'.2.word
  have hown' : s'.vm.findClass own = some m.cls := by rw [hvm]; exact hown
  have hins : (Cond.instantiable cls 6).before args s' = true := h _ (by simp [Bundle.ownAtoms])
  obtain ⟨vm₁, cX, kX, hfX, hkX, -, -, X₁, st1⟩ := Y.newCold hexec (own := own) (C := cls) (index := ik) (n := 6) hown' hk' hins hini'
    (g := F0 m pc ls rest) rfl (by rw [hb]; exact d0) (Nat.le_refl _) (Nat.le_refl _)
  generalize hT1 : (T.setVm vm₁).pushCell { cls := cX, slots := kX.instanceTypes.map defaultValue, vm := .none } = T1 at X₁ st1
  have hcat : (Value.ref T.heap.size).category = 1 := rfl
  have hcellA : T1.heap[T.heap.size]? = some (freshCell cX kX) := by rw [← hT1]; exact State.heap_pushCell_size _ _
  have d3' : decode c.code (pc + 3) = .ok (.dup, 1) := by rw [hb]; exact d3
  have d4' : decode c.code (pc + 4) = .ok (.ldc is, 2) := by rw [hb]; exact d4
  have hstr' : vk_R own is text sa s' := vk_R.warm hW0 hstr
  obtain ⟨U, hsteps, hrun, hend, hW, hsame, ce, hce, hO⟩ := X₁.ctorThrowS hexec htr (own := own) (cls := cls) (names := names) (ic := ic) hown' hcls hnames h (fun x hx => nomatch hx) hfX hkX hcellA (by rw [hhp, hT]; exact Nat.le_refl _) (msg := .ref sa) rfl
    (g := { method := m, pc := pc + 6, locals := ls, stack := .ref sa :: .ref T.heap.size :: .ref T.heap.size :: rest, locked := none }) rfl hsize rfl rfl (rest := rest) rfl
    (by rw [hb]; exact d6) (by rw [hb]; exact d9) hout hRframes (by simp only [List.map_cons, List.sum_cons, hcat]; omega) hlocks
  obtain ⟨f1, f2⟩ := vx_frame hsame
  rw [hhp] at f1 f2
  have hWs : s.WarmedH U.vm := State.WarmedH.trans hW0 hW
  have hcl : s.vm.findClass cls = some ce.cls := by
    have h9 := hO.cls
    rw [hvm] at h9
    exact h9
  have hall : s.sameButNew ({ U with vm := s.vm } : State) locs mc ms := by
    subst hA
    obtain ⟨e1, e2⟩ := hsame
    rw [State.setFrames_setFrames] at e1
    have h2 : (T.setVm s.vm).sameButNew ({ U with vm := s.vm } : State) [] (0 + 1) (0 + 6) := ⟨e1, e2⟩
    have h3 := X.same.trans h2
    rw [List.append_nil] at h3
    exact h3.mono hc hs
  refine ⟨U, ?_, .threw T.heap.size, hrun, hend, Or.inr ⟨T.heap.size, rfl, cls, ce, locs, hx U hWs.alike f1 (fun q hq => f2 q hq (fun z hz => nomatch hz)), hce, hO.vm, hcl, hWs, hall, hf⟩⟩
  refine st1 _ ?_
  show Steps p.tables e below (T1.setTop { method := m, pc := pc + 3, locals := ls, stack := .ref T.heap.size :: rest, locked := none }) _
  jvm_step X₁.here [X₁.here.top, hexec, d3', Value.category]
  exact X₁.ldcString hexec (own := own) (text := text) (index := is) (a := sa) hown' hstr'.1 hstr'.2
    (g := { method := m, pc := pc + 4, locals := ls, stack := .ref T.heap.size :: .ref T.heap.size :: rest, locked := none }) rfl d4' _ hsteps
/-- 'throw new E("text")', the text by a wide index -/
theorem vx_throwSW {cc : ByteArray} {pc : Nat} (hexec : p.tables.exec = Jvm.exec) (hb : c.code = cc) (hl : l.stackTraces = false) {own cls text : String} {names : List String} {ik is ic mc ms sa : Nat} {A : Nat → Prop}
    (hown : s.vm.findClass own = some m.cls) (hcls : Bundle.fit cls = true) (hnames : ∀ n ∈ names, Bundle.fit n = true)
    (hk : (Cond.classLink own ik cls).before args s = true) (hini : (Cond.initialized cls).before args s = true) (hstr : vk_R own is text sa s) (hat : ∀ w ∈ vx_atS own ic cls names, w.before args s = true)
    (hgood : ∀ w ∈ Cond.classLink own ik cls :: Cond.initialized cls :: vx_atS own ic cls names, vx_ot w = true)
    (hU : vx_Zq Bundle.tN "UNASSIGNED_STACK" Bundle.steD A s s.heap) (hN : vx_Zq Bundle.tN "SUPPRESSED_SENTINEL" Bundle.listD A s s.heap) (hS : va_S A s.heap H locs) (hsize : ls.size = c.maxLocals)
    (d0 : decode cc pc = .ok (.new ik, 3)) (d3 : decode cc (pc + 3) = .ok (.dup, 1)) (d4 : decode cc (pc + 4) = .ok (.ldc_w is, 3)) (d7 : decode cc (pc + 7) = .ok (.invokespecial ic, 3)) (d10 : decode cc (pc + 10) = .ok (.athrow, 1))
    (hout : ∀ x ∈ c.exceptionTable.toList, covers x (pc + 10) = false)
    (hRframes : names.length + 3 < R.frames) (hRlocals : (rest.map fun v => v.category).sum + (13 * (names.length + 1) + 43) ≤ R.locals) (hRcells : cells + 1 ≤ R.cells) (hRslots : slots + 6 ≤ R.slots) (hlocks : meth.locks = false)
    (hx : ∀ t : State, s.vm.Alike t.vm → H.size ≤ t.heap.size → (∀ q : Nat, q < H.size → t.heap[q]? = H[q]?) → XC cls s t)
    (hf : ∀ z ∈ locs, free z.base) (hc : cells + 1 ≤ mc) (hs : slots + 6 ≤ ms) :
    W p l e R s m args below meth c H locs cells slots (vx_MQ below Qc XC args s mc ms free) (F0 m pc ls rest) := by
  intro T hT X
  have htr : e.platform.stackTraces = false := (show e.platform.stackTraces = l.stackTraces by rw [X.admits.platform]).trans hl
  have Y := vx_rebase X (R' := { frames := R.frames, locals := R.locals, cells := 1, slots := 6 }) (Nat.le_refl _) (Nat.le_refl _) hRcells hRslots
  obtain ⟨s', hA⟩ : ∃ z, z = (T.setVm s.vm).setFrames (.invoking m args :: below) := ⟨_, rfl⟩
  rw [← hA] at Y
  have hvm : s'.vm = s.vm := by rw [hA]; rfl
  have hhp : s'.heap = H := by rw [hA]; exact hT
  have hW0 : s.WarmedH s'.vm := by rw [hvm]; exact State.WarmedH.refl s
  have hat' : ∀ w ∈ vx_atS own ic cls names, w.before args s' = true := fun w hw => vx_ot_at hW0 hvm.symm (hgood w (List.mem_cons_of_mem _ (List.mem_cons_of_mem _ hw))) (hat w hw)
  have hk' : (Cond.classLink own ik cls).before args s' = true := vx_ot_at hW0 hvm.symm (hgood _ List.mem_cons_self) hk
  have hini' : (Cond.initialized cls).before args s' = true := vx_ot_at hW0 hvm.symm (hgood _ (List.mem_cons_of_mem _ List.mem_cons_self)) hini
  have hU' : vx_Zq Bundle.tN "UNASSIGNED_STACK" Bundle.steD A s' s'.heap := by rw [hhp]; exact vx_Zq.moved hW0.alike (hU.kept hS.2.1)
  have hN' : vx_Zq Bundle.tN "SUPPRESSED_SENTINEL" Bundle.listD A s' s'.heap := by rw [hhp]; exact vx_Zq.moved hW0.alike (hN.kept hS.2.1)
  have h : ∀ w ∈ Bundle.ownAtoms own ic cls names, w.before args s' = true := vx_own hat' (vx_isRefq hU'.1) (vx_isRefq hN'.1) hU'.2.word hN'.2.word
  have hown' : s'.vm.findClass own = some m.cls := by rw [hvm]; exact hown
  have hins : (Cond.instantiable cls 6).before args s' = true := h _ (by simp [Bundle.ownAtoms])
  obtain ⟨vm₁, cX, kX, hfX, hkX, -, -, X₁, st1⟩ := Y.newCold hexec (own := own) (C := cls) (index := ik) (n := 6) hown' hk' hins hini'
    (g := F0 m pc ls rest) rfl (by rw [hb]; exact d0) (Nat.le_refl _) (Nat.le_refl _)
  generalize hT1 : (T.setVm vm₁).pushCell { cls := cX, slots := kX.instanceTypes.map defaultValue, vm := .none } = T1 at X₁ st1
  have hcat : (Value.ref T.heap.size).category = 1 := rfl
  have hcellA : T1.heap[T.heap.size]? = some (freshCell cX kX) := by rw [← hT1]; exact State.heap_pushCell_size _ _
  have d3' : decode c.code (pc + 3) = .ok (.dup, 1) := by rw [hb]; exact d3
  have d4' : decode c.code (pc + 4) = .ok (.ldc_w is, 3) := by rw [hb]; exact d4
  have hstr' : vk_R own is text sa s' := vk_R.warm hW0 hstr
  obtain ⟨U, hsteps, hrun, hend, hW, hsame, ce, hce, hO⟩ := X₁.ctorThrowS hexec htr (own := own) (cls := cls) (names := names) (ic := ic) hown' hcls hnames h (fun x hx => nomatch hx) hfX hkX hcellA (by rw [hhp, hT]; exact Nat.le_refl _) (msg := .ref sa) rfl
    (g := { method := m, pc := pc + 7, locals := ls, stack := .ref sa :: .ref T.heap.size :: .ref T.heap.size :: rest, locked := none }) rfl hsize rfl rfl (rest := rest) rfl
    (by rw [hb]; exact d7) (by rw [hb]; exact d10) hout hRframes (by simp only [List.map_cons, List.sum_cons, hcat]; omega) hlocks
  obtain ⟨f1, f2⟩ := vx_frame hsame
  rw [hhp] at f1 f2
  have hWs : s.WarmedH U.vm := State.WarmedH.trans hW0 hW
  have hcl : s.vm.findClass cls = some ce.cls := by
    have h9 := hO.cls
    rw [hvm] at h9
    exact h9
  have hall : s.sameButNew ({ U with vm := s.vm } : State) locs mc ms := by
    subst hA
    obtain ⟨e1, e2⟩ := hsame
    rw [State.setFrames_setFrames] at e1
    have h2 : (T.setVm s.vm).sameButNew ({ U with vm := s.vm } : State) [] (0 + 1) (0 + 6) := ⟨e1, e2⟩
    have h3 := X.same.trans h2
    rw [List.append_nil] at h3
    exact h3.mono hc hs
  refine ⟨U, ?_, .threw T.heap.size, hrun, hend, Or.inr ⟨T.heap.size, rfl, cls, ce, locs, hx U hWs.alike f1 (fun q hq => f2 q hq (fun z hz => nomatch hz)), hce, hO.vm, hcl, hWs, hall, hf⟩⟩
  refine st1 _ ?_
  show Steps p.tables e below (T1.setTop { method := m, pc := pc + 3, locals := ls, stack := .ref T.heap.size :: rest, locked := none }) _
  jvm_step X₁.here [X₁.here.top, hexec, d3', Value.category]
  exact X₁.ldcStringW hexec (own := own) (text := text) (index := is) (a := sa) hown' hstr'.1 hstr'.2
    (g := { method := m, pc := pc + 4, locals := ls, stack := .ref T.heap.size :: .ref T.heap.size :: rest, locked := none }) rfl d4' _ hsteps
end Ends
section Bodies
variable {l : Launch}
theorem vx_ofW {y : MethodName} {ws ws' : List Cond} {rm : Room} {Pc : Array Value → State → Prop} {Qc : Array Value → State → Outcome → State → Prop} {XC : String → State → State → Prop} {mc ms : Nat} {free : Addr → Prop} {cc : ByteArray} {maxL : Nat} {ret : Option FieldType}
    (hy : plainName y.cls = true) (hw : ws = Cond.code y cc maxL ret :: ws')
    (body : ∀ p e s m args below meth c s₁, BodyLoose p l y (headSpec ws rm) cc maxL ret e s m args below meth c s₁ → c.maxLocals = maxL → (∀ x ∈ c.exceptionTable.toList, False) → Pc args s →
      W p l e (headSpec ws rm).room s m args below meth c s.heap [] 0 0 (vx_MQ below Qc XC args s mc ms free) (entryFrame m args maxL)) : vx_Met l y ws rm Pc Qc XC mc ms free := by
  refine MetFree.of_bodyS (code := cc) (maxLocals := maxL) (ret := ret) hy ?_ ?_
  · intro args s m h hn
    obtain ⟨meth, c, h1, h2, h3, h4, h5, h6, -, -⟩ := Cond.code_spec hn (atoms_spec (ws := ws) h _ (by rw [hw]; exact List.mem_cons_self))
    exact ⟨meth, c, h1, h2, h3, h4, h5, h6⟩
  · intro p e s m args below meth c s₁ B hml hP _
    have hh0 : s₁.heap = s.heap := by rw [B.state]; rfl
    have ht : ∀ x ∈ c.exceptionTable.toList, False := by
      obtain ⟨meth9, c9, h1, h2, -, -, -, -, h7, -⟩ := Cond.code_spec B.named (atoms_spec (ws := ws) B.pre _ (by rw [hw]; exact List.mem_cons_self))
      cases Option.some.inj (h1.symm.trans B.method)
      cases Option.some.inj (h2.symm.trans (Stand.of_body B).code)
      intro x hx
      rw [Array.isEmpty_iff.mp h7] at hx
      cases hx
    obtain ⟨t, a1, o, b1, b2, b3⟩ := body p e s m args below meth c s₁ B hml ht hP s₁ hh0 (Stand.of_body B)
    exact ⟨t, o, a1, b1, b2, b3⟩
/-- the table of a body with handlers -/
theorem vx_table {p : Program} {x y : MethodName} {S : Spec} {cc bytes : ByteArray} {maxL maxL' : Nat} {ret ret' : Option FieldType} {e : Env} {s s₁ : State} {m : MethodId} {args : Array Value} {below : List Frame} {meth : Method} {c : Code} {hh : List (Nat × Nat × Nat × Nat)}
    (B : BodyLoose p l y S cc maxL ret e s m args below meth c s₁) (h : (Cond.codeWith y bytes maxL' ret' hh).before args s = true) : c.exceptionTable.toList = tableOf hh := by
  obtain ⟨m9, meth9, c9, hn9, h1, h2, -, -, h6, -⟩ := Cond.codeWith_spec h
  cases Option.some.inj (hn9.symm.trans B.named)
  cases Option.some.inj (h1.symm.trans B.method)
  cases Option.some.inj (h2.symm.trans (Stand.of_body B).code)
  rw [← h6, table_eq]
end Bodies
end VXA
/-! ===== END ===== -/
/-! ===== BEGIN a static call of a method with an exception table ===== -/
section VXS
variable {p : Program} {l : Launch} {e : Env} {R : Room} {s : State} {m : MethodId} {args : Array Value} {below : List Frame} {meth : Method} {c : Code} {T : State} {H : Heap} {locs : List Loc} {cells slots : Nat}
abbrev vx_CSW (R : Room) (s : State) (args : Array Value) (own : String) (index : Nat) (y : MethodName) (bytes : ByteArray) (maxL : Nat) (ret : Option FieldType) (hh : List (Nat × Nat × Nat × Nat)) (ws : List Cond) (rm : Room) (mc ms n : Nat) : Prop :=
  (rm.cells = mc ∧ rm.slots = ms ∧ rm.frames + 1 ≤ R.frames ∧ 8 + (maxL + 11) + rm.locals ≤ R.locals ∧ (∀ w ∈ ws, ∀ (a' : Array Value) (U : State), s.WarmedH U.vm → w.before a' U = true) ∧ Cond.codeWith y bytes maxL ret hh ∈ ws) ∧
  (Cond.codeWith y bytes maxL ret hh).before args s = true ∧ (Cond.initialized y.cls).before args s = true ∧ (y.cls ≠ "java/lang/invoke/MethodHandle" ∧ y.cls ≠ "java/lang/invoke/VarHandle") ∧
  (∀ sig, parseMethodDescriptor y.desc = some sig → n = sig.parameters.length) ∧ (Cond.methodLink own index y).before args s = true ∧ (Cond.static y).before args s = true
theorem vx_cwSW {own : String} {index maxL mc ms : Nat} {y : MethodName} {bytes : ByteArray} {ret : Option FieldType} {hh : List (Nat × Nat × Nat × Nat)} {Ts ws ws' : List Cond} {rm : Room} (n : Nat) (ht : ∀ w ∈ Ts, w.before args s = true) (hT : GoodIn Ts (va_wsS own index y ws)) (hw : ws = Cond.codeWith y bytes maxL ret hh :: ws') (hrc : rm.cells = mc) (hrs : rm.slots = ms)
    (hd : y.cls ≠ "java/lang/invoke/MethodHandle" ∧ y.cls ≠ "java/lang/invoke/VarHandle" ∧ (parseMethodDescriptor y.desc).map (fun d => d.parameters.length) = some n) (hR : rm.frames + 1 ≤ R.frames ∧ 8 + (maxL + 11) + rm.locals ≤ R.locals) :
    vx_CSW R s args own index y bytes maxL ret hh ws rm mc ms n := by
  have ok : ∀ w ∈ va_wsS own index y ws, w.before args s = true := fun w h => ht w (hT w h).1
  have hG : GoodIn Ts ws := fun w h => hT w (by unfold va_wsS; exact List.mem_append_right _ h)
  have hc : Cond.codeWith y bytes maxL ret hh ∈ ws := by rw [hw]; exact List.mem_cons_self
  refine ⟨⟨hrc, hrs, hR.1, hR.2, pay_in ht hG, hc⟩, ht _ (hG _ hc).1, ok _ (by simp [va_wsS]), ⟨hd.1, hd.2.1⟩, fun sig h => ?_, ok _ (by simp [va_wsS]), ok _ (by simp [va_wsS])⟩
  have h2 := hd.2.2
  rw [h] at h2
  exact (Option.some.inj h2).symm
theorem vx_callSW (X : Stand p l e R s m args below meth c T locs cells slots) (hexec : p.tables.exec = Jvm.exec) {own : String} {index : Nat} {y : MethodName} {bytes : ByteArray} {maxL : Nat} {ret : Option FieldType} {hh : List (Nat × Nat × Nat × Nat)}
    (hown : s.vm.findClass own = some m.cls) (hlink : (Cond.methodLink own index y).before args s = true) (hstat : (Cond.static y).before args s = true) (hinit : (Cond.initialized y.cls).before args s = true)
    (hcode : (Cond.codeWith y bytes maxL ret hh).before args s = true) (hy : y.cls ≠ "java/lang/invoke/MethodHandle" ∧ y.cls ≠ "java/lang/invoke/VarHandle")
    {W9 : Nat} {Pre : Pt → Array Value → Prop} {Post : Pt → Array Value → Option Value → Pt → Prop} (hK : Back l R p e below s args y 3 W9 Pre Post)
    {g : JFrame} (hg : g.method = m) (hsize : g.locals.size = c.maxLocals) {argsL rest : List Value} (hlen : ∀ sig, parseMethodDescriptor y.desc = some sig → argsL.length = sig.parameters.length)
    (hstack : g.stack = argsL.reverse ++ rest) (hW : 2 * g.monitorRoom + (rest.map fun v => v.category).sum ≤ W9) (hdg : decode c.code g.pc = .ok (.invokestatic index, 3))
    (hpre : ∀ vm₁, s.WarmedH vm₁ → Pre ⟨T.setVm vm₁, locs, cells, slots⟩ argsL.toArray) :
    ∃ (v : Option Value) (vm₁ : Vm) (B : Pt), s.WarmedH vm₁ ∧ Stand p l e R s m args below meth c B.U B.locs B.cells B.slots ∧ Post ⟨T.setVm vm₁, locs, cells, slots⟩ argsL.toArray v B ∧
      ∀ target, Steps p.tables e below (B.U.setTop { g with pc := g.pc + 3, stack := v.toList ++ rest }) target → Steps p.tables e below (T.setTop g) target := by
  obtain ⟨mk, methM, cM, hnamed, hmethM, -, -, -, -, -, -, hsigM⟩ := Cond.codeWith_spec hcode
  have hstatic : methM.isStatic = true := Cond.static_spec hnamed hmethM hstat
  obtain ⟨kP, hkP, -⟩ := className_of_methodNamed hnamed
  have hinitP : kP.init = .initialized := Cond.initialized_spec (findClass_of_methodNamed hnamed) hkP hinit
  obtain ⟨vm₁, X₁, hstep₁⟩ := X.invokestatic hexec hown hlink hnamed hmethM hstatic hkP hinitP hy (g := g) hg (argsL := argsL) (rest := rest) (hlen _ hsigM) hstack hdg
  obtain ⟨v, B, X', hpost, hsteps⟩ := hK m meth c ⟨T.setVm vm₁, locs, cells, slots⟩ { g with stack := rest } (.invokestatic index) mk argsL.toArray X₁ hg hsize hdg hW (X₁.named hnamed) (hpre vm₁ X₁.warmed)
  exact ⟨v, vm₁, B, X₁.warmed, X', hpost, fun target h => hstep₁ _ fun acts => by rw [doInvoke_state]; exact hsteps.trans h⟩
theorem vx_runSW {y : MethodName} {bytes cc : ByteArray} {maxL nL mc ms n index : Nat} {ret : Option FieldType} {hh : List (Nat × Nat × Nat × Nat)} {ws : List Cond} {rm : Room} {Pc : Array Value → State → Prop} {Qc : Array Value → State → Outcome → State → Prop} {free : Addr → Prop} {Ts : List Cond} {own : String} {As rest : List Value} {g : JFrame}
    (S : CallFix p m c cc nL s args Ts own) (hM : Met l y ws rm Pc Qc mc ms free) (cw : vx_CSW R s args own index y bytes maxL ret hh ws rm mc ms n) (hp : PreS s H Pc As)
    (hg : g.method = m) (hn : As.length = n) (hsize : g.locals.size = nL) (hstack : g.stack = As.reverse ++ rest) (hW : 2 * g.monitorRoom + (rest.map fun v => v.category).sum ≤ 8) (hdg : decode cc g.pc = .ok (.invokestatic index, 3)) (hf : cells + mc ≤ R.cells ∧ slots + ms ≤ R.slots) :
    va_Run p l e R s m args below meth c H locs cells slots mc ms g rest (Qc As.toArray) (free) := by
  obtain ⟨⟨hrc, hrs, hfr, hlo, hws, hcw⟩, hcode, hini, hy, hlen, hl, hstt⟩ := cw
  have hK : Back l R p e below s args y 3 8 (PreOf R mc ms Pc) (PostOf Qc mc ms free) := va_backW (hh := hh) (bytes := bytes) (maxL := maxL) (ret := ret) hM hp.1 hrc hrs hfr hlo hws hcw (fun a' U hW => word_at hW (Or.inl (by first | rfl | simp [Cond.onTables, Cond.keeps, Cond.steady])) hini)
  obtain ⟨hx, hb, hml, ho, -⟩ := S
  intro T hT X
  obtain ⟨v, vm₁, ⟨U', l2, c2, s2⟩, hW₁, X', ⟨g', mk, t, L, e1, e2, hq, h1, hL, h2, h3⟩, st⟩ := vx_callSW X hx (hh := hh) (bytes := bytes) (maxL := maxL) (ret := ret) ho hl hstt hini hcode hy hK hg (hsize.trans hml.symm) (argsL := As) (rest := rest) (fun sig h => hn.trans (hlen sig h)) hstack hW (by rw [hb]; exact hdg)
    (fun vm₁ hW₁ => ⟨hf.1, hf.2, hp.2 (T.setVm vm₁) hT hW₁⟩)
  dsimp only [Pt.U, Pt.locs, Pt.cells, Pt.slots] at X' e1 e2 h1 h2 h3 st
  subst h1; subst h2; subst h3
  exact ⟨v, (T.setVm vm₁).calling g' mk As.toArray, t, U', L, hT, X', hL, e1, e2, hq, st⟩
/-- not caught here, past rows that name other classes: it goes on to the caller -/
theorem vx_outP {p : Program} {l : Launch} {e : Env} {R : Room} {s : State} {m : MethodId} {args : Array Value} {below : List Frame} {meth : Method} {c : Code} {H : Heap} {locs : List Loc} {cells slots : Nat} {free : Addr → Prop} {ls : Array Slot} {rest : List Value} {Qc : Array Value → State → Outcome → State → Prop} {XC : String → State → State → Prop}
    {pc : Nat} {own E : String} {ce : Cell} {q : Addr} {mc ms : Nat} (hown : s.vm.findClass own = some m.cls) (hlocks : meth.locks = false)
    (hpass : ∀ z ∈ c.exceptionTable.toList, covers z pc = false ∨ (z.catchType ≠ 0 ∧ ∃ nm : String, (Cond.classLink own z.catchType nm).before args s = true ∧ va_Nc E nm s)) (hcell : H[q]? = some ce) (hv : ce.vm = .none) (hcl : s.vm.findClass E = some ce.cls)
    (hx : ∀ t : State, t.heap = H → s.vm.Alike t.vm → XC E s t) (hf : ∀ z ∈ locs, free z.base) (hc : cells ≤ mc) (hs : slots ≤ ms) :
    vx_W p l e R s m args below meth c H locs cells slots (vx_MQ below Qc XC args s mc ms free) (F0 m pc ls rest) q := by
  intro T hT X
  have hpl : e.platform.magicAccessors = ({} : Platform).magicAccessors := by rw [X.admits.platform]
  obtain ⟨vm', hW', X', st⟩ := X.outThrough hlocks q (g := F0 m pc ls rest) rfl rfl rfl (cell := ce) (by rw [hT]; exact hcell) (by rw [hv]; rfl)
    (by obtain ⟨k9, h9, -⟩ := Vm.findClass_spec hcl; exact ⟨k9, h9⟩) (fun z hz => by
      rcases hpass z hz with h | ⟨hz0, nm, hl1, hn1⟩
      · exact Or.inl h
      · obtain ⟨c6, hc6, hcl6⟩ := Cond.classLink_spec hown hl1 e.platform hpl
        obtain ⟨a8, b8, h1, h2, h3⟩ := hn1
        cases Option.some.inj (h1.symm.trans hcl)
        cases Option.some.inj (h2.symm.trans hc6)
        exact Or.inr ⟨hz0, _, hcl6, h3⟩)
  obtain ⟨g₀, hfr⟩ := X'.frames_eq
  have hcell9 : ((T.setVm vm').setFrames (.throwing q :: below)).heap[q]? = some ce := by
    show T.heap[q]? = some ce
    rw [hT]; exact hcell
  have hend : Ended ((T.setVm vm').setFrames (.throwing q :: below)) below (.threw q) := State.frames_setFrames _ (State.cur_lt_of_frames hfr)
  refine ⟨(T.setVm vm').setFrames (.throwing q :: below), ?_, .threw q, X'.here.running, hend, Or.inr ⟨q, rfl, E, ce, locs, hx _ hT (X'.ends _).1.alike, hcell9, hv, hcl, (X'.ends _).1, (X'.ends _).2.mono hc hs, hf⟩⟩
  rw [X.pushThrowing_eq]
  exact st
/-- a thing of a world lies in the heap -/
theorem vx_lt {D : va_G} {cl : List vw_C} {ws : va_W} {H1 : Heap} (h : va_P D cl ws H1) {k : Nat} {q : Nat × va_E} (hk : ws[k]? = some q) : q.1 < H1.size := (h k q hk).lt
end VXS
/-! ===== END ===== -/
/-! ===== BEGIN methods with a table of their own: called by a name, returning or throwing ===== -/
section VXH
/-! vx_backW, vx_callVX, vx_callSX, vx_callVW, vx_runVW, vx_runVX, vx_runSX, vx_ofWH follow the same proofs as their sisters above (Free/Laws.lean, Shelf42/LK1.lean); vx_outP calls Shelf42/NT130.lean (outThrough). -/
section
variable {l : Launch} {R : Room} {p : Program} {e : Env} {below : List Frame} {s : State} {sargs : Array Value} {y : MethodName} {len W9 : Nat}
theorem vx_backW {ws : List Cond} {rm : Room} {Pc : Array Value → State → Prop} {Qc : Array Value → State → Outcome → State → Prop} {XC : String → State → State → Prop} {mc ms : Nat} {free : Addr → Prop} {bytes : ByteArray} {maxL : Nat} {ret : Option FieldType} {hh : List (Nat × Nat × Nat × Nat)}
    (hM : vx_Met l y ws rm Pc Qc XC mc ms free) (hblind : FrameBlind Pc) (hrc : rm.cells = mc) (hrs : rm.slots = ms)
    (hframes : rm.frames + 1 ≤ R.frames) (hlocals : W9 + (maxL + 11) + rm.locals ≤ R.locals)
    (hws : ∀ w ∈ ws, ∀ a' U, s.WarmedH U.vm → w.before a' U = true) (hcode : Cond.codeWith y bytes maxL ret hh ∈ ws) (hinit : ∀ a' U, s.WarmedH U.vm → (Cond.initialized y.cls).before a' U = true) :
    vx_Back l R p e below s sargs y len W9 (PreOf R mc ms Pc) (PostOf Qc mc ms free) (vx_Post XC mc ms free) := by
  intro m meth c A g ig mk a X hg hsize hdg hW hn hp
  have h1 : (headSpec ws rm).pre.before a A.U = true := atoms_intro fun w hw => hws w hw _ _ X.warmed
  have h2 : (Cond.codeWith y bytes maxL ret hh).before a A.U = true := hws _ hcode _ _ X.warmed
  have h3 : (Cond.initialized y.cls).before a A.U = true := hinit _ _ X.warmed
  have h4 : A.cells + (headSpec ws rm).room.cells ≤ R.cells := by rw [show (headSpec ws rm).room.cells = mc from hrc]; exact hp.1
  have h5 : A.slots + (headSpec ws rm).room.slots ≤ R.slots := by rw [show (headSpec ws rm).room.slots = ms from hrs]; exact hp.2.1
  have hPc : Pc a (A.U.calling g mk a) := hblind _ _ _ _ hp.2.2
  obtain ⟨U, Ls, c0, s0⟩ := A
  dsimp only [Pt.U, Pt.locs, Pt.cells, Pt.slots] at h1 h2 h3 h4 h5 X hn hPc ⊢
  obtain ⟨m9, methY, cY, hn9, hmY, hcY, -, hlY, -⟩ := Cond.codeWith_spec h2
  cases Option.some.inj (hn9.symm.trans hn)
  obtain ⟨kY, hkY, -⟩ := className_of_methodNamed hn
  have hinitY : kY.init = .initialized := Cond.initialized_spec (findClass_of_methodNamed hn) hkY h3
  have h : At U g.method c below := by rw [hg]; exact X.here
  have hlocals9 : W9 + (maxL + 11) + (headSpec ws rm).room.locals ≤ R.locals := hlocals
  have happ : (headSpec ws rm).appliesLoose y e.platform (U.calling g mk a) = true :=
    Spec.appliesLoose_calling (g := g) h hdg hn hkY hinitY
      (X.room_calling (g := g) (R' := (headSpec ws rm).room) hsize hmY hcY hframes (by rw [hlY]; omega) h4 h5) h1
  obtain ⟨mid, hmid⟩ := h.above
  have hfr : (U.setTop g).frames = (.java g :: mid) ++ below := by rw [State.frames_setTop' g h.top, hmid]; rfl
  obtain ⟨o, s₂, hsteps, -, hend, hq⟩ := Steps.callFree hM p X.admits X.cas X.clock (acts := []) hfr happ hPc trivial
  have hq' : vx_Q Qc XC mc ms free a (U.calling g mk a) o s₂ := hq
  rw [State.frames_setTop' g h.top] at hend
  obtain ⟨g₀, hg0⟩ := Option.isSome_iff_exists.mp h.top
  obtain ⟨r, hr⟩ := State.topJava?_eq_some.mp hg0
  have hr' : (({ U with heap := s₂.heap, slotsUsed := s₂.slotsUsed } : State).setVm s₂.vm).frames = .java g₀ :: r := hr
  rcases hq' with ⟨hqc, L, hfe, hL⟩ | ⟨q, rfl, E, ce, L, hx, hce, hcv, hcl, hW₂, hsm, hL⟩
  · obtain ⟨⟨v, rfl⟩, hW₂, e2, q2, q3, q4, q5, q6⟩ := id hfe
    have e3 : s₂ = ({ (U.calling g mk a).setFrames s₂.frames with heap := s₂.heap, slotsUsed := s₂.slotsUsed } : State).setVm s₂.vm := by
      have : s₂ = ({ s₂ with vm := (U.calling g mk a).vm } : State).setVm s₂.vm := rfl
      rw [e2] at this
      exact this
    obtain ⟨c₂, i₂, len₂, hc₂, hd₂, hf₂⟩ := hend
    have hW' : U.WarmedH s₂.vm := hW₂
    have hcc : c₂ = c := by
      have h1 : s₂.code? g.method = U.code? g.method := by
        rw [State.code?_eq, State.code?_eq, hW'.alike.method?]
      exact Option.some.inj (hc₂.symm.trans (h1.trans h.code))
    subst hcc
    have hlen : len₂ = len := by rw [hdg] at hd₂; cases hd₂; rfl
    subst hlen
    have hs₂ : s₂ = (({ U with heap := s₂.heap, slotsUsed := s₂.slotsUsed } : State).setVm s₂.vm).setTop { g with pc := g.pc + len₂, stack := v.toList ++ g.stack } := by
      refine e3.trans ?_
      rw [hf₂, State.calling_eq h.top, State.setFrames_setFrames, State.setTop_of_frames _ hr', hr]
      rfl
    have hsame : U.sameButNew ({ U with heap := s₂.heap, slotsUsed := s₂.slotsUsed } : State) L mc ms := by
      refine ⟨?_, q2, q3, q4, q5, q6⟩
      obtain ⟨t, ht, -⟩ := State.frames_cons hr
      show ({ U with heap := s₂.heap, slotsUsed := s₂.slotsUsed } : State) = { U.setFrames U.frames with heap := s₂.heap, slotsUsed := s₂.slotsUsed }
      rw [State.setFrames_self ht]
    subst hg
    refine Or.inl ⟨v, ⟨(({ U with heap := s₂.heap, slotsUsed := s₂.slotsUsed } : State).setVm s₂.vm), Ls ++ L, c0 + mc, s0 + ms⟩,
      ⟨X.admits, X.cas, X.clock, X.frames, X.room, X.hears, X.method, X.code, (X.here.setHeapUsed s₂.heap s₂.slotsUsed).setVm hW'.alike, X.tail, State.WarmedH.trans X.warmed hW', X.limits, X.bytes, X.same.trans (hsame.setVm s.vm)⟩,
      ⟨g, mk, s₂, L, rfl, rfl, hqc, rfl, hL, rfl, rfl⟩, ?_⟩
    show Steps p.tables e below _ ((({ U with heap := s₂.heap, slotsUsed := s₂.slotsUsed } : State).setVm s₂.vm).setTop { g with pc := g.pc + len₂, stack := v.toList ++ g.stack })
    rw [← hs₂]
    exact hsteps
  · obtain ⟨e2, q2, q3, q4, q5, q6⟩ := id hsm
    have e3 : s₂ = ({ (U.calling g mk a).setFrames s₂.frames with heap := s₂.heap, slotsUsed := s₂.slotsUsed } : State).setVm s₂.vm := by
      have : s₂ = ({ s₂ with vm := (U.calling g mk a).vm } : State).setVm s₂.vm := rfl
      rw [e2] at this
      exact this
    have hf₂ : s₂.frames = .throwing q :: .java g :: U.frames.tail := hend
    have hW' : U.WarmedH s₂.vm := hW₂
    have hs₂ : s₂ = ((({ U with heap := s₂.heap, slotsUsed := s₂.slotsUsed } : State).setVm s₂.vm).setTop g).pushFrame (.throwing q) := by
      refine e3.trans ?_
      rw [hf₂, State.calling_eq h.top, State.setFrames_setFrames, State.pushFrame, State.frames_setTop _ hr', State.setTop_of_frames _ hr', State.setFrames_setFrames, hr]
      rfl
    have hsame : U.sameButNew ({ U with heap := s₂.heap, slotsUsed := s₂.slotsUsed } : State) L mc ms := by
      refine ⟨?_, q2, q3, q4, q5, q6⟩
      obtain ⟨t, ht, -⟩ := State.frames_cons hr
      show ({ U with heap := s₂.heap, slotsUsed := s₂.slotsUsed } : State) = { U.setFrames U.frames with heap := s₂.heap, slotsUsed := s₂.slotsUsed }
      rw [State.setFrames_self ht]
    subst hg
    refine Or.inr ⟨q, ⟨(({ U with heap := s₂.heap, slotsUsed := s₂.slotsUsed } : State).setVm s₂.vm), Ls ++ L, c0 + mc, s0 + ms⟩,
      ⟨X.admits, X.cas, X.clock, X.frames, X.room, X.hears, X.method, X.code, (X.here.setHeapUsed s₂.heap s₂.slotsUsed).setVm hW'.alike, X.tail, State.WarmedH.trans X.warmed hW', X.limits, X.bytes, X.same.trans (hsame.setVm s.vm)⟩,
      ⟨g, mk, s₂, L, E, ce, rfl, rfl, hx, hce, hcv, hcl, rfl, hL, rfl, rfl⟩, ?_⟩
    show Steps p.tables e below _ (((({ U with heap := s₂.heap, slotsUsed := s₂.slotsUsed } : State).setVm s₂.vm).setTop g).pushFrame (.throwing q))
    rw [← hs₂]
    exact hsteps
end
variable {p : Program} {l : Launch} {e : Env} {R : Room} {s : State} {m : MethodId} {args : Array Value} {below : List Frame} {meth : Method} {c : Code} {T : State} {H : Heap} {locs : List Loc} {cells slots : Nat}
theorem vx_callVX (X : Stand p l e R s m args below meth c T locs cells slots) (hexec : p.tables.exec = Jvm.exec) {own C : String} {index : Nat} {y : MethodName} {bytes : ByteArray} {maxL : Nat} {ret : Option FieldType} {hh : List (Nat × Nat × Nat × Nat)}
    (hown : s.vm.findClass own = some m.cls) (hlink : (Cond.methodLink own index y).before args s = true) (hinst : (Cond.instanceMethod y).before args s = true) (hsel : (Cond.selects C y y).before args s = true)
    (hcode : (Cond.codeWith y bytes maxL ret hh).before args s = true) (hy : y.cls ≠ "java/lang/invoke/MethodHandle" ∧ y.cls ≠ "java/lang/invoke/VarHandle")
    {W9 : Nat} {Pre : Pt → Array Value → Prop} {Post : Pt → Array Value → Option Value → Pt → Prop} {PostX : Pt → Array Value → Addr → Pt → Prop} (hK : vx_Back l R p e below s args y 3 W9 Pre Post PostX)
    {b : Addr} {cellB : Cell} (hcell : T.heap[b]? = some cellB) (hobj : cellB.vm.isStatics = false) (hcls : s.vm.findClass C = some cellB.cls)
    {g : JFrame} (hg : g.method = m) (hsize : g.locals.size = c.maxLocals) {argsL rest : List Value} (hlen : ∀ sig, parseMethodDescriptor y.desc = some sig → argsL.length = sig.parameters.length)
    (hstack : g.stack = argsL.reverse ++ .ref b :: rest) (hW : 2 * g.monitorRoom + (rest.map fun v => v.category).sum ≤ W9) (hdg : decode c.code g.pc = .ok (.invokevirtual index, 3))
    (hpre : ∀ vm₁, s.WarmedH vm₁ → Pre ⟨T.setVm vm₁, locs, cells, slots⟩ (Value.ref b :: argsL).toArray) :
    (∃ (v : Option Value) (vm₁ : Vm) (B : Pt), s.WarmedH vm₁ ∧ Stand p l e R s m args below meth c B.U B.locs B.cells B.slots ∧ Post ⟨T.setVm vm₁, locs, cells, slots⟩ (Value.ref b :: argsL).toArray v B ∧
      ∀ target, Steps p.tables e below (B.U.setTop { g with pc := g.pc + 3, stack := v.toList ++ rest }) target → Steps p.tables e below (T.setTop g) target) ∨
    (∃ (q : Addr) (vm₁ : Vm) (B : Pt), s.WarmedH vm₁ ∧ Stand p l e R s m args below meth c B.U B.locs B.cells B.slots ∧ PostX ⟨T.setVm vm₁, locs, cells, slots⟩ (Value.ref b :: argsL).toArray q B ∧
      Steps p.tables e below (T.setTop g) ((B.U.setTop { g with stack := rest }).pushFrame (.throwing q))) := by
  obtain ⟨mk, methM, hnamed, hmethM, hstM, habM⟩ := Cond.instanceMethod_spec hinst
  obtain ⟨m8, methM', cM, hn8, hmethM', -, -, -, -, -, -, hsigM⟩ := Cond.codeWith_spec hcode
  cases Option.some.inj (hn8.symm.trans hnamed)
  cases hmethM.symm.trans hmethM'
  obtain ⟨c2, r2, m2, q1, q2, q3, q4, kP, hkP, hkPi⟩ := Cond.selects_spec hsel
  cases hcls.symm.trans q1
  cases (State.methodFound?_of_named hnamed hy).symm.trans q2
  cases hnamed.symm.trans q3
  have hselP : selectMethod e.platform s.vm cellB.cls mk = .method mk := by rw [Launch.admits_selectMethod X.admits]; exact q4
  obtain ⟨vm₁, X₁, hstep₁⟩ := X.invokevirtual hexec hown hlink hnamed hmethM hstM hkP hkPi hy (a := b) (cell := cellB) hcell
    (fun z h => by rw [h] at hobj; cases hobj) hselP hmethM habM hkP hkPi (g := g) hg (argsL := argsL) (rest := rest) (hlen _ hsigM) hstack hdg
  rcases hK m meth c ⟨T.setVm vm₁, locs, cells, slots⟩ { g with stack := rest } (.invokevirtual index) mk (Value.ref b :: argsL).toArray X₁ hg hsize hdg hW (X₁.named hnamed) (hpre vm₁ X₁.warmed) with ⟨v, B, X', hpost, hsteps⟩ | ⟨q, B, X', hpost, hsteps⟩
  · exact Or.inl ⟨v, vm₁, B, X₁.warmed, X', hpost, fun target h => hstep₁ _ fun acts => by rw [doInvoke_state]; exact hsteps.trans h⟩
  · exact Or.inr ⟨q, vm₁, B, X₁.warmed, X', hpost, hstep₁ _ fun acts => by rw [doInvoke_state]; exact hsteps⟩
theorem vx_callSX (X : Stand p l e R s m args below meth c T locs cells slots) (hexec : p.tables.exec = Jvm.exec) {own : String} {index : Nat} {y : MethodName} {bytes : ByteArray} {maxL : Nat} {ret : Option FieldType} {hh : List (Nat × Nat × Nat × Nat)}
    (hown : s.vm.findClass own = some m.cls) (hlink : (Cond.methodLink own index y).before args s = true) (hstat : (Cond.static y).before args s = true) (hinit : (Cond.initialized y.cls).before args s = true)
    (hcode : (Cond.codeWith y bytes maxL ret hh).before args s = true) (hy : y.cls ≠ "java/lang/invoke/MethodHandle" ∧ y.cls ≠ "java/lang/invoke/VarHandle")
    {W9 : Nat} {Pre : Pt → Array Value → Prop} {Post : Pt → Array Value → Option Value → Pt → Prop} {PostX : Pt → Array Value → Addr → Pt → Prop} (hK : vx_Back l R p e below s args y 3 W9 Pre Post PostX)
    {g : JFrame} (hg : g.method = m) (hsize : g.locals.size = c.maxLocals) {argsL rest : List Value} (hlen : ∀ sig, parseMethodDescriptor y.desc = some sig → argsL.length = sig.parameters.length)
    (hstack : g.stack = argsL.reverse ++ rest) (hW : 2 * g.monitorRoom + (rest.map fun v => v.category).sum ≤ W9) (hdg : decode c.code g.pc = .ok (.invokestatic index, 3))
    (hpre : ∀ vm₁, s.WarmedH vm₁ → Pre ⟨T.setVm vm₁, locs, cells, slots⟩ argsL.toArray) :
    (∃ (v : Option Value) (vm₁ : Vm) (B : Pt), s.WarmedH vm₁ ∧ Stand p l e R s m args below meth c B.U B.locs B.cells B.slots ∧ Post ⟨T.setVm vm₁, locs, cells, slots⟩ argsL.toArray v B ∧
      ∀ target, Steps p.tables e below (B.U.setTop { g with pc := g.pc + 3, stack := v.toList ++ rest }) target → Steps p.tables e below (T.setTop g) target) ∨
    (∃ (q : Addr) (vm₁ : Vm) (B : Pt), s.WarmedH vm₁ ∧ Stand p l e R s m args below meth c B.U B.locs B.cells B.slots ∧ PostX ⟨T.setVm vm₁, locs, cells, slots⟩ argsL.toArray q B ∧
      Steps p.tables e below (T.setTop g) ((B.U.setTop { g with stack := rest }).pushFrame (.throwing q))) := by
  obtain ⟨mk, methM, cM, hnamed, hmethM, -, -, -, -, -, -, hsigM⟩ := Cond.codeWith_spec hcode
  have hstatic : methM.isStatic = true := Cond.static_spec hnamed hmethM hstat
  obtain ⟨kP, hkP, -⟩ := className_of_methodNamed hnamed
  have hinitP : kP.init = .initialized := Cond.initialized_spec (findClass_of_methodNamed hnamed) hkP hinit
  obtain ⟨vm₁, X₁, hstep₁⟩ := X.invokestatic hexec hown hlink hnamed hmethM hstatic hkP hinitP hy (g := g) hg (argsL := argsL) (rest := rest) (hlen _ hsigM) hstack hdg
  rcases hK m meth c ⟨T.setVm vm₁, locs, cells, slots⟩ { g with stack := rest } (.invokestatic index) mk argsL.toArray X₁ hg hsize hdg hW (X₁.named hnamed) (hpre vm₁ X₁.warmed) with ⟨v, B, X', hpost, hsteps⟩ | ⟨q, B, X', hpost, hsteps⟩
  · exact Or.inl ⟨v, vm₁, B, X₁.warmed, X', hpost, fun target h => hstep₁ _ fun acts => by rw [doInvoke_state]; exact hsteps.trans h⟩
  · exact Or.inr ⟨q, vm₁, B, X₁.warmed, X', hpost, hstep₁ _ fun acts => by rw [doInvoke_state]; exact hsteps⟩
theorem vx_callVW (X : Stand p l e R s m args below meth c T locs cells slots) (hexec : p.tables.exec = Jvm.exec) {own C : String} {index : Nat} {y : MethodName} {bytes : ByteArray} {maxL : Nat} {ret : Option FieldType} {hh : List (Nat × Nat × Nat × Nat)}
    (hown : s.vm.findClass own = some m.cls) (hlink : (Cond.methodLink own index y).before args s = true) (hinst : (Cond.instanceMethod y).before args s = true) (hsel : (Cond.selects C y y).before args s = true)
    (hcode : (Cond.codeWith y bytes maxL ret hh).before args s = true) (hy : y.cls ≠ "java/lang/invoke/MethodHandle" ∧ y.cls ≠ "java/lang/invoke/VarHandle")
    {W9 : Nat} {Pre : Pt → Array Value → Prop} {Post : Pt → Array Value → Option Value → Pt → Prop} (hK : Back l R p e below s args y 3 W9 Pre Post)
    {b : Addr} {cellB : Cell} (hcell : T.heap[b]? = some cellB) (hobj : cellB.vm.isStatics = false) (hcls : s.vm.findClass C = some cellB.cls)
    {g : JFrame} (hg : g.method = m) (hsize : g.locals.size = c.maxLocals) {argsL rest : List Value} (hlen : ∀ sig, parseMethodDescriptor y.desc = some sig → argsL.length = sig.parameters.length)
    (hstack : g.stack = argsL.reverse ++ .ref b :: rest) (hW : 2 * g.monitorRoom + (rest.map fun v => v.category).sum ≤ W9) (hdg : decode c.code g.pc = .ok (.invokevirtual index, 3))
    (hpre : ∀ vm₁, s.WarmedH vm₁ → Pre ⟨T.setVm vm₁, locs, cells, slots⟩ (Value.ref b :: argsL).toArray) :
    ∃ (v : Option Value) (vm₁ : Vm) (B : Pt), s.WarmedH vm₁ ∧ Stand p l e R s m args below meth c B.U B.locs B.cells B.slots ∧ Post ⟨T.setVm vm₁, locs, cells, slots⟩ (Value.ref b :: argsL).toArray v B ∧
      ∀ target, Steps p.tables e below (B.U.setTop { g with pc := g.pc + 3, stack := v.toList ++ rest }) target → Steps p.tables e below (T.setTop g) target := by
  obtain ⟨mk, methM, hnamed, hmethM, hstM, habM⟩ := Cond.instanceMethod_spec hinst
  obtain ⟨m8, methM', cM, hn8, hmethM', -, -, -, -, -, -, hsigM⟩ := Cond.codeWith_spec hcode
  cases Option.some.inj (hn8.symm.trans hnamed)
  cases hmethM.symm.trans hmethM'
  obtain ⟨c2, r2, m2, q1, q2, q3, q4, kP, hkP, hkPi⟩ := Cond.selects_spec hsel
  cases hcls.symm.trans q1
  cases (State.methodFound?_of_named hnamed hy).symm.trans q2
  cases hnamed.symm.trans q3
  have hselP : selectMethod e.platform s.vm cellB.cls mk = .method mk := by rw [Launch.admits_selectMethod X.admits]; exact q4
  obtain ⟨vm₁, X₁, hstep₁⟩ := X.invokevirtual hexec hown hlink hnamed hmethM hstM hkP hkPi hy (a := b) (cell := cellB) hcell
    (fun z h => by rw [h] at hobj; cases hobj) hselP hmethM habM hkP hkPi (g := g) hg (argsL := argsL) (rest := rest) (hlen _ hsigM) hstack hdg
  obtain ⟨v, B, X', hpost, hsteps⟩ := hK m meth c ⟨T.setVm vm₁, locs, cells, slots⟩ { g with stack := rest } (.invokevirtual index) mk (Value.ref b :: argsL).toArray X₁ hg hsize hdg hW (X₁.named hnamed) (hpre vm₁ X₁.warmed)
  exact ⟨v, vm₁, B, X₁.warmed, X', hpost, fun target h => hstep₁ _ fun acts => by rw [doInvoke_state]; exact hsteps.trans h⟩
abbrev vx_CVW (R : Room) (s : State) (args : Array Value) (own C : String) (index : Nat) (y : MethodName) (bytes : ByteArray) (maxL : Nat) (ret : Option FieldType) (hh : List (Nat × Nat × Nat × Nat)) (ws : List Cond) (rm : Room) (mc ms n : Nat) : Prop :=
  (rm.cells = mc ∧ rm.slots = ms ∧ rm.frames + 1 ≤ R.frames ∧ 8 + (maxL + 11) + rm.locals ≤ R.locals ∧ (∀ w ∈ ws, ∀ (a' : Array Value) (U : State), s.WarmedH U.vm → w.before a' U = true) ∧ Cond.codeWith y bytes maxL ret hh ∈ ws) ∧
  (Cond.codeWith y bytes maxL ret hh).before args s = true ∧ (Cond.initialized y.cls).before args s = true ∧ (y.cls ≠ "java/lang/invoke/MethodHandle" ∧ y.cls ≠ "java/lang/invoke/VarHandle") ∧
  (∀ sig, parseMethodDescriptor y.desc = some sig → n = sig.parameters.length) ∧ (Cond.methodLink own index y).before args s = true ∧ (Cond.instanceMethod y).before args s = true ∧ (Cond.selects C y y).before args s = true
theorem vx_cwVW {own C : String} {index maxL mc ms : Nat} {y : MethodName} {bytes : ByteArray} {ret : Option FieldType} {hh : List (Nat × Nat × Nat × Nat)} {Ts ws ws' : List Cond} {rm : Room} (n : Nat) (ht : ∀ w ∈ Ts, w.before args s = true) (hT : GoodIn Ts (wsV own index C y ws)) (hw : ws = Cond.codeWith y bytes maxL ret hh :: ws') (hrc : rm.cells = mc) (hrs : rm.slots = ms)
    (hd : y.cls = C ∧ y.cls ≠ "java/lang/invoke/MethodHandle" ∧ y.cls ≠ "java/lang/invoke/VarHandle" ∧ (parseMethodDescriptor y.desc).map (fun d => d.parameters.length) = some n) (hR : rm.frames + 1 ≤ R.frames ∧ 8 + (maxL + 11) + rm.locals ≤ R.locals) :
    vx_CVW R s args own C index y bytes maxL ret hh ws rm mc ms n := by
  obtain ⟨hC, hd⟩ := hd
  subst hC
  have ok : ∀ w ∈ wsV own index y.cls y ws, w.before args s = true := fun w h => ht w (hT w h).1
  have hG : GoodIn Ts ws := fun w h => hT w (by unfold wsV; exact List.mem_append_right _ h)
  have hc : Cond.codeWith y bytes maxL ret hh ∈ ws := by rw [hw]; exact List.mem_cons_self
  refine ⟨⟨hrc, hrs, hR.1, hR.2, pay_in ht hG, hc⟩, ht _ (hG _ hc).1, ok _ (by simp [wsV]), ⟨hd.1, hd.2.1⟩, fun sig h => ?_, ok _ (by simp [wsV]), ok _ (by simp [wsV]), ok _ (by simp [wsV])⟩
  have h2 := hd.2.2
  rw [h] at h2
  exact (Option.some.inj h2).symm
theorem vx_runVW {y : MethodName} {bytes cc : ByteArray} {maxL nL mc ms n index : Nat} {ret : Option FieldType} {hh : List (Nat × Nat × Nat × Nat)} {ws : List Cond} {rm : Room} {Pc : Array Value → State → Prop} {Qc : Array Value → State → Outcome → State → Prop} {free : Addr → Prop} {Ts : List Cond} {own C : String} {b : Addr} {As rest : List Value} {g : JFrame}
    (S : CallFix p m c cc nL s args Ts own) (hM : Met l y ws rm Pc Qc mc ms free) (cw : vx_CVW R s args own C index y bytes maxL ret hh ws rm mc ms n) (hp : PreV s H C b Pc As)
    (hg : g.method = m) (hn : As.length = n) (hsize : g.locals.size = nL) (hstack : g.stack = As.reverse ++ .ref b :: rest) (hW : 2 * g.monitorRoom + (rest.map fun v => v.category).sum ≤ 8) (hdg : decode cc g.pc = .ok (.invokevirtual index, 3)) (hf : cells + mc ≤ R.cells ∧ slots + ms ≤ R.slots) :
    va_Run p l e R s m args below meth c H locs cells slots mc ms g rest (Qc (Value.ref b :: As).toArray) free := by
  obtain ⟨⟨hrc, hrs, hfr, hlo, hws, hcw⟩, hcode, hini, hy, hlen, hl, hin, hse⟩ := cw
  have hK : Back l R p e below s args y 3 8 (PreOf R mc ms Pc) (PostOf Qc mc ms free) := va_backW (hh := hh) (bytes := bytes) (maxL := maxL) (ret := ret) hM hp.1 hrc hrs hfr hlo hws hcw (fun a' U hW => word_at hW (Or.inl (by first | rfl | simp [Cond.onTables, Cond.keeps, Cond.steady])) hini)
  obtain ⟨hx, hb, hml, ho, -⟩ := S
  obtain ⟨-, ⟨cellB, hcB, hoB, hclB⟩, hPc⟩ := hp
  intro T hT X
  obtain ⟨v, vm₁, ⟨U', l2, c2, s2⟩, hW₁, X', ⟨g', mk, t, L, e1, e2, hq, h1, hL, h2, h3⟩, st⟩ := vx_callVW X hx (C := C) (hh := hh) (bytes := bytes) (maxL := maxL) (ret := ret) ho hl hin hse hcode hy hK (by rw [hT]; exact hcB) hoB hclB hg (hsize.trans hml.symm) (argsL := As) (rest := rest) (fun sig h => hn.trans (hlen sig h)) hstack hW (by rw [hb]; exact hdg)
    (fun vm₁ hW₁ => ⟨hf.1, hf.2, hPc (T.setVm vm₁) hT hW₁⟩)
  dsimp only [Pt.U, Pt.locs, Pt.cells, Pt.slots] at X' e1 e2 h1 h2 h3 st
  subst h1; subst h2; subst h3
  exact ⟨v, (T.setVm vm₁).calling g' mk (Value.ref b :: As).toArray, t, U', L, hT, X', hL, e1, e2, hq, st⟩
section
variable {y : MethodName} {bytes cc : ByteArray} {maxL nL mc ms n index : Nat} {ret : Option FieldType} {ws : List Cond} {rm : Room} {Pc : Array Value → State → Prop} {Qc : Array Value → State → Outcome → State → Prop} {XC : String → State → State → Prop} {free : Addr → Prop} {Ts : List Cond} {own C : String} {b : Addr} {As rest : List Value} {g : JFrame}
theorem vx_runVX {hh : List (Nat × Nat × Nat × Nat)} (S : CallFix p m c cc nL s args Ts own) (hM : vx_Met l y ws rm Pc Qc XC mc ms free) (cw : vx_CVW R s args own C index y bytes maxL ret hh ws rm mc ms n) (hp : PreV s H C b Pc As)
    (hg : g.method = m) (hn : As.length = n) (hsize : g.locals.size = nL) (hstack : g.stack = As.reverse ++ .ref b :: rest) (hW : 2 * g.monitorRoom + (rest.map fun v => v.category).sum ≤ 8) (hdg : decode cc g.pc = .ok (.invokevirtual index, 3)) (hf : cells + mc ≤ R.cells ∧ slots + ms ≤ R.slots) :
    vx_Run p l e R s m args below meth c H locs cells slots mc ms g rest (Qc (Value.ref b :: As).toArray) XC free := by
  obtain ⟨⟨hrc, hrs, hfr, hlo, hws, hcw⟩, hcode, hini, hy, hlen, hl, hin, hse⟩ := cw
  have hK : vx_Back l R p e below s args y 3 8 (PreOf R mc ms Pc) (PostOf Qc mc ms free) (vx_Post XC mc ms free) := vx_backW (hh := hh) (bytes := bytes) (maxL := maxL) (ret := ret) hM hp.1 hrc hrs hfr hlo hws hcw (fun a' U hW => word_at hW (Or.inl (by first | rfl | simp [Cond.onTables, Cond.keeps, Cond.steady])) hini)
  obtain ⟨hx, hb, hml, ho, -⟩ := S
  obtain ⟨-, ⟨cellB, hcB, hoB, hclB⟩, hPc⟩ := hp
  intro T hT X
  rcases vx_callVX X hx (C := C) (hh := hh) (bytes := bytes) (maxL := maxL) (ret := ret) ho hl hin hse hcode hy hK (by rw [hT]; exact hcB) hoB hclB hg (hsize.trans hml.symm) (argsL := As) (rest := rest) (fun sig h => hn.trans (hlen sig h)) hstack hW (by rw [hb]; exact hdg)
    (fun vm₁ hW₁ => ⟨hf.1, hf.2, hPc (T.setVm vm₁) hT hW₁⟩) with ⟨v, vm₁, ⟨U', l2, c2, s2⟩, hW₁, X', ⟨g', mk, t, L, e1, e2, hq, h1, hL, h2, h3⟩, st⟩ | ⟨q, vm₁, ⟨U', l2, c2, s2⟩, hW₁, X', ⟨g', mk, t, L, E, ce, e1, e2, hq, hce, hcv, hcl, h1, hL, h2, h3⟩, st⟩
  · dsimp only [Pt.U, Pt.locs, Pt.cells, Pt.slots] at X' e1 e2 h1 h2 h3 st
    subst h1; subst h2; subst h3
    exact Or.inl ⟨v, (T.setVm vm₁).calling g' mk (Value.ref b :: As).toArray, t, U', L, hT, X', hL, e1, e2, hq, st⟩
  · dsimp only [Pt.U, Pt.locs, Pt.cells, Pt.slots] at X' e1 e2 h1 h2 h3 st hcl
    subst h1; subst h2; subst h3
    exact Or.inr ⟨q, (T.setVm vm₁).calling g' mk (Value.ref b :: As).toArray, t, U', L, E, ce, hT, X', hL, e1, e2, hq, hce, hcv, vx_cls hW₁ hcl, st⟩
theorem vx_runSX {hh : List (Nat × Nat × Nat × Nat)} (S : CallFix p m c cc nL s args Ts own) (hM : vx_Met l y ws rm Pc Qc XC mc ms free) (cw : vx_CSW R s args own index y bytes maxL ret hh ws rm mc ms n) (hp : PreS s H Pc As)
    (hg : g.method = m) (hn : As.length = n) (hsize : g.locals.size = nL) (hstack : g.stack = As.reverse ++ rest) (hW : 2 * g.monitorRoom + (rest.map fun v => v.category).sum ≤ 8) (hdg : decode cc g.pc = .ok (.invokestatic index, 3)) (hf : cells + mc ≤ R.cells ∧ slots + ms ≤ R.slots) :
    vx_Run p l e R s m args below meth c H locs cells slots mc ms g rest (Qc As.toArray) XC free := by
  obtain ⟨⟨hrc, hrs, hfr, hlo, hws, hcw⟩, hcode, hini, hy, hlen, hl, hstt⟩ := cw
  have hK : vx_Back l R p e below s args y 3 8 (PreOf R mc ms Pc) (PostOf Qc mc ms free) (vx_Post XC mc ms free) := vx_backW (hh := hh) (bytes := bytes) (maxL := maxL) (ret := ret) hM hp.1 hrc hrs hfr hlo hws hcw (fun a' U hW => word_at hW (Or.inl (by first | rfl | simp [Cond.onTables, Cond.keeps, Cond.steady])) hini)
  obtain ⟨hx, hb, hml, ho, -⟩ := S
  intro T hT X
  rcases vx_callSX X hx (hh := hh) (bytes := bytes) (maxL := maxL) (ret := ret) ho hl hstt hini hcode hy hK hg (hsize.trans hml.symm) (argsL := As) (rest := rest) (fun sig h => hn.trans (hlen sig h)) hstack hW (by rw [hb]; exact hdg)
    (fun vm₁ hW₁ => ⟨hf.1, hf.2, hp.2 (T.setVm vm₁) hT hW₁⟩) with ⟨v, vm₁, ⟨U', l2, c2, s2⟩, hW₁, X', ⟨g', mk, t, L, e1, e2, hq, h1, hL, h2, h3⟩, st⟩ | ⟨q, vm₁, ⟨U', l2, c2, s2⟩, hW₁, X', ⟨g', mk, t, L, E, ce, e1, e2, hq, hce, hcv, hcl, h1, hL, h2, h3⟩, st⟩
  · dsimp only [Pt.U, Pt.locs, Pt.cells, Pt.slots] at X' e1 e2 h1 h2 h3 st
    subst h1; subst h2; subst h3
    exact Or.inl ⟨v, (T.setVm vm₁).calling g' mk As.toArray, t, U', L, hT, X', hL, e1, e2, hq, st⟩
  · dsimp only [Pt.U, Pt.locs, Pt.cells, Pt.slots] at X' e1 e2 h1 h2 h3 st hcl
    subst h1; subst h2; subst h3
    exact Or.inr ⟨q, (T.setVm vm₁).calling g' mk As.toArray, t, U', L, E, ce, hT, X', hL, e1, e2, hq, hce, hcv, vx_cls hW₁ hcl, st⟩
end
end VXH
theorem vx_ofWH {l : Launch} {y : MethodName} {ws ws' : List Cond} {rm : Room} {Pc : Array Value → State → Prop} {Qc : Array Value → State → Outcome → State → Prop} {XC : String → State → State → Prop} {mc ms : Nat} {free : Addr → Prop} {cc : ByteArray} {maxL : Nat} {ret : Option FieldType} {hh : List (Nat × Nat × Nat × Nat)}
    (hy : plainName y.cls = true) (hw : ws = Cond.codeWith y cc maxL ret hh :: ws')
    (body : ∀ p e s m args below meth c s₁, BodyLoose p l y (headSpec ws rm) cc maxL ret e s m args below meth c s₁ → c.maxLocals = maxL → Pc args s →
      W p l e (headSpec ws rm).room s m args below meth c s.heap [] 0 0 (vx_MQ below Qc XC args s mc ms free) (entryFrame m args maxL)) : vx_Met l y ws rm Pc Qc XC mc ms free := by
  refine MetFree.of_bodyS (code := cc) (maxLocals := maxL) (ret := ret) hy ?_ ?_
  · intro args s m h hn
    obtain ⟨m9, meth, c, hn9, h1, h2, h3, h4, -, h5, h6, -⟩ := Cond.codeWith_spec (atoms_spec (ws := ws) h _ (by rw [hw]; exact List.mem_cons_self))
    cases hn.symm.trans hn9
    exact ⟨meth, c, h1, h2, h3, h4, h5, h6⟩
  · intro p e s m args below meth c s₁ B hml hP _
    have hh0 : s₁.heap = s.heap := by rw [B.state]; rfl
    obtain ⟨t, a1, o, b1, b2, b3⟩ := body p e s m args below meth c s₁ B hml hP s₁ hh0 (Stand.of_body B)
    exact ⟨t, o, a1, b1, b2, b3⟩
/-! ===== END ===== -/

/-! ===== BEGIN printed: names, fields, word lists, decode rows ===== -/
def RX0 : String := "GhostInn$Ghost"
def TX0 : u_T := fun k => match k with
  | 0 => ("GhostInn$Ghost", "home", "I", true)
  | 1 => ("GhostInn$Ghost", "fright", "I", true)
  | 2 => ("GhostInn$Ghost", "wakes", "I", true)
  | 3 => ("GhostInn$Ghost", "bed", "I", true)
  | _ => ("GhostInn$Ghost", "places", "[I", true)
def tyX0 : Nat → FieldType := fun k => match k with
  | 0 => .int
  | 1 => .int
  | 2 => .int
  | 3 => .int
  | _ => .array .int
abbrev wsX00 : List Cond := u_ws RX0 TX0 5
theorem nmX0 : ∀ a, a < 5 → ∀ b, b < 5 → a ≠ b → (TX0 a).2.1 ≠ (TX0 b).2.1 := by decide +kernel
theorem tyX0_ok : ∀ k, k < 5 → parseFieldDescriptor (TX0 k).2.2.1 = some (tyX0 k) := by decide +kernel
abbrev cX0_init : ByteArray := prog_2_method_1_code
def yX0_init : MethodName := ⟨RX0, "<init>", "(IIII)V"⟩
abbrev cX0_isAwakeIn : ByteArray := prog_2_method_2_code
def yX0_isAwakeIn : MethodName := ⟨RX0, "isAwakeIn", "(I)Z"⟩
abbrev cX0_setPlace : ByteArray := prog_2_method_3_code
def yX0_setPlace : MethodName := ⟨RX0, "setPlace", "(II)V"⟩
abbrev cX0_placeIn : ByteArray := prog_2_method_4_code
def yX0_placeIn : MethodName := ⟨RX0, "placeIn", "(I)I"⟩
def RX1 : String := "GhostInn$Guest"
def TX1 : u_T := fun k => match k with
  | 0 => ("GhostInn$Guest", "beds", "I", true)
  | 1 => ("GhostInn$Guest", "coins", "I", false)
  | 2 => ("GhostInn$Guest", "nerve", "I", false)
  | 3 => ("GhostInn$Guest", "bidRoom", "I", false)
  | 4 => ("GhostInn$Guest", "bidPrice", "I", false)
  | 5 => ("GhostInn$Guest", "nightsStayed", "I", false)
  | _ => ("GhostInn$Guest", "nightsUpset", "I", false)
def tyX1 : Nat → FieldType := fun k => match k with
  | 0 => .int
  | 1 => .int
  | 2 => .int
  | 3 => .int
  | 4 => .int
  | 5 => .int
  | _ => .int
abbrev wsX10 : List Cond := u_ws RX1 TX1 7
theorem nmX1 : ∀ a, a < 7 → ∀ b, b < 7 → a ≠ b → (TX1 a).2.1 ≠ (TX1 b).2.1 := by decide +kernel
theorem tyX1_ok : ∀ k, k < 7 → parseFieldDescriptor (TX1 k).2.2.1 = some (tyX1 k) := by decide +kernel
abbrev cX1_init : ByteArray := prog_3_method_1_code
def yX1_init : MethodName := ⟨RX1, "<init>", "(III)V"⟩
abbrev cX1_hasBid : ByteArray := prog_3_method_2_code
def yX1_hasBid : MethodName := ⟨RX1, "hasBid", "()Z"⟩
abbrev cX1_writeBid : ByteArray := prog_3_method_3_code
def yX1_writeBid : MethodName := ⟨RX1, "writeBid", "(II)V"⟩
abbrev cX1_dropBid : ByteArray := prog_3_method_4_code
def yX1_dropBid : MethodName := ⟨RX1, "dropBid", "()V"⟩
abbrev cX1_couldBidFor : ByteArray := prog_3_method_5_code
def yX1_couldBidFor : MethodName := ⟨RX1, "couldBidFor", "(LGhostInn$Room;)Z"⟩
abbrev cX1_isFrightenedBy : ByteArray := prog_3_method_6_code
def yX1_isFrightenedBy : MethodName := ⟨RX1, "isFrightenedBy", "(I)Z"⟩
abbrev cX1_isUpsetBy : ByteArray := prog_3_method_7_code
def yX1_isUpsetBy : MethodName := ⟨RX1, "isUpsetBy", "(I)Z"⟩
abbrev cX1_stayed : ByteArray := prog_3_method_8_code
def yX1_stayed : MethodName := ⟨RX1, "stayed", "(II)V"⟩
def RX2 : String := "GhostInn$Room"
def TX2 : u_T := fun k => match k with
  | 0 => ("GhostInn$Room", "beds", "I", true)
  | 1 => ("GhostInn$Room", "least", "I", true)
  | 2 => ("GhostInn$Room", "comfort", "I", false)
  | 3 => ("GhostInn$Room", "nightsLet", "I", false)
  | 4 => ("GhostInn$Room", "earned", "I", false)
  | _ => ("GhostInn$Room", "doorBits", "I", false)
def tyX2 : Nat → FieldType := fun k => match k with
  | 0 => .int
  | 1 => .int
  | 2 => .int
  | 3 => .int
  | 4 => .int
  | _ => .int
abbrev wsX20 : List Cond := u_ws RX2 TX2 6
theorem nmX2 : ∀ a, a < 6 → ∀ b, b < 6 → a ≠ b → (TX2 a).2.1 ≠ (TX2 b).2.1 := by decide +kernel
theorem tyX2_ok : ∀ k, k < 6 → parseFieldDescriptor (TX2 k).2.2.1 = some (tyX2 k) := by decide +kernel
abbrev cX2_init : ByteArray := prog_4_method_1_code
def yX2_init : MethodName := ⟨RX2, "<init>", "(III)V"⟩
abbrev cX2_leadsTo : ByteArray := prog_4_method_2_code
def yX2_leadsTo : MethodName := ⟨RX2, "leadsTo", "(I)Z"⟩
abbrev cX2_openTo : ByteArray := prog_4_method_3_code
def yX2_openTo : MethodName := ⟨RX2, "openTo", "(I)V"⟩
abbrev cX2_doorsThere : ByteArray := prog_4_method_4_code
def yX2_doorsThere : MethodName := ⟨RX2, "doorsThere", "()I"⟩
abbrev cX2_wasLet : ByteArray := prog_4_method_5_code
def yX2_wasLet : MethodName := ⟨RX2, "wasLet", "(IZ)V"⟩
def RX3 : String := "GhostInn$Seating"
def TX3 : u_T := fun k => match k with
  | 0 => ("GhostInn$Seating", "allowedBits", "[I", true)
  | 1 => ("GhostInn$Seating", "holders", "[I", true)
  | _ => ("GhostInn$Seating", "askedBits", "I", false)
def tyX3 : Nat → FieldType := fun k => match k with
  | 0 => .array .int
  | 1 => .array .int
  | _ => .int
abbrev wsX30 : List Cond := u_ws RX3 TX3 3
theorem nmX3 : ∀ a, a < 3 → ∀ b, b < 3 → a ≠ b → (TX3 a).2.1 ≠ (TX3 b).2.1 := by decide +kernel
theorem tyX3_ok : ∀ k, k < 3 → parseFieldDescriptor (TX3 k).2.2.1 = some (tyX3 k) := by decide +kernel
abbrev cX3_init : ByteArray := prog_5_method_1_code
def yX3_init : MethodName := ⟨RX3, "<init>", "()V"⟩
abbrev cX3_clear : ByteArray := prog_5_method_2_code
def yX3_clear : MethodName := ⟨RX3, "clear", "()V"⟩
abbrev cX3_allow : ByteArray := prog_5_method_3_code
def yX3_allow : MethodName := ⟨RX3, "allow", "(II)V"⟩
abbrev cX3_seat : ByteArray := prog_5_method_4_code
def yX3_seat : MethodName := ⟨RX3, "seat", "(I)Z"⟩
abbrev cX3_findRoom : ByteArray := prog_5_method_5_code
def yX3_findRoom : MethodName := ⟨RX3, "findRoom", "(LGhostInn$Seating;II)Z"⟩
def RX4 : String := "GhostInn"
def TX4 : u_T := fun k => match k with
  | 0 => ("GhostInn", "rooms", "Ljava/util/ArrayList;", true)
  | 1 => ("GhostInn", "ghosts", "Ljava/util/ArrayList;", true)
  | 2 => ("GhostInn", "guests", "Ljava/util/ArrayList;", true)
  | 3 => ("GhostInn", "seating", "LGhostInn$Seating;", true)
  | 4 => ("GhostInn", "doors", "I", false)
  | 5 => ("GhostInn", "nightsGone", "I", false)
  | 6 => ("GhostInn", "coins", "I", false)
  | _ => ("GhostInn", "givenBack", "I", false)
def tyX4 : Nat → FieldType := fun k => match k with
  | 0 => .object "java/util/ArrayList"
  | 1 => .object "java/util/ArrayList"
  | 2 => .object "java/util/ArrayList"
  | 3 => .object "GhostInn$Seating"
  | 4 => .int
  | 5 => .int
  | 6 => .int
  | _ => .int
abbrev wsX40 : List Cond := u_ws RX4 TX4 8
theorem nmX4 : ∀ a, a < 8 → ∀ b, b < 8 → a ≠ b → (TX4 a).2.1 ≠ (TX4 b).2.1 := by decide +kernel
theorem tyX4_ok : ∀ k, k < 8 → parseFieldDescriptor (TX4 k).2.2.1 = some (tyX4 k) := by decide +kernel
abbrev cX4_init : ByteArray := prog_1_method_1_code
def yX4_init : MethodName := ⟨RX4, "<init>", "()V"⟩
abbrev cX4_furnish : ByteArray := prog_1_method_2_code
def yX4_furnish : MethodName := ⟨RX4, "furnish", "(III)I"⟩
abbrev cX4_door : ByteArray := prog_1_method_3_code
def yX4_door : MethodName := ⟨RX4, "door", "(II)I"⟩
abbrev cX4_haunt : ByteArray := prog_1_method_4_code
def yX4_haunt : MethodName := ⟨RX4, "haunt", "(IIII)I"⟩
abbrev cX4_at : ByteArray := prog_1_method_5_code
def yX4_at : MethodName := ⟨RX4, "at", "(II)I"⟩
abbrev cX4_haunting : ByteArray := prog_1_method_6_code
def yX4_haunting : MethodName := ⟨RX4, "haunting", "(II)I"⟩
abbrev cX4_room : ByteArray := prog_1_method_7_code
def yX4_room : MethodName := ⟨RX4, "room", "(II)I"⟩
abbrev cX4_come : ByteArray := prog_1_method_8_code
def yX4_come : MethodName := ⟨RX4, "come", "(III)I"⟩
abbrev cX4_bid : ByteArray := prog_1_method_9_code
def yX4_bid : MethodName := ⟨RX4, "bid", "(III)Z"⟩
abbrev cX4_leave : ByteArray := prog_1_method_10_code
def yX4_leave : MethodName := ⟨RX4, "leave", "(I)I"⟩
abbrev cX4_guest : ByteArray := prog_1_method_11_code
def yX4_guest : MethodName := ⟨RX4, "guest", "(II)I"⟩
abbrev cX4_wins : ByteArray := prog_1_method_12_code
def yX4_wins : MethodName := ⟨RX4, "wins", "(II)I"⟩
abbrev cX4_night : ByteArray := prog_1_method_13_code
def yX4_night : MethodName := ⟨RX4, "night", "()I"⟩
abbrev cX4_count : ByteArray := prog_1_method_14_code
def yX4_count : MethodName := ⟨RX4, "count", "(I)I"⟩
abbrev cX4_best : ByteArray := prog_1_method_15_code
def yX4_best : MethodName := ⟨RX4, "best", "(I)I"⟩
abbrev cX4_most : ByteArray := prog_1_method_16_code
def yX4_most : MethodName := ⟨RX4, "most", "()I"⟩
abbrev cX4_scares : ByteArray := prog_1_method_17_code
def yX4_scares : MethodName := ⟨RX4, "scares", "(I)I"⟩
abbrev cX4_mean : ByteArray := prog_1_method_18_code
def yX4_mean : MethodName := ⟨RX4, "mean", "()D"⟩
abbrev cX4_digest : ByteArray := prog_1_method_19_code
def yX4_digest : MethodName := ⟨RX4, "digest", "()J"⟩
abbrev cX4_digestRoom : ByteArray := prog_1_method_20_code
def yX4_digestRoom : MethodName := ⟨RX4, "digestRoom", "(JI)J"⟩
abbrev cX4_within : ByteArray := prog_1_method_21_code
def yX4_within : MethodName := ⟨RX4, "within", "(III)Z"⟩
abbrev cX4_isRoom : ByteArray := prog_1_method_22_code
def yX4_isRoom : MethodName := ⟨RX4, "isRoom", "(I)Z"⟩
abbrev cX4_isGhost : ByteArray := prog_1_method_23_code
def yX4_isGhost : MethodName := ⟨RX4, "isGhost", "(I)Z"⟩
abbrev cX4_isGuest : ByteArray := prog_1_method_24_code
def yX4_isGuest : MethodName := ⟨RX4, "isGuest", "(I)Z"⟩
abbrev cX4_planAllWays : ByteArray := prog_1_method_25_code
def yX4_planAllWays : MethodName := ⟨RX4, "planAllWays", "()V"⟩
abbrev cX4_planWay : ByteArray := prog_1_method_26_code
def yX4_planWay : MethodName := ⟨RX4, "planWay", "(LGhostInn$Ghost;)V"⟩
abbrev cX4_nextRoom : ByteArray := prog_1_method_27_code
def yX4_nextRoom : MethodName := ⟨RX4, "nextRoom", "(I)I"⟩
abbrev cX4_hauntingInHour : ByteArray := prog_1_method_28_code
def yX4_hauntingInHour : MethodName := ⟨RX4, "hauntingInHour", "(III)I"⟩
abbrev cX4_hauntingOfNight : ByteArray := prog_1_method_29_code
def yX4_hauntingOfNight : MethodName := ⟨RX4, "hauntingOfNight", "(II)I"⟩
abbrev cX4_countsFor : ByteArray := prog_1_method_30_code
def yX4_countsFor : MethodName := ⟨RX4, "countsFor", "(LGhostInn$Guest;I)Z"⟩
abbrev cX4_winnerOf : ByteArray := prog_1_method_31_code
def yX4_winnerOf : MethodName := ⟨RX4, "winnerOf", "(I)I"⟩
abbrev cX4_dueFor : ByteArray := prog_1_method_32_code
def yX4_dueFor : MethodName := ⟨RX4, "dueFor", "(II)I"⟩
abbrev cX4_bidsThatCount : ByteArray := prog_1_method_33_code
def yX4_bidsThatCount : MethodName := ⟨RX4, "bidsThatCount", "(I)I"⟩
abbrev cX4_bidsWritten : ByteArray := prog_1_method_34_code
def yX4_bidsWritten : MethodName := ⟨RX4, "bidsWritten", "()I"⟩
abbrev cX4_roomsToLet : ByteArray := prog_1_method_35_code
def yX4_roomsToLet : MethodName := ⟨RX4, "roomsToLet", "()I"⟩
abbrev cX4_letRoom : ByteArray := prog_1_method_36_code
def yX4_letRoom : MethodName := ⟨RX4, "letRoom", "(I)V"⟩
abbrev cX4_backTonight : ByteArray := prog_1_method_37_code
def yX4_backTonight : MethodName := ⟨RX4, "backTonight", "(I)I"⟩
abbrev cX4_allowSeats : ByteArray := prog_1_method_38_code
def yX4_allowSeats : MethodName := ⟨RX4, "allowSeats", "()V"⟩
abbrev cX4_nextDearest : ByteArray := prog_1_method_39_code
def yX4_nextDearest : MethodName := ⟨RX4, "nextDearest", "(I)I"⟩
abbrev cX4_isDearer : ByteArray := prog_1_method_40_code
def yX4_isDearer : MethodName := ⟨RX4, "isDearer", "(II)Z"⟩
def RX5 : String := "GhostInnModel"
def TX5 : u_T := fun k => match k with
  | 0 => ("GhostInnModel", "thrown", "I", false)
  | 1 => ("GhostInnModel", "rooms", "I", false)
  | 2 => ("GhostInnModel", "doors", "I", false)
  | 3 => ("GhostInnModel", "ghosts", "I", false)
  | 4 => ("GhostInnModel", "guests", "I", false)
  | 5 => ("GhostInnModel", "house", "[I", true)
  | 6 => ("GhostInnModel", "joined", "[I", true)
  | 7 => ("GhostInnModel", "spooks", "[I", true)
  | 8 => ("GhostInnModel", "people", "[I", true)
  | 9 => ("GhostInnModel", "numbers", "[I", true)
  | _ => ("GhostInnModel", "taken", "[I", true)
def tyX5 : Nat → FieldType := fun k => match k with
  | 0 => .int
  | 1 => .int
  | 2 => .int
  | 3 => .int
  | 4 => .int
  | 5 => .array .int
  | 6 => .array .int
  | 7 => .array .int
  | 8 => .array .int
  | 9 => .array .int
  | _ => .array .int
abbrev wsX50 : List Cond := u_ws RX5 TX5 11
theorem nmX5 : ∀ a, a < 11 → ∀ b, b < 11 → a ≠ b → (TX5 a).2.1 ≠ (TX5 b).2.1 := by decide +kernel
theorem tyX5_ok : ∀ k, k < 11 → parseFieldDescriptor (TX5 k).2.2.1 = some (tyX5 k) := by decide +kernel
abbrev cX5_init : ByteArray := prog_7_method_1_code
def yX5_init : MethodName := ⟨RX5, "<init>", "()V"⟩
abbrev cX5_thrown : ByteArray := prog_7_method_2_code
def yX5_thrown : MethodName := ⟨RX5, "thrown", "()I"⟩
abbrev cX5_fail : ByteArray := prog_7_method_3_code
def yX5_fail : MethodName := ⟨RX5, "fail", "(I)I"⟩
abbrev cX5_isIn : ByteArray := prog_7_method_4_code
def yX5_isIn : MethodName := ⟨RX5, "isIn", "(III)Z"⟩
abbrev cX5_isRoom : ByteArray := prog_7_method_5_code
def yX5_isRoom : MethodName := ⟨RX5, "isRoom", "(I)Z"⟩
abbrev cX5_isGhost : ByteArray := prog_7_method_6_code
def yX5_isGhost : MethodName := ⟨RX5, "isGhost", "(I)Z"⟩
abbrev cX5_isGuest : ByteArray := prog_7_method_7_code
def yX5_isGuest : MethodName := ⟨RX5, "isGuest", "(I)Z"⟩
abbrev cX5_ro : ByteArray := prog_7_method_8_code
def yX5_ro : MethodName := ⟨RX5, "ro", "(II)I"⟩
abbrev cX5_addRo : ByteArray := prog_7_method_9_code
def yX5_addRo : MethodName := ⟨RX5, "addRo", "(III)V"⟩
abbrev cX5_sp : ByteArray := prog_7_method_10_code
def yX5_sp : MethodName := ⟨RX5, "sp", "(II)I"⟩
abbrev cX5_pe : ByteArray := prog_7_method_11_code
def yX5_pe : MethodName := ⟨RX5, "pe", "(II)I"⟩
abbrev cX5_set : ByteArray := prog_7_method_12_code
def yX5_set : MethodName := ⟨RX5, "set", "(III)V"⟩
abbrev cX5_furnish : ByteArray := prog_7_method_13_code
def yX5_furnish : MethodName := ⟨RX5, "furnish", "(III)I"⟩
abbrev cX5_door : ByteArray := prog_7_method_14_code
def yX5_door : MethodName := ⟨RX5, "door", "(II)I"⟩
abbrev cX5_haunt : ByteArray := prog_7_method_15_code
def yX5_haunt : MethodName := ⟨RX5, "haunt", "(IIII)I"⟩
abbrev cX5_next : ByteArray := prog_7_method_16_code
def yX5_next : MethodName := ⟨RX5, "next", "(I)I"⟩
abbrev cX5_place : ByteArray := prog_7_method_17_code
def yX5_place : MethodName := ⟨RX5, "place", "(II)I"⟩
abbrev cX5_at : ByteArray := prog_7_method_18_code
def yX5_at : MethodName := ⟨RX5, "at", "(II)I"⟩
abbrev cX5_haunted : ByteArray := prog_7_method_19_code
def yX5_haunted : MethodName := ⟨RX5, "haunted", "(II)I"⟩
abbrev cX5_haunting : ByteArray := prog_7_method_20_code
def yX5_haunting : MethodName := ⟨RX5, "haunting", "(II)I"⟩
abbrev cX5_roomTold : ByteArray := prog_7_method_21_code
def yX5_roomTold : MethodName := ⟨RX5, "roomTold", "(II)I"⟩
abbrev cX5_room : ByteArray := prog_7_method_22_code
def yX5_room : MethodName := ⟨RX5, "room", "(II)I"⟩
abbrev cX5_come : ByteArray := prog_7_method_23_code
def yX5_come : MethodName := ⟨RX5, "come", "(III)I"⟩
abbrev cX5_suits : ByteArray := prog_7_method_24_code
def yX5_suits : MethodName := ⟨RX5, "suits", "(II)Z"⟩
abbrev cX5_bid : ByteArray := prog_7_method_25_code
def yX5_bid : MethodName := ⟨RX5, "bid", "(III)Z"⟩
abbrev cX5_withdraw : ByteArray := prog_7_method_26_code
def yX5_withdraw : MethodName := ⟨RX5, "withdraw", "(I)V"⟩
abbrev cX5_leave : ByteArray := prog_7_method_27_code
def yX5_leave : MethodName := ⟨RX5, "leave", "(I)I"⟩
abbrev cX5_guest : ByteArray := prog_7_method_28_code
def yX5_guest : MethodName := ⟨RX5, "guest", "(II)I"⟩
abbrev cX5_counts : ByteArray := prog_7_method_29_code
def yX5_counts : MethodName := ⟨RX5, "counts", "(II)Z"⟩
abbrev cX5_winner : ByteArray := prog_7_method_30_code
def yX5_winner : MethodName := ⟨RX5, "winner", "(I)I"⟩
abbrev cX5_pays : ByteArray := prog_7_method_31_code
def yX5_pays : MethodName := ⟨RX5, "pays", "(I)I"⟩
abbrev cX5_won : ByteArray := prog_7_method_32_code
def yX5_won : MethodName := ⟨RX5, "won", "(II)I"⟩
abbrev cX5_wins : ByteArray := prog_7_method_33_code
def yX5_wins : MethodName := ⟨RX5, "wins", "(II)I"⟩
abbrev cX5_isBad : ByteArray := prog_7_method_34_code
def yX5_isBad : MethodName := ⟨RX5, "isBad", "(II)Z"⟩
abbrev cX5_night : ByteArray := prog_7_method_35_code
def yX5_night : MethodName := ⟨RX5, "night", "()I"⟩
abbrev cX5_counted : ByteArray := prog_7_method_36_code
def yX5_counted : MethodName := ⟨RX5, "counted", "(I)I"⟩
abbrev cX5_count : ByteArray := prog_7_method_37_code
def yX5_count : MethodName := ⟨RX5, "count", "(I)I"⟩
abbrev cX5_best : ByteArray := prog_7_method_38_code
def yX5_best : MethodName := ⟨RX5, "best", "(I)I"⟩
abbrev cX5_most : ByteArray := prog_7_method_39_code
def yX5_most : MethodName := ⟨RX5, "most", "()I"⟩
abbrev cX5_givenBack : ByteArray := prog_7_method_40_code
def yX5_givenBack : MethodName := ⟨RX5, "givenBack", "(I)I"⟩
abbrev cX5_scares : ByteArray := prog_7_method_41_code
def yX5_scares : MethodName := ⟨RX5, "scares", "(I)I"⟩
abbrev cX5_mean : ByteArray := prog_7_method_42_code
def yX5_mean : MethodName := ⟨RX5, "mean", "()D"⟩
abbrev cX5_digest : ByteArray := prog_7_method_43_code
def yX5_digest : MethodName := ⟨RX5, "digest", "()J"⟩
def RJx145de : String := "java/io/Serializable"
def TJx145de : u_T := fun k => match k with
  | _ => ("", "", "", false)
def tyJx145de : Nat → FieldType := fun k => match k with
  | _ => .int
abbrev wsJx145de0 : List Cond := u_ws RJx145de TJx145de 0
theorem nmJx145de : ∀ a, a < 0 → ∀ b, b < 0 → a ≠ b → (TJx145de a).2.1 ≠ (TJx145de b).2.1 := by decide +kernel
theorem tyJx145de_ok : ∀ k, k < 0 → parseFieldDescriptor (TJx145de k).2.2.1 = some (tyJx145de k) := by decide +kernel
def RJx8e188 : String := "java/lang/Cloneable"
def TJx8e188 : u_T := fun k => match k with
  | _ => ("", "", "", false)
def tyJx8e188 : Nat → FieldType := fun k => match k with
  | _ => .int
abbrev wsJx8e1880 : List Cond := u_ws RJx8e188 TJx8e188 0
theorem nmJx8e188 : ∀ a, a < 0 → ∀ b, b < 0 → a ≠ b → (TJx8e188 a).2.1 ≠ (TJx8e188 b).2.1 := by decide +kernel
theorem tyJx8e188_ok : ∀ k, k < 0 → parseFieldDescriptor (TJx8e188 k).2.2.1 = some (tyJx8e188 k) := by decide +kernel
def RJ6 : String := "java/lang/Integer"
def TJ6 : u_T := fun k => match k with
  | _ => ("", "", "", false)
def tyJ6 : Nat → FieldType := fun k => match k with
  | _ => .int
abbrev wsJ60 : List Cond := u_ws RJ6 TJ6 0
theorem nmJ6 : ∀ a, a < 0 → ∀ b, b < 0 → a ≠ b → (TJ6 a).2.1 ≠ (TJ6 b).2.1 := by decide +kernel
theorem tyJ6_ok : ∀ k, k < 0 → parseFieldDescriptor (TJ6 k).2.2.1 = some (tyJ6 k) := by decide +kernel
abbrev cJ6_numberOfTrailingZeros_0f7a4 : ByteArray := prog_14_method_48_code
def yJ6_numberOfTrailingZeros_0f7a4 : MethodName := ⟨RJ6, "numberOfTrailingZeros", "(I)I"⟩
abbrev cJ6_bitCount_0f7a4 : ByteArray := prog_14_method_49_code
def yJ6_bitCount_0f7a4 : MethodName := ⟨RJ6, "bitCount", "(I)I"⟩
def RJxab1ab : String := "java/lang/Iterable"
def TJxab1ab : u_T := fun k => match k with
  | _ => ("", "", "", false)
def tyJxab1ab : Nat → FieldType := fun k => match k with
  | _ => .int
abbrev wsJxab1ab0 : List Cond := u_ws RJxab1ab TJxab1ab 0
theorem nmJxab1ab : ∀ a, a < 0 → ∀ b, b < 0 → a ≠ b → (TJxab1ab a).2.1 ≠ (TJxab1ab b).2.1 := by decide +kernel
theorem tyJxab1ab_ok : ∀ k, k < 0 → parseFieldDescriptor (TJxab1ab k).2.2.1 = some (tyJxab1ab k) := by decide +kernel
def RJ9 : String := "java/lang/Math"
def TJ9 : u_T := fun k => match k with
  | _ => ("", "", "", false)
def tyJ9 : Nat → FieldType := fun k => match k with
  | _ => .int
abbrev wsJ90 : List Cond := u_ws RJ9 TJ9 0
theorem nmJ9 : ∀ a, a < 0 → ∀ b, b < 0 → a ≠ b → (TJ9 a).2.1 ≠ (TJ9 b).2.1 := by decide +kernel
theorem tyJ9_ok : ∀ k, k < 0 → parseFieldDescriptor (TJ9 k).2.2.1 = some (tyJ9 k) := by decide +kernel
abbrev cJ9_max_7cf53 : ByteArray := prog_16_method_65_code
def yJ9_max_7cf53 : MethodName := ⟨RJ9, "max", "(II)I"⟩
abbrev cJ9_min_7cf53 : ByteArray := prog_16_method_69_code
def yJ9_min_7cf53 : MethodName := ⟨RJ9, "min", "(II)I"⟩
def RJ0 : String := "java/lang/String"
def TJ0 : u_T := fun k => match k with
  | _ => ("", "", "", false)
def tyJ0 : Nat → FieldType := fun k => match k with
  | _ => .int
abbrev wsJ00 : List Cond := u_ws RJ0 TJ0 0
theorem nmJ0 : ∀ a, a < 0 → ∀ b, b < 0 → a ≠ b → (TJ0 a).2.1 ≠ (TJ0 b).2.1 := by decide +kernel
theorem tyJ0_ok : ∀ k, k < 0 → parseFieldDescriptor (TJ0 k).2.2.1 = some (tyJ0 k) := by decide +kernel
def RJ10 : String := "java/lang/System"
def TJ10 : u_T := fun k => match k with
  | _ => ("", "", "", false)
def tyJ10 : Nat → FieldType := fun k => match k with
  | _ => .int
abbrev wsJ100 : List Cond := u_ws RJ10 TJ10 0
theorem nmJ10 : ∀ a, a < 0 → ∀ b, b < 0 → a ≠ b → (TJ10 a).2.1 ≠ (TJ10 b).2.1 := by decide +kernel
theorem tyJ10_ok : ∀ k, k < 0 → parseFieldDescriptor (TJ10 k).2.2.1 = some (tyJ10 k) := by decide +kernel
def RJxa1e45 : String := "java/util/AbstractCollection"
def TJxa1e45 : u_T := fun k => match k with
  | _ => ("", "", "", false)
def tyJxa1e45 : Nat → FieldType := fun k => match k with
  | _ => .int
abbrev wsJxa1e450 : List Cond := u_ws RJxa1e45 TJxa1e45 0
theorem nmJxa1e45 : ∀ a, a < 0 → ∀ b, b < 0 → a ≠ b → (TJxa1e45 a).2.1 ≠ (TJxa1e45 b).2.1 := by decide +kernel
theorem tyJxa1e45_ok : ∀ k, k < 0 → parseFieldDescriptor (TJxa1e45 k).2.2.1 = some (tyJxa1e45 k) := by decide +kernel
abbrev cJxa1e45_init_da8c8 : ByteArray := prog_21_method_1_code
def yJxa1e45_init_da8c8 : MethodName := ⟨RJxa1e45, "<init>", "()V"⟩
def RJxc12de : String := "java/util/AbstractList"
def TJxc12de : u_T := fun k => match k with
  | _ => ("", "", "", false)
def tyJxc12de : Nat → FieldType := fun k => match k with
  | _ => .int
abbrev wsJxc12de0 : List Cond := u_ws RJxc12de TJxc12de 0
theorem nmJxc12de : ∀ a, a < 0 → ∀ b, b < 0 → a ≠ b → (TJxc12de a).2.1 ≠ (TJxc12de b).2.1 := by decide +kernel
theorem tyJxc12de_ok : ∀ k, k < 0 → parseFieldDescriptor (TJxc12de k).2.2.1 = some (tyJxc12de k) := by decide +kernel
abbrev cJxc12de_init_da8c8 : ByteArray := prog_22_method_1_code
def yJxc12de_init_da8c8 : MethodName := ⟨RJxc12de, "<init>", "()V"⟩
def RJx4a65c : String := "java/util/ArrayList"
def TJx4a65c : u_T := fun k => match k with
  | 0 => ("java/util/AbstractList", "modCount", "I", false)
  | 1 => ("java/util/ArrayList", "elementData", "[Ljava/lang/Object;", false)
  | _ => ("java/util/ArrayList", "size", "I", false)
def tyJx4a65c : Nat → FieldType := fun k => match k with
  | 0 => .int
  | 1 => .array (.object "java/lang/Object")
  | _ => .int
abbrev wsJx4a65c0 : List Cond := u_ws RJx4a65c TJx4a65c 3
theorem nmJx4a65c : ∀ a, a < 3 → ∀ b, b < 3 → a ≠ b → (TJx4a65c a).2.1 ≠ (TJx4a65c b).2.1 := by decide +kernel
theorem tyJx4a65c_ok : ∀ k, k < 3 → parseFieldDescriptor (TJx4a65c k).2.2.1 = some (tyJx4a65c k) := by decide +kernel
abbrev cJx4a65c_init_da8c8 : ByteArray := prog_23_method_2_code
def yJx4a65c_init_da8c8 : MethodName := ⟨RJx4a65c, "<init>", "()V"⟩
abbrev cJx4a65c_grow_92f84 : ByteArray := prog_23_method_6_code
def yJx4a65c_grow_92f84 : MethodName := ⟨RJx4a65c, "grow", "(I)[Ljava/lang/Object;"⟩
abbrev cJx4a65c_grow_d5877 : ByteArray := prog_23_method_7_code
def yJx4a65c_grow_d5877 : MethodName := ⟨RJx4a65c, "grow", "()[Ljava/lang/Object;"⟩
abbrev cJx4a65c_size_8abf5 : ByteArray := prog_23_method_8_code
def yJx4a65c_size_8abf5 : MethodName := ⟨RJx4a65c, "size", "()I"⟩
abbrev cJx4a65c_elementData_915e3 : ByteArray := prog_23_method_18_code
def yJx4a65c_elementData_915e3 : MethodName := ⟨RJx4a65c, "elementData", "(I)Ljava/lang/Object;"⟩
abbrev cJx4a65c_get_915e3 : ByteArray := prog_23_method_20_code
def yJx4a65c_get_915e3 : MethodName := ⟨RJx4a65c, "get", "(I)Ljava/lang/Object;"⟩
abbrev cJx4a65c_add_72be8 : ByteArray := prog_23_method_24_code
def yJx4a65c_add_72be8 : MethodName := ⟨RJx4a65c, "add", "(Ljava/lang/Object;[Ljava/lang/Object;I)V"⟩
abbrev cJx4a65c_add_9ea2d : ByteArray := prog_23_method_25_code
def yJx4a65c_add_9ea2d : MethodName := ⟨RJx4a65c, "add", "(Ljava/lang/Object;)Z"⟩
def RJ7 : String := "java/util/Arrays"
def TJ7 : u_T := fun k => match k with
  | _ => ("", "", "", false)
def tyJ7 : Nat → FieldType := fun k => match k with
  | _ => .int
abbrev wsJ70 : List Cond := u_ws RJ7 TJ7 0
theorem nmJ7 : ∀ a, a < 0 → ∀ b, b < 0 → a ≠ b → (TJ7 a).2.1 ≠ (TJ7 b).2.1 := by decide +kernel
theorem tyJ7_ok : ∀ k, k < 0 → parseFieldDescriptor (TJ7 k).2.2.1 = some (tyJ7 k) := by decide +kernel
abbrev cJ7_fill_53178 : ByteArray := prog_24_method_103_code
def yJ7_fill_53178 : MethodName := ⟨RJ7, "fill", "([II)V"⟩
abbrev cJ7_copyOf_1904c : ByteArray := prog_24_method_119_code
def yJ7_copyOf_1904c : MethodName := ⟨RJ7, "copyOf", "([Ljava/lang/Object;I)[Ljava/lang/Object;"⟩
abbrev cJ7_copyOf_6403c : ByteArray := prog_24_method_120_code
def yJ7_copyOf_6403c : MethodName := ⟨RJ7, "copyOf", "([Ljava/lang/Object;ILjava/lang/Class;)[Ljava/lang/Object;"⟩
def RJx5ef63 : String := "java/util/Collection"
def TJx5ef63 : u_T := fun k => match k with
  | _ => ("", "", "", false)
def tyJx5ef63 : Nat → FieldType := fun k => match k with
  | _ => .int
abbrev wsJx5ef630 : List Cond := u_ws RJx5ef63 TJx5ef63 0
theorem nmJx5ef63 : ∀ a, a < 0 → ∀ b, b < 0 → a ≠ b → (TJx5ef63 a).2.1 ≠ (TJx5ef63 b).2.1 := by decide +kernel
theorem tyJx5ef63_ok : ∀ k, k < 0 → parseFieldDescriptor (TJx5ef63 k).2.2.1 = some (tyJx5ef63 k) := by decide +kernel
def RJxbd725 : String := "java/util/List"
def TJxbd725 : u_T := fun k => match k with
  | _ => ("", "", "", false)
def tyJxbd725 : Nat → FieldType := fun k => match k with
  | _ => .int
abbrev wsJxbd7250 : List Cond := u_ws RJxbd725 TJxbd725 0
theorem nmJxbd725 : ∀ a, a < 0 → ∀ b, b < 0 → a ≠ b → (TJxbd725 a).2.1 ≠ (TJxbd725 b).2.1 := by decide +kernel
theorem tyJxbd725_ok : ∀ k, k < 0 → parseFieldDescriptor (TJxbd725 k).2.2.1 = some (tyJxbd725 k) := by decide +kernel
def RJ15 : String := "java/util/Objects"
def TJ15 : u_T := fun k => match k with
  | _ => ("", "", "", false)
def tyJ15 : Nat → FieldType := fun k => match k with
  | _ => .int
abbrev wsJ150 : List Cond := u_ws RJ15 TJ15 0
theorem nmJ15 : ∀ a, a < 0 → ∀ b, b < 0 → a ≠ b → (TJ15 a).2.1 ≠ (TJ15 b).2.1 := by decide +kernel
theorem tyJ15_ok : ∀ k, k < 0 → parseFieldDescriptor (TJ15 k).2.2.1 = some (tyJ15 k) := by decide +kernel
abbrev cJ15_checkIndex_7cf53 : ByteArray := prog_27_method_17_code
def yJ15_checkIndex_7cf53 : MethodName := ⟨RJ15, "checkIndex", "(II)I"⟩
def RJxf0a74 : String := "java/util/RandomAccess"
def TJxf0a74 : u_T := fun k => match k with
  | _ => ("", "", "", false)
def tyJxf0a74 : Nat → FieldType := fun k => match k with
  | _ => .int
abbrev wsJxf0a740 : List Cond := u_ws RJxf0a74 TJxf0a74 0
theorem nmJxf0a74 : ∀ a, a < 0 → ∀ b, b < 0 → a ≠ b → (TJxf0a74 a).2.1 ≠ (TJxf0a74 b).2.1 := by decide +kernel
theorem tyJxf0a74_ok : ∀ k, k < 0 → parseFieldDescriptor (TJxf0a74 k).2.2.1 = some (tyJxf0a74 k) := by decide +kernel
def RJxa66e6 : String := "java/util/SequencedCollection"
def TJxa66e6 : u_T := fun k => match k with
  | _ => ("", "", "", false)
def tyJxa66e6 : Nat → FieldType := fun k => match k with
  | _ => .int
abbrev wsJxa66e60 : List Cond := u_ws RJxa66e6 TJxa66e6 0
theorem nmJxa66e6 : ∀ a, a < 0 → ∀ b, b < 0 → a ≠ b → (TJxa66e6 a).2.1 ≠ (TJxa66e6 b).2.1 := by decide +kernel
theorem tyJxa66e6_ok : ∀ k, k < 0 → parseFieldDescriptor (TJxa66e6 k).2.2.1 = some (tyJxa66e6 k) := by decide +kernel
def RJ8 : String := "jdk/internal/util/ArraysSupport"
def TJ8 : u_T := fun k => match k with
  | _ => ("", "", "", false)
def tyJ8 : Nat → FieldType := fun k => match k with
  | _ => .int
abbrev wsJ80 : List Cond := u_ws RJ8 TJ8 0
theorem nmJ8 : ∀ a, a < 0 → ∀ b, b < 0 → a ≠ b → (TJ8 a).2.1 ≠ (TJ8 b).2.1 := by decide +kernel
theorem tyJ8_ok : ∀ k, k < 0 → parseFieldDescriptor (TJ8 k).2.2.1 = some (tyJ8 k) := by decide +kernel
abbrev cJ8_newLength_cabcc : ByteArray := prog_30_method_27_code
def yJ8_newLength_cabcc : MethodName := ⟨RJ8, "newLength", "(III)I"⟩
abbrev cJ8_hugeLength_7cf53 : ByteArray := prog_30_method_28_code
def yJ8_hugeLength_7cf53 : MethodName := ⟨RJ8, "hugeLength", "(II)I"⟩
def RJ3 : String := "jdk/internal/util/Preconditions"
def TJ3 : u_T := fun k => match k with
  | _ => ("", "", "", false)
def tyJ3 : Nat → FieldType := fun k => match k with
  | _ => .int
abbrev wsJ30 : List Cond := u_ws RJ3 TJ3 0
theorem nmJ3 : ∀ a, a < 0 → ∀ b, b < 0 → a ≠ b → (TJ3 a).2.1 ≠ (TJ3 b).2.1 := by decide +kernel
theorem tyJ3_ok : ∀ k, k < 0 → parseFieldDescriptor (TJ3 k).2.2.1 = some (tyJ3 k) := by decide +kernel
abbrev cJ3_checkIndex_8e157 : ByteArray := prog_31_method_11_code
def yJ3_checkIndex_8e157 : MethodName := ⟨RJ3, "checkIndex", "(IILjava/util/function/BiFunction;)I"⟩
def RL : String := "GhostInnLaw"
abbrev cL_furnish : ByteArray := method_3_code
def yL_furnish : MethodName := ⟨RL, "furnish", "(LGhostInn;III[J)I"⟩
abbrev cL_door : ByteArray := method_4_code
def yL_door : MethodName := ⟨RL, "door", "(LGhostInn;II[J)I"⟩
abbrev cL_haunt : ByteArray := method_5_code
def yL_haunt : MethodName := ⟨RL, "haunt", "(LGhostInn;IIII[J)I"⟩
abbrev cL_at : ByteArray := method_6_code
def yL_at : MethodName := ⟨RL, "at", "(LGhostInn;II[J)I"⟩
abbrev cL_haunting : ByteArray := method_7_code
def yL_haunting : MethodName := ⟨RL, "haunting", "(LGhostInn;II[J)I"⟩
abbrev cL_room : ByteArray := method_8_code
def yL_room : MethodName := ⟨RL, "room", "(LGhostInn;II[J)I"⟩
abbrev cL_come : ByteArray := method_9_code
def yL_come : MethodName := ⟨RL, "come", "(LGhostInn;III[J)I"⟩
abbrev cL_bid : ByteArray := method_10_code
def yL_bid : MethodName := ⟨RL, "bid", "(LGhostInn;III[J)I"⟩
abbrev cL_leave : ByteArray := method_11_code
def yL_leave : MethodName := ⟨RL, "leave", "(LGhostInn;I[J)I"⟩
abbrev cL_guest : ByteArray := method_12_code
def yL_guest : MethodName := ⟨RL, "guest", "(LGhostInn;II[J)I"⟩
abbrev cL_wins : ByteArray := method_13_code
def yL_wins : MethodName := ⟨RL, "wins", "(LGhostInn;II[J)I"⟩
abbrev cL_count : ByteArray := method_14_code
def yL_count : MethodName := ⟨RL, "count", "(LGhostInn;I[J)I"⟩
abbrev cL_best : ByteArray := method_15_code
def yL_best : MethodName := ⟨RL, "best", "(LGhostInn;I[J)I"⟩
abbrev cL_scares : ByteArray := method_16_code
def yL_scares : MethodName := ⟨RL, "scares", "(LGhostInn;I[J)I"⟩
abbrev cL_law : ByteArray := code
def yL_law : MethodName := ⟨RL, "law", "([I)Z"⟩
def wsX0_init : List Cond := .code yX0_init cX0_init 5 none :: ([.methodLink RX0 3 objectInit, .instanceMethod objectInit, .code objectInit ⟨#[0xb1]⟩ 1 none, .arrayClass .int, .fieldLink RX0 9 "GhostInn$Ghost" "places" "[I", .fieldLink RX0 15 "GhostInn$Ghost" "home" "I", .fieldLink RX0 19 "GhostInn$Ghost" "fright" "I", .fieldLink RX0 22 "GhostInn$Ghost" "wakes" "I", .fieldLink RX0 25 "GhostInn$Ghost" "bed" "I"] ++ wsX00)
def wsX0_isAwakeIn : List Cond := .code yX0_isAwakeIn cX0_isAwakeIn 2 (some .boolean) :: ([.fieldLink RX0 22 "GhostInn$Ghost" "wakes" "I", .fieldLink RX0 25 "GhostInn$Ghost" "bed" "I"] ++ wsX00)
def wsX0_setPlace : List Cond := .code yX0_setPlace cX0_setPlace 3 none :: ([.fieldLink RX0 9 "GhostInn$Ghost" "places" "[I"] ++ wsX00)
def wsX0_placeIn : List Cond := .code yX0_placeIn cX0_placeIn 2 (some .int) :: ([.fieldLink RX0 9 "GhostInn$Ghost" "places" "[I"] ++ wsX00)
def wsX1_init : List Cond := .code yX1_init cX1_init 4 none :: ([.methodLink RX1 3 objectInit, .instanceMethod objectInit, .code objectInit ⟨#[0xb1]⟩ 1 none, .fieldLink RX1 9 "GhostInn$Guest" "bidRoom" "I", .fieldLink RX1 15 "GhostInn$Guest" "coins" "I", .fieldLink RX1 18 "GhostInn$Guest" "beds" "I", .fieldLink RX1 21 "GhostInn$Guest" "nerve" "I"] ++ wsX10)
def wsX1_hasBid : List Cond := .code yX1_hasBid cX1_hasBid 1 (some .boolean) :: ([.fieldLink RX1 9 "GhostInn$Guest" "bidRoom" "I"] ++ wsX10)
def wsX1_writeBid : List Cond := .code yX1_writeBid cX1_writeBid 3 none :: ([.fieldLink RX1 9 "GhostInn$Guest" "bidRoom" "I", .fieldLink RX1 24 "GhostInn$Guest" "bidPrice" "I"] ++ wsX10)
def wsX1_dropBid : List Cond := .code yX1_dropBid cX1_dropBid 1 none :: ([.fieldLink RX1 9 "GhostInn$Guest" "bidRoom" "I", .fieldLink RX1 24 "GhostInn$Guest" "bidPrice" "I"] ++ wsX10)
def wsX1_couldBidFor : List Cond := .code yX1_couldBidFor cX1_couldBidFor 2 (some .boolean) :: ([.fieldLink RX1 15 "GhostInn$Guest" "coins" "I", .fieldLink RX1 24 "GhostInn$Guest" "bidPrice" "I", .fieldLink RX1 27 "GhostInn$Room" "beds" "I", .fieldLink RX1 18 "GhostInn$Guest" "beds" "I", .fieldLink RX1 30 "GhostInn$Room" "least" "I"] ++ wsX10 ++ wsX20)
def wsX1_isFrightenedBy : List Cond := .code yX1_isFrightenedBy cX1_isFrightenedBy 2 (some .boolean) :: ([.fieldLink RX1 21 "GhostInn$Guest" "nerve" "I"] ++ wsX10)
def wsX1_isUpsetBy : List Cond := .code yX1_isUpsetBy cX1_isUpsetBy 3 (some .boolean) :: ([.fieldLink RX1 21 "GhostInn$Guest" "nerve" "I", .methodLink RX1 33 yX1_isFrightenedBy, .instanceMethod yX1_isFrightenedBy, .selects RX1 yX1_isFrightenedBy yX1_isFrightenedBy, .initialized RX1, .code yX1_isFrightenedBy cX1_isFrightenedBy 2 (some .boolean)] ++ wsX10)
def wsX1_stayed : List Cond := .code yX1_stayed cX1_stayed 3 none :: ([.fieldLink RX1 15 "GhostInn$Guest" "coins" "I", .fieldLink RX1 37 "GhostInn$Guest" "nightsStayed" "I", .fieldLink RX1 43 "GhostInn$Guest" "nightsUpset" "I", .fieldLink RX1 21 "GhostInn$Guest" "nerve" "I", .methodLink RX1 46 Lib.Math.max.name, .static Lib.Math.max.name, .initialized "java/lang/Math", .code Lib.Math.max.name Lib.Math.max.code 2 (some .int), .methodLink RX1 52 Lib.Math.min.name, .static Lib.Math.min.name, .code Lib.Math.min.name Lib.Math.min.code 2 (some .int), .methodLink RX1 40 yX1_isUpsetBy, .instanceMethod yX1_isUpsetBy, .selects RX1 yX1_isUpsetBy yX1_isUpsetBy, .initialized RX1, .code yX1_isUpsetBy cX1_isUpsetBy 3 (some .boolean), .methodLink RX1 33 yX1_isFrightenedBy, .instanceMethod yX1_isFrightenedBy, .selects RX1 yX1_isFrightenedBy yX1_isFrightenedBy, .code yX1_isFrightenedBy cX1_isFrightenedBy 2 (some .boolean)] ++ wsX10)
def wsX2_init : List Cond := .code yX2_init cX2_init 4 none :: ([.methodLink RX2 1 objectInit, .instanceMethod objectInit, .code objectInit ⟨#[0xb1]⟩ 1 none, .fieldLink RX2 7 "GhostInn$Room" "beds" "I", .fieldLink RX2 13 "GhostInn$Room" "comfort" "I", .fieldLink RX2 16 "GhostInn$Room" "least" "I"] ++ wsX20)
def wsX2_leadsTo : List Cond := .code yX2_leadsTo cX2_leadsTo 2 (some .boolean) :: ([.fieldLink RX2 19 "GhostInn$Room" "doorBits" "I"] ++ wsX20)
def wsX2_openTo : List Cond := .code yX2_openTo cX2_openTo 2 none :: ([.fieldLink RX2 19 "GhostInn$Room" "doorBits" "I"] ++ wsX20)
def wsJ6_bitCount_0f7a4 : List Cond := .code yJ6_bitCount_0f7a4 cJ6_bitCount_0f7a4 1 (some .int) :: ([.constant RJ6 265 (1431655765), .constant RJ6 266 (858993459), .constant RJ6 267 (252645135)])
def wsX2_doorsThere : List Cond := .code yX2_doorsThere cX2_doorsThere 1 (some .int) :: ([.fieldLink RX2 19 "GhostInn$Room" "doorBits" "I", .methodLink RX2 22 yJ6_bitCount_0f7a4, .static yJ6_bitCount_0f7a4, .initialized RJ6, .code yJ6_bitCount_0f7a4 cJ6_bitCount_0f7a4 1 (some .int), .constant RJ6 265 (1431655765), .constant RJ6 266 (858993459), .constant RJ6 267 (252645135)] ++ wsX20)
def wsX2_wasLet : List Cond := .code yX2_wasLet cX2_wasLet 3 none :: ([.fieldLink RX2 28 "GhostInn$Room" "nightsLet" "I", .fieldLink RX2 31 "GhostInn$Room" "earned" "I", .fieldLink RX2 13 "GhostInn$Room" "comfort" "I", .methodLink RX2 34 Lib.Math.max.name, .static Lib.Math.max.name, .initialized "java/lang/Math", .code Lib.Math.max.name Lib.Math.max.code 2 (some .int)] ++ wsX20)
def wsX3_init : List Cond := .code yX3_init cX3_init 1 none :: ([.methodLink RX3 3 objectInit, .instanceMethod objectInit, .code objectInit ⟨#[0xb1]⟩ 1 none, .arrayClass .int, .fieldLink RX3 9 "GhostInn$Seating" "allowedBits" "[I", .fieldLink RX3 15 "GhostInn$Seating" "holders" "[I"] ++ wsX30)
def wsJ7_fill_53178 : List Cond := .code yJ7_fill_53178 cJ7_fill_53178 4 none :: ([])
def wsX3_clear : List Cond := .code yX3_clear cX3_clear 1 none :: ([.fieldLink RX3 9 "GhostInn$Seating" "allowedBits" "[I", .fieldLink RX3 15 "GhostInn$Seating" "holders" "[I", .methodLink RX3 18 yJ7_fill_53178, .static yJ7_fill_53178, .initialized RJ7, .code yJ7_fill_53178 cJ7_fill_53178 4 none] ++ wsX30)
def wsX3_allow : List Cond := .code yX3_allow cX3_allow 3 none :: ([.fieldLink RX3 9 "GhostInn$Seating" "allowedBits" "[I"] ++ wsX30)
def wsX3_findRoom : List Cond := .code yX3_findRoom cX3_findRoom 6 (some .boolean) :: ([.fieldLink RX3 9 "GhostInn$Seating" "allowedBits" "[I", .fieldLink RX3 15 "GhostInn$Seating" "holders" "[I", .fieldLink RX3 24 "GhostInn$Seating" "askedBits" "I", .methodLink RX3 28 yX3_findRoom, .static yX3_findRoom, .initialized RX3] ++ wsX30)
def wsX3_seat : List Cond := .code yX3_seat cX3_seat 2 (some .boolean) :: ([.fieldLink RX3 24 "GhostInn$Seating" "askedBits" "I", .methodLink RX3 28 yX3_findRoom, .static yX3_findRoom, .initialized RX3, .code yX3_findRoom cX3_findRoom 6 (some .boolean), .fieldLink RX3 9 "GhostInn$Seating" "allowedBits" "[I", .fieldLink RX3 15 "GhostInn$Seating" "holders" "[I"] ++ wsX30)
def wsJxa1e45_init_da8c8 : List Cond := .code yJxa1e45_init_da8c8 cJxa1e45_init_da8c8 1 none :: ([.methodLink RJxa1e45 1 objectInit, .instanceMethod objectInit, .code objectInit ⟨#[0xb1]⟩ 1 none])
def wsJxc12de_init_da8c8 : List Cond := .code yJxc12de_init_da8c8 cJxc12de_init_da8c8 1 none :: ([.fieldLink RJxc12de 7 "java/util/AbstractList" "modCount" "I", .methodLink RJxc12de 1 yJxa1e45_init_da8c8, .instanceMethod yJxa1e45_init_da8c8, .initialized RJxa1e45, .code yJxa1e45_init_da8c8 cJxa1e45_init_da8c8 1 none, .methodLink RJxa1e45 1 objectInit, .instanceMethod objectInit, .code objectInit ⟨#[0xb1]⟩ 1 none] ++ wsJx4a65c0)
def wsJx4a65c_init_da8c8 : List Cond := .code yJx4a65c_init_da8c8 cJx4a65c_init_da8c8 1 none :: ([.fieldLink RJx4a65c 39 "java/util/ArrayList" "DEFAULTCAPACITY_EMPTY_ELEMENTDATA" "[Ljava/lang/Object;", .fieldLink RJx4a65c 9 "java/util/ArrayList" "elementData" "[Ljava/lang/Object;", .methodLink RJx4a65c 1 yJxc12de_init_da8c8, .instanceMethod yJxc12de_init_da8c8, .initialized RJxc12de, .code yJxc12de_init_da8c8 cJxc12de_init_da8c8 1 none, .fieldLink RJxc12de 7 "java/util/AbstractList" "modCount" "I", .methodLink RJxc12de 1 yJxa1e45_init_da8c8, .instanceMethod yJxa1e45_init_da8c8, .initialized RJxa1e45, .code yJxa1e45_init_da8c8 cJxa1e45_init_da8c8 1 none, .methodLink RJxa1e45 1 objectInit, .instanceMethod objectInit, .code objectInit ⟨#[0xb1]⟩ 1 none] ++ wsJx4a65c0)
def wsX4_init_r1 : List Cond := [Cond.methodLink RX4 1 objectInit, Cond.instanceMethod objectInit, Cond.code objectInit ⟨#[0xb1]⟩ 1 none, Cond.classLink RX4 7 RJx4a65c, Cond.instantiable RJx4a65c 3, Cond.initialized RJx4a65c, Cond.fieldLink RX4 10 "GhostInn" "rooms" "Ljava/util/ArrayList;", Cond.fieldLink RX4 16 "GhostInn" "ghosts" "Ljava/util/ArrayList;", Cond.fieldLink RX4 19 "GhostInn" "guests" "Ljava/util/ArrayList;", Cond.classLink RX4 22 RX3, Cond.instantiable RX3 3, Cond.initialized RX3, Cond.fieldLink RX4 25 "GhostInn" "seating" "LGhostInn$Seating;", Cond.methodLink RX4 9 yJx4a65c_init_da8c8, Cond.instanceMethod yJx4a65c_init_da8c8, Cond.code yJx4a65c_init_da8c8 cJx4a65c_init_da8c8 1 none, Cond.fieldLink RJx4a65c 39 "java/util/ArrayList" "DEFAULTCAPACITY_EMPTY_ELEMENTDATA" "[Ljava/lang/Object;", Cond.fieldLink RJx4a65c 9 "java/util/ArrayList" "elementData" "[Ljava/lang/Object;", Cond.methodLink RJx4a65c 1 yJxc12de_init_da8c8, Cond.instanceMethod yJxc12de_init_da8c8, Cond.initialized RJxc12de, Cond.code yJxc12de_init_da8c8 cJxc12de_init_da8c8 1 none, Cond.fieldLink RJxc12de 7 "java/util/AbstractList" "modCount" "I", Cond.methodLink RJxc12de 1 yJxa1e45_init_da8c8]
def wsX4_init_r2 : List Cond := [Cond.instanceMethod yJxa1e45_init_da8c8, Cond.initialized RJxa1e45, Cond.code yJxa1e45_init_da8c8 cJxa1e45_init_da8c8 1 none, Cond.methodLink RJxa1e45 1 objectInit, Cond.instanceMethod yX3_init, Cond.code yX3_init cX3_init 1 none, Cond.methodLink RX3 3 objectInit, Cond.arrayClass .int, Cond.fieldLink RX3 9 "GhostInn$Seating" "allowedBits" "[I", Cond.fieldLink RX3 15 "GhostInn$Seating" "holders" "[I"]
def wsX4_init : List Cond := .code yX4_init cX4_init 1 none :: ((wsX4_init_r1 ++ wsX4_init_r2) ++ wsJx4a65c0 ++ wsX40 ++ wsX30)
def wsX4_within : List Cond := .code yX4_within cX4_within 3 (some .boolean) :: ([])
def wsJx4a65c_size_8abf5 : List Cond := .code yJx4a65c_size_8abf5 cJx4a65c_size_8abf5 1 (some .int) :: ([.fieldLink RJx4a65c 48 "java/util/ArrayList" "size" "I"] ++ wsJx4a65c0)
def wsJ8_hugeLength_7cf53 : List Cond := .code yJ8_hugeLength_7cf53 cJ8_hugeLength_7cf53 3 (some .int) :: ([.constant RJ8 200 (2147483639)])
def wsJ8_newLength_cabcc : List Cond := .code yJ8_newLength_cabcc cJ8_newLength_cabcc 4 (some .int) :: ([.methodLink RJ8 194 Lib.Math.max.name, .static Lib.Math.max.name, .initialized "java/lang/Math", .code Lib.Math.max.name Lib.Math.max.code 2 (some .int), .constant RJ8 200 (2147483639), .methodLink RJ8 201 yJ8_hugeLength_7cf53, .static yJ8_hugeLength_7cf53, .initialized RJ8, .code yJ8_hugeLength_7cf53 cJ8_hugeLength_7cf53 3 (some .int)])
def wsJ7_copyOf_6403c : List Cond := .code yJ7_copyOf_6403c cJ7_copyOf_6403c 4 (some (.array (.object "java/lang/Object"))) :: ([.classLink RJ7 110 "[Ljava/lang/Object;", .classLink RJ7 2 "java/lang/Object", .methodLink RJ7 304 Lib.Math.min.name, .static Lib.Math.min.name, .initialized "java/lang/Math", .code Lib.Math.min.name Lib.Math.min.code 2 (some .int), .methodLink RJ7 150 arraycopyName, .native arraycopyName, .static arraycopyName, .initialized "java/lang/System"])
def wsJ7_copyOf_1904c : List Cond := .code yJ7_copyOf_1904c cJ7_copyOf_1904c 2 (some (.array (.object "java/lang/Object"))) :: ([.methodLink RJ7 86 ⟨"java/lang/Object", "getClass", "()Ljava/lang/Class;"⟩, .selects "[Ljava/lang/Object;" ⟨"java/lang/Object", "getClass", "()Ljava/lang/Class;"⟩ ⟨"java/lang/Object", "getClass", "()Ljava/lang/Class;"⟩, .instanceMethod ⟨"java/lang/Object", "getClass", "()Ljava/lang/Class;"⟩, .native ⟨"java/lang/Object", "getClass", "()Ljava/lang/Class;"⟩, .methodLink RJ7 300 yJ7_copyOf_6403c, .static yJ7_copyOf_6403c, .initialized RJ7, .code yJ7_copyOf_6403c cJ7_copyOf_6403c 4 (some (.array (.object "java/lang/Object"))), .classLink RJ7 110 "[Ljava/lang/Object;", .classLink RJ7 2 "java/lang/Object", .methodLink RJ7 304 Lib.Math.min.name, .static Lib.Math.min.name, .initialized "java/lang/Math", .code Lib.Math.min.name Lib.Math.min.code 2 (some .int), .methodLink RJ7 150 arraycopyName, .native arraycopyName, .static arraycopyName, .initialized "java/lang/System"])
def wsJx4a65c_grow_92f84_r1 : List Cond := [Cond.fieldLink RJx4a65c 9 "java/util/ArrayList" "elementData" "[Ljava/lang/Object;", Cond.fieldLink RJx4a65c 39 "java/util/ArrayList" "DEFAULTCAPACITY_EMPTY_ELEMENTDATA" "[Ljava/lang/Object;", Cond.methodLink RJx4a65c 79 Lib.Math.max.name, Cond.static Lib.Math.max.name, Cond.initialized "java/lang/Math", Cond.code Lib.Math.max.name Lib.Math.max.code 2 (some .int), Cond.classLink RJx4a65c 7 "java/lang/Object", Cond.methodLink RJx4a65c 73 yJ8_newLength_cabcc, Cond.static yJ8_newLength_cabcc, Cond.initialized RJ8, Cond.code yJ8_newLength_cabcc cJ8_newLength_cabcc 4 (some .int), Cond.methodLink RJ8 194 Lib.Math.max.name, Cond.constant RJ8 200 (2147483639), Cond.methodLink RJ8 201 yJ8_hugeLength_7cf53, Cond.static yJ8_hugeLength_7cf53, Cond.code yJ8_hugeLength_7cf53 cJ8_hugeLength_7cf53 3 (some .int), Cond.methodLink RJx4a65c 66 yJ7_copyOf_1904c, Cond.static yJ7_copyOf_1904c, Cond.initialized RJ7, Cond.code yJ7_copyOf_1904c cJ7_copyOf_1904c 2 (some (.array (.object "java/lang/Object"))), Cond.methodLink RJ7 86 ⟨"java/lang/Object", "getClass", "()Ljava/lang/Class;"⟩, Cond.selects "[Ljava/lang/Object;" ⟨"java/lang/Object", "getClass", "()Ljava/lang/Class;"⟩ ⟨"java/lang/Object", "getClass", "()Ljava/lang/Class;"⟩, Cond.instanceMethod ⟨"java/lang/Object", "getClass", "()Ljava/lang/Class;"⟩, Cond.native ⟨"java/lang/Object", "getClass", "()Ljava/lang/Class;"⟩]
def wsJx4a65c_grow_92f84_r2 : List Cond := [Cond.methodLink RJ7 300 yJ7_copyOf_6403c, Cond.static yJ7_copyOf_6403c, Cond.code yJ7_copyOf_6403c cJ7_copyOf_6403c 4 (some (.array (.object "java/lang/Object"))), Cond.classLink RJ7 110 "[Ljava/lang/Object;", Cond.classLink RJ7 2 "java/lang/Object", Cond.methodLink RJ7 304 Lib.Math.min.name, Cond.static Lib.Math.min.name, Cond.code Lib.Math.min.name Lib.Math.min.code 2 (some .int), Cond.methodLink RJ7 150 arraycopyName, Cond.native arraycopyName, Cond.static arraycopyName, Cond.initialized "java/lang/System"]
def wsJx4a65c_grow_92f84 : List Cond := .code yJx4a65c_grow_92f84 cJx4a65c_grow_92f84 4 (some (.array (.object "java/lang/Object"))) :: ((wsJx4a65c_grow_92f84_r1 ++ wsJx4a65c_grow_92f84_r2) ++ wsJx4a65c0)
def wsJx4a65c_grow_d5877_r1 : List Cond := [Cond.fieldLink RJx4a65c 48 "java/util/ArrayList" "size" "I", Cond.methodLink RJx4a65c 69 yJx4a65c_grow_92f84, Cond.instanceMethod yJx4a65c_grow_92f84, Cond.selects RJx4a65c yJx4a65c_grow_92f84 yJx4a65c_grow_92f84, Cond.initialized RJx4a65c, Cond.code yJx4a65c_grow_92f84 cJx4a65c_grow_92f84 4 (some (.array (.object "java/lang/Object"))), Cond.fieldLink RJx4a65c 9 "java/util/ArrayList" "elementData" "[Ljava/lang/Object;", Cond.fieldLink RJx4a65c 39 "java/util/ArrayList" "DEFAULTCAPACITY_EMPTY_ELEMENTDATA" "[Ljava/lang/Object;", Cond.methodLink RJx4a65c 79 Lib.Math.max.name, Cond.static Lib.Math.max.name, Cond.initialized "java/lang/Math", Cond.code Lib.Math.max.name Lib.Math.max.code 2 (some .int), Cond.classLink RJx4a65c 7 "java/lang/Object", Cond.methodLink RJx4a65c 73 yJ8_newLength_cabcc, Cond.static yJ8_newLength_cabcc, Cond.initialized RJ8, Cond.code yJ8_newLength_cabcc cJ8_newLength_cabcc 4 (some .int), Cond.methodLink RJ8 194 Lib.Math.max.name, Cond.constant RJ8 200 (2147483639), Cond.methodLink RJ8 201 yJ8_hugeLength_7cf53, Cond.static yJ8_hugeLength_7cf53, Cond.code yJ8_hugeLength_7cf53 cJ8_hugeLength_7cf53 3 (some .int), Cond.methodLink RJx4a65c 66 yJ7_copyOf_1904c, Cond.static yJ7_copyOf_1904c]
def wsJx4a65c_grow_d5877_r2 : List Cond := [Cond.initialized RJ7, Cond.code yJ7_copyOf_1904c cJ7_copyOf_1904c 2 (some (.array (.object "java/lang/Object"))), Cond.methodLink RJ7 86 ⟨"java/lang/Object", "getClass", "()Ljava/lang/Class;"⟩, Cond.selects "[Ljava/lang/Object;" ⟨"java/lang/Object", "getClass", "()Ljava/lang/Class;"⟩ ⟨"java/lang/Object", "getClass", "()Ljava/lang/Class;"⟩, Cond.instanceMethod ⟨"java/lang/Object", "getClass", "()Ljava/lang/Class;"⟩, Cond.native ⟨"java/lang/Object", "getClass", "()Ljava/lang/Class;"⟩, Cond.methodLink RJ7 300 yJ7_copyOf_6403c, Cond.static yJ7_copyOf_6403c, Cond.code yJ7_copyOf_6403c cJ7_copyOf_6403c 4 (some (.array (.object "java/lang/Object"))), Cond.classLink RJ7 110 "[Ljava/lang/Object;", Cond.classLink RJ7 2 "java/lang/Object", Cond.methodLink RJ7 304 Lib.Math.min.name, Cond.static Lib.Math.min.name, Cond.code Lib.Math.min.name Lib.Math.min.code 2 (some .int), Cond.methodLink RJ7 150 arraycopyName, Cond.native arraycopyName, Cond.static arraycopyName, Cond.initialized "java/lang/System"]
def wsJx4a65c_grow_d5877 : List Cond := .code yJx4a65c_grow_d5877 cJx4a65c_grow_d5877 1 (some (.array (.object "java/lang/Object"))) :: ((wsJx4a65c_grow_d5877_r1 ++ wsJx4a65c_grow_d5877_r2) ++ wsJx4a65c0)
def wsJx4a65c_add_72be8_r1 : List Cond := [Cond.fieldLink RJx4a65c 48 "java/util/ArrayList" "size" "I", Cond.methodLink RJx4a65c 129 yJx4a65c_grow_d5877, Cond.instanceMethod yJx4a65c_grow_d5877, Cond.selects RJx4a65c yJx4a65c_grow_d5877 yJx4a65c_grow_d5877, Cond.initialized RJx4a65c, Cond.code yJx4a65c_grow_d5877 cJx4a65c_grow_d5877 1 (some (.array (.object "java/lang/Object"))), Cond.methodLink RJx4a65c 69 yJx4a65c_grow_92f84, Cond.instanceMethod yJx4a65c_grow_92f84, Cond.selects RJx4a65c yJx4a65c_grow_92f84 yJx4a65c_grow_92f84, Cond.code yJx4a65c_grow_92f84 cJx4a65c_grow_92f84 4 (some (.array (.object "java/lang/Object"))), Cond.fieldLink RJx4a65c 9 "java/util/ArrayList" "elementData" "[Ljava/lang/Object;", Cond.fieldLink RJx4a65c 39 "java/util/ArrayList" "DEFAULTCAPACITY_EMPTY_ELEMENTDATA" "[Ljava/lang/Object;", Cond.methodLink RJx4a65c 79 Lib.Math.max.name, Cond.static Lib.Math.max.name, Cond.initialized "java/lang/Math", Cond.code Lib.Math.max.name Lib.Math.max.code 2 (some .int), Cond.classLink RJx4a65c 7 "java/lang/Object", Cond.methodLink RJx4a65c 73 yJ8_newLength_cabcc, Cond.static yJ8_newLength_cabcc, Cond.initialized RJ8, Cond.code yJ8_newLength_cabcc cJ8_newLength_cabcc 4 (some .int), Cond.methodLink RJ8 194 Lib.Math.max.name, Cond.constant RJ8 200 (2147483639), Cond.methodLink RJ8 201 yJ8_hugeLength_7cf53]
def wsJx4a65c_add_72be8_r2 : List Cond := [Cond.static yJ8_hugeLength_7cf53, Cond.code yJ8_hugeLength_7cf53 cJ8_hugeLength_7cf53 3 (some .int), Cond.methodLink RJx4a65c 66 yJ7_copyOf_1904c, Cond.static yJ7_copyOf_1904c, Cond.initialized RJ7, Cond.code yJ7_copyOf_1904c cJ7_copyOf_1904c 2 (some (.array (.object "java/lang/Object"))), Cond.methodLink RJ7 86 ⟨"java/lang/Object", "getClass", "()Ljava/lang/Class;"⟩, Cond.selects "[Ljava/lang/Object;" ⟨"java/lang/Object", "getClass", "()Ljava/lang/Class;"⟩ ⟨"java/lang/Object", "getClass", "()Ljava/lang/Class;"⟩, Cond.instanceMethod ⟨"java/lang/Object", "getClass", "()Ljava/lang/Class;"⟩, Cond.native ⟨"java/lang/Object", "getClass", "()Ljava/lang/Class;"⟩, Cond.methodLink RJ7 300 yJ7_copyOf_6403c, Cond.static yJ7_copyOf_6403c, Cond.code yJ7_copyOf_6403c cJ7_copyOf_6403c 4 (some (.array (.object "java/lang/Object"))), Cond.classLink RJ7 110 "[Ljava/lang/Object;", Cond.classLink RJ7 2 "java/lang/Object", Cond.methodLink RJ7 304 Lib.Math.min.name, Cond.static Lib.Math.min.name, Cond.code Lib.Math.min.name Lib.Math.min.code 2 (some .int), Cond.methodLink RJ7 150 arraycopyName, Cond.native arraycopyName, Cond.static arraycopyName, Cond.initialized "java/lang/System"]
def wsJx4a65c_add_72be8 : List Cond := .code yJx4a65c_add_72be8 cJx4a65c_add_72be8 4 none :: ((wsJx4a65c_add_72be8_r1 ++ wsJx4a65c_add_72be8_r2) ++ wsJx4a65c0)
def wsJx4a65c_add_9ea2d_r1 : List Cond := [Cond.fieldLink RJx4a65c 63 "java/util/ArrayList" "modCount" "I", Cond.sameField "java/util/ArrayList" "java/util/AbstractList" "modCount" "I", Cond.fieldLink RJx4a65c 9 "java/util/ArrayList" "elementData" "[Ljava/lang/Object;", Cond.fieldLink RJx4a65c 48 "java/util/ArrayList" "size" "I", Cond.methodLink RJx4a65c 131 yJx4a65c_add_72be8, Cond.instanceMethod yJx4a65c_add_72be8, Cond.selects RJx4a65c yJx4a65c_add_72be8 yJx4a65c_add_72be8, Cond.initialized RJx4a65c, Cond.code yJx4a65c_add_72be8 cJx4a65c_add_72be8 4 none, Cond.methodLink RJx4a65c 129 yJx4a65c_grow_d5877, Cond.instanceMethod yJx4a65c_grow_d5877, Cond.selects RJx4a65c yJx4a65c_grow_d5877 yJx4a65c_grow_d5877, Cond.code yJx4a65c_grow_d5877 cJx4a65c_grow_d5877 1 (some (.array (.object "java/lang/Object"))), Cond.methodLink RJx4a65c 69 yJx4a65c_grow_92f84, Cond.instanceMethod yJx4a65c_grow_92f84, Cond.selects RJx4a65c yJx4a65c_grow_92f84 yJx4a65c_grow_92f84, Cond.code yJx4a65c_grow_92f84 cJx4a65c_grow_92f84 4 (some (.array (.object "java/lang/Object"))), Cond.fieldLink RJx4a65c 39 "java/util/ArrayList" "DEFAULTCAPACITY_EMPTY_ELEMENTDATA" "[Ljava/lang/Object;", Cond.methodLink RJx4a65c 79 Lib.Math.max.name, Cond.static Lib.Math.max.name, Cond.initialized "java/lang/Math", Cond.code Lib.Math.max.name Lib.Math.max.code 2 (some .int), Cond.classLink RJx4a65c 7 "java/lang/Object", Cond.methodLink RJx4a65c 73 yJ8_newLength_cabcc]
def wsJx4a65c_add_9ea2d_r2 : List Cond := [Cond.static yJ8_newLength_cabcc, Cond.initialized RJ8, Cond.code yJ8_newLength_cabcc cJ8_newLength_cabcc 4 (some .int), Cond.methodLink RJ8 194 Lib.Math.max.name, Cond.constant RJ8 200 (2147483639), Cond.methodLink RJ8 201 yJ8_hugeLength_7cf53, Cond.static yJ8_hugeLength_7cf53, Cond.code yJ8_hugeLength_7cf53 cJ8_hugeLength_7cf53 3 (some .int), Cond.methodLink RJx4a65c 66 yJ7_copyOf_1904c, Cond.static yJ7_copyOf_1904c, Cond.initialized RJ7, Cond.code yJ7_copyOf_1904c cJ7_copyOf_1904c 2 (some (.array (.object "java/lang/Object"))), Cond.methodLink RJ7 86 ⟨"java/lang/Object", "getClass", "()Ljava/lang/Class;"⟩, Cond.selects "[Ljava/lang/Object;" ⟨"java/lang/Object", "getClass", "()Ljava/lang/Class;"⟩ ⟨"java/lang/Object", "getClass", "()Ljava/lang/Class;"⟩, Cond.instanceMethod ⟨"java/lang/Object", "getClass", "()Ljava/lang/Class;"⟩, Cond.native ⟨"java/lang/Object", "getClass", "()Ljava/lang/Class;"⟩, Cond.methodLink RJ7 300 yJ7_copyOf_6403c, Cond.static yJ7_copyOf_6403c, Cond.code yJ7_copyOf_6403c cJ7_copyOf_6403c 4 (some (.array (.object "java/lang/Object"))), Cond.classLink RJ7 110 "[Ljava/lang/Object;", Cond.classLink RJ7 2 "java/lang/Object", Cond.methodLink RJ7 304 Lib.Math.min.name, Cond.static Lib.Math.min.name, Cond.code Lib.Math.min.name Lib.Math.min.code 2 (some .int)]
def wsJx4a65c_add_9ea2d_r3 : List Cond := [Cond.methodLink RJ7 150 arraycopyName, Cond.native arraycopyName, Cond.static arraycopyName, Cond.initialized "java/lang/System"]
def wsJx4a65c_add_9ea2d : List Cond := .code yJx4a65c_add_9ea2d cJx4a65c_add_9ea2d 2 (some .boolean) :: ((wsJx4a65c_add_9ea2d_r1 ++ (wsJx4a65c_add_9ea2d_r2 ++ wsJx4a65c_add_9ea2d_r3)) ++ wsJx4a65c0)
def wsX4_furnish_r1 : List Cond := [Cond.classLink RX4 33 "java/lang/IllegalArgumentException", Cond.initialized "java/lang/IllegalArgumentException", Cond.classLink RX4 44 "java/lang/IllegalStateException", Cond.initialized "java/lang/IllegalStateException", Cond.fieldLink RX4 10 "GhostInn" "rooms" "Ljava/util/ArrayList;", Cond.classLink RX4 49 RX2, Cond.instantiable RX2 6, Cond.initialized RX2, Cond.methodLink RX4 29 yX4_within, Cond.static yX4_within, Cond.initialized RX4, Cond.code yX4_within cX4_within 3 (some .boolean), Cond.methodLink RX4 40 yJx4a65c_size_8abf5, Cond.instanceMethod yJx4a65c_size_8abf5, Cond.selects RJx4a65c yJx4a65c_size_8abf5 yJx4a65c_size_8abf5, Cond.initialized RJx4a65c, Cond.code yJx4a65c_size_8abf5 cJx4a65c_size_8abf5 1 (some .int), Cond.fieldLink RJx4a65c 48 "java/util/ArrayList" "size" "I", Cond.methodLink RX4 51 yX2_init, Cond.instanceMethod yX2_init, Cond.code yX2_init cX2_init 4 none, Cond.methodLink RX2 1 objectInit, Cond.instanceMethod objectInit, Cond.code objectInit ⟨#[0xb1]⟩ 1 none]
def wsX4_furnish_r2 : List Cond := [Cond.fieldLink RX2 7 "GhostInn$Room" "beds" "I", Cond.fieldLink RX2 13 "GhostInn$Room" "comfort" "I", Cond.fieldLink RX2 16 "GhostInn$Room" "least" "I", Cond.methodLink RX4 54 yJx4a65c_add_9ea2d, Cond.instanceMethod yJx4a65c_add_9ea2d, Cond.selects RJx4a65c yJx4a65c_add_9ea2d yJx4a65c_add_9ea2d, Cond.code yJx4a65c_add_9ea2d cJx4a65c_add_9ea2d 2 (some .boolean), Cond.fieldLink RJx4a65c 63 "java/util/ArrayList" "modCount" "I", Cond.sameField "java/util/ArrayList" "java/util/AbstractList" "modCount" "I", Cond.fieldLink RJx4a65c 9 "java/util/ArrayList" "elementData" "[Ljava/lang/Object;", Cond.methodLink RJx4a65c 131 yJx4a65c_add_72be8, Cond.instanceMethod yJx4a65c_add_72be8, Cond.selects RJx4a65c yJx4a65c_add_72be8 yJx4a65c_add_72be8, Cond.code yJx4a65c_add_72be8 cJx4a65c_add_72be8 4 none, Cond.methodLink RJx4a65c 129 yJx4a65c_grow_d5877, Cond.instanceMethod yJx4a65c_grow_d5877, Cond.selects RJx4a65c yJx4a65c_grow_d5877 yJx4a65c_grow_d5877, Cond.code yJx4a65c_grow_d5877 cJx4a65c_grow_d5877 1 (some (.array (.object "java/lang/Object"))), Cond.methodLink RJx4a65c 69 yJx4a65c_grow_92f84, Cond.instanceMethod yJx4a65c_grow_92f84, Cond.selects RJx4a65c yJx4a65c_grow_92f84 yJx4a65c_grow_92f84, Cond.code yJx4a65c_grow_92f84 cJx4a65c_grow_92f84 4 (some (.array (.object "java/lang/Object"))), Cond.fieldLink RJx4a65c 39 "java/util/ArrayList" "DEFAULTCAPACITY_EMPTY_ELEMENTDATA" "[Ljava/lang/Object;", Cond.methodLink RJx4a65c 79 Lib.Math.max.name]
def wsX4_furnish_r3 : List Cond := [Cond.static Lib.Math.max.name, Cond.initialized "java/lang/Math", Cond.code Lib.Math.max.name Lib.Math.max.code 2 (some .int), Cond.classLink RJx4a65c 7 "java/lang/Object", Cond.methodLink RJx4a65c 73 yJ8_newLength_cabcc, Cond.static yJ8_newLength_cabcc, Cond.initialized RJ8, Cond.code yJ8_newLength_cabcc cJ8_newLength_cabcc 4 (some .int), Cond.methodLink RJ8 194 Lib.Math.max.name, Cond.constant RJ8 200 (2147483639), Cond.methodLink RJ8 201 yJ8_hugeLength_7cf53, Cond.static yJ8_hugeLength_7cf53, Cond.code yJ8_hugeLength_7cf53 cJ8_hugeLength_7cf53 3 (some .int), Cond.methodLink RJx4a65c 66 yJ7_copyOf_1904c, Cond.static yJ7_copyOf_1904c, Cond.initialized RJ7, Cond.code yJ7_copyOf_1904c cJ7_copyOf_1904c 2 (some (.array (.object "java/lang/Object"))), Cond.methodLink RJ7 86 ⟨"java/lang/Object", "getClass", "()Ljava/lang/Class;"⟩, Cond.selects "[Ljava/lang/Object;" ⟨"java/lang/Object", "getClass", "()Ljava/lang/Class;"⟩ ⟨"java/lang/Object", "getClass", "()Ljava/lang/Class;"⟩, Cond.instanceMethod ⟨"java/lang/Object", "getClass", "()Ljava/lang/Class;"⟩, Cond.native ⟨"java/lang/Object", "getClass", "()Ljava/lang/Class;"⟩, Cond.methodLink RJ7 300 yJ7_copyOf_6403c, Cond.static yJ7_copyOf_6403c, Cond.code yJ7_copyOf_6403c cJ7_copyOf_6403c 4 (some (.array (.object "java/lang/Object")))]
def wsX4_furnish_r4 : List Cond := [Cond.classLink RJ7 110 "[Ljava/lang/Object;", Cond.classLink RJ7 2 "java/lang/Object", Cond.methodLink RJ7 304 Lib.Math.min.name, Cond.static Lib.Math.min.name, Cond.code Lib.Math.min.name Lib.Math.min.code 2 (some .int), Cond.methodLink RJ7 150 arraycopyName, Cond.native arraycopyName, Cond.static arraycopyName, Cond.initialized "java/lang/System"]
def wsX4_furnish : List Cond := .code yX4_furnish cX4_furnish 4 (some .int) :: ((wsX4_furnish_r1 ++ (wsX4_furnish_r2 ++ (wsX4_furnish_r3 ++ wsX4_furnish_r4))) ++ wsX40 ++ wsX20 ++ wsJx4a65c0 ++ (vx_atS RX4 37 "java/lang/IllegalArgumentException" ["java/lang/RuntimeException", "java/lang/Exception"]).filter goodWord ++ (vx_atS RX4 48 "java/lang/IllegalStateException" ["java/lang/RuntimeException", "java/lang/Exception"]).filter goodWord)
def wsX4_isRoom : List Cond := .code yX4_isRoom cX4_isRoom 2 (some .boolean) :: ([.fieldLink RX4 10 "GhostInn" "rooms" "Ljava/util/ArrayList;", .methodLink RX4 40 yJx4a65c_size_8abf5, .instanceMethod yJx4a65c_size_8abf5, .selects RJx4a65c yJx4a65c_size_8abf5 yJx4a65c_size_8abf5, .initialized RJx4a65c, .code yJx4a65c_size_8abf5 cJx4a65c_size_8abf5 1 (some .int), .fieldLink RJx4a65c 48 "java/util/ArrayList" "size" "I"] ++ wsX40 ++ wsJx4a65c0)
def wsJ3_checkIndex_8e157 : List Cond := .code yJ3_checkIndex_8e157 cJ3_checkIndex_8e157 3 (some .int) :: ([])
def wsJ15_checkIndex_7cf53 : List Cond := .code yJ15_checkIndex_7cf53 cJ15_checkIndex_7cf53 2 (some .int) :: ([.methodLink RJ15 105 yJ3_checkIndex_8e157, .static yJ3_checkIndex_8e157, .initialized RJ3, .code yJ3_checkIndex_8e157 cJ3_checkIndex_8e157 3 (some .int)])
def wsJx4a65c_elementData_915e3 : List Cond := .code yJx4a65c_elementData_915e3 cJx4a65c_elementData_915e3 2 (some (.object "java/lang/Object")) :: ([.fieldLink RJx4a65c 9 "java/util/ArrayList" "elementData" "[Ljava/lang/Object;"] ++ wsJx4a65c0)
def wsJx4a65c_get_915e3 : List Cond := .code yJx4a65c_get_915e3 cJx4a65c_get_915e3 2 (some (.object "java/lang/Object")) :: ([.fieldLink RJx4a65c 48 "java/util/ArrayList" "size" "I", .methodLink RJx4a65c 118 yJ15_checkIndex_7cf53, .static yJ15_checkIndex_7cf53, .initialized RJ15, .code yJ15_checkIndex_7cf53 cJ15_checkIndex_7cf53 2 (some .int), .methodLink RJ15 105 yJ3_checkIndex_8e157, .static yJ3_checkIndex_8e157, .initialized RJ3, .code yJ3_checkIndex_8e157 cJ3_checkIndex_8e157 3 (some .int), .methodLink RJx4a65c 123 yJx4a65c_elementData_915e3, .instanceMethod yJx4a65c_elementData_915e3, .selects RJx4a65c yJx4a65c_elementData_915e3 yJx4a65c_elementData_915e3, .initialized RJx4a65c, .code yJx4a65c_elementData_915e3 cJx4a65c_elementData_915e3 2 (some (.object "java/lang/Object")), .fieldLink RJx4a65c 9 "java/util/ArrayList" "elementData" "[Ljava/lang/Object;"] ++ wsJx4a65c0)
def wsX4_nextRoom_r1 : List Cond := [Cond.fieldLink RX4 10 "GhostInn" "rooms" "Ljava/util/ArrayList;", Cond.classLink RX4 49 "GhostInn$Room", Cond.methodLink RX4 58 yX4_isRoom, Cond.instanceMethod yX4_isRoom, Cond.selects RX4 yX4_isRoom yX4_isRoom, Cond.initialized RX4, Cond.code yX4_isRoom cX4_isRoom 2 (some .boolean), Cond.methodLink RX4 40 yJx4a65c_size_8abf5, Cond.instanceMethod yJx4a65c_size_8abf5, Cond.selects RJx4a65c yJx4a65c_size_8abf5 yJx4a65c_size_8abf5, Cond.initialized RJx4a65c, Cond.code yJx4a65c_size_8abf5 cJx4a65c_size_8abf5 1 (some .int), Cond.fieldLink RJx4a65c 48 "java/util/ArrayList" "size" "I", Cond.methodLink RX4 69 yJx4a65c_get_915e3, Cond.instanceMethod yJx4a65c_get_915e3, Cond.selects RJx4a65c yJx4a65c_get_915e3 yJx4a65c_get_915e3, Cond.code yJx4a65c_get_915e3 cJx4a65c_get_915e3 2 (some (.object "java/lang/Object")), Cond.methodLink RJx4a65c 118 yJ15_checkIndex_7cf53, Cond.static yJ15_checkIndex_7cf53, Cond.initialized RJ15, Cond.code yJ15_checkIndex_7cf53 cJ15_checkIndex_7cf53 2 (some .int), Cond.methodLink RJ15 105 yJ3_checkIndex_8e157, Cond.static yJ3_checkIndex_8e157, Cond.initialized RJ3]
def wsX4_nextRoom_r2 : List Cond := [Cond.code yJ3_checkIndex_8e157 cJ3_checkIndex_8e157 3 (some .int), Cond.methodLink RJx4a65c 123 yJx4a65c_elementData_915e3, Cond.instanceMethod yJx4a65c_elementData_915e3, Cond.selects RJx4a65c yJx4a65c_elementData_915e3 yJx4a65c_elementData_915e3, Cond.code yJx4a65c_elementData_915e3 cJx4a65c_elementData_915e3 2 (some (.object "java/lang/Object")), Cond.fieldLink RJx4a65c 9 "java/util/ArrayList" "elementData" "[Ljava/lang/Object;", Cond.methodLink RX4 73 yX2_leadsTo, Cond.instanceMethod yX2_leadsTo, Cond.selects RX2 yX2_leadsTo yX2_leadsTo, Cond.initialized RX2, Cond.code yX2_leadsTo cX2_leadsTo 2 (some .boolean), Cond.fieldLink RX2 19 "GhostInn$Room" "doorBits" "I"]
def wsX4_nextRoom : List Cond := .code yX4_nextRoom cX4_nextRoom 5 (some .int) :: ((wsX4_nextRoom_r1 ++ wsX4_nextRoom_r2) ++ wsX40 ++ wsJx4a65c0 ++ wsX20)
def wsX4_planWay_r1 : List Cond := [Cond.fieldLink RX4 260 "GhostInn$Ghost" "home" "I", Cond.fieldLink RX4 263 "GhostInn$Ghost" "wakes" "I", Cond.methodLink RX4 266 yX4_nextRoom, Cond.instanceMethod yX4_nextRoom, Cond.selects RX4 yX4_nextRoom yX4_nextRoom, Cond.initialized RX4, Cond.code yX4_nextRoom cX4_nextRoom 5 (some .int), Cond.fieldLink RX4 10 "GhostInn" "rooms" "Ljava/util/ArrayList;", Cond.classLink RX4 49 "GhostInn$Room", Cond.methodLink RX4 58 yX4_isRoom, Cond.instanceMethod yX4_isRoom, Cond.selects RX4 yX4_isRoom yX4_isRoom, Cond.code yX4_isRoom cX4_isRoom 2 (some .boolean), Cond.methodLink RX4 40 yJx4a65c_size_8abf5, Cond.instanceMethod yJx4a65c_size_8abf5, Cond.selects RJx4a65c yJx4a65c_size_8abf5 yJx4a65c_size_8abf5, Cond.initialized RJx4a65c, Cond.code yJx4a65c_size_8abf5 cJx4a65c_size_8abf5 1 (some .int), Cond.fieldLink RJx4a65c 48 "java/util/ArrayList" "size" "I", Cond.methodLink RX4 69 yJx4a65c_get_915e3, Cond.instanceMethod yJx4a65c_get_915e3, Cond.selects RJx4a65c yJx4a65c_get_915e3 yJx4a65c_get_915e3, Cond.code yJx4a65c_get_915e3 cJx4a65c_get_915e3 2 (some (.object "java/lang/Object")), Cond.methodLink RJx4a65c 118 yJ15_checkIndex_7cf53]
def wsX4_planWay_r2 : List Cond := [Cond.static yJ15_checkIndex_7cf53, Cond.initialized RJ15, Cond.code yJ15_checkIndex_7cf53 cJ15_checkIndex_7cf53 2 (some .int), Cond.methodLink RJ15 105 yJ3_checkIndex_8e157, Cond.static yJ3_checkIndex_8e157, Cond.initialized RJ3, Cond.code yJ3_checkIndex_8e157 cJ3_checkIndex_8e157 3 (some .int), Cond.methodLink RJx4a65c 123 yJx4a65c_elementData_915e3, Cond.instanceMethod yJx4a65c_elementData_915e3, Cond.selects RJx4a65c yJx4a65c_elementData_915e3 yJx4a65c_elementData_915e3, Cond.code yJx4a65c_elementData_915e3 cJx4a65c_elementData_915e3 2 (some (.object "java/lang/Object")), Cond.fieldLink RJx4a65c 9 "java/util/ArrayList" "elementData" "[Ljava/lang/Object;", Cond.methodLink RX4 73 yX2_leadsTo, Cond.instanceMethod yX2_leadsTo, Cond.selects RX2 yX2_leadsTo yX2_leadsTo, Cond.initialized RX2, Cond.code yX2_leadsTo cX2_leadsTo 2 (some .boolean), Cond.fieldLink RX2 19 "GhostInn$Room" "doorBits" "I", Cond.methodLink RX4 269 yX0_isAwakeIn, Cond.instanceMethod yX0_isAwakeIn, Cond.selects RX0 yX0_isAwakeIn yX0_isAwakeIn, Cond.initialized RX0, Cond.code yX0_isAwakeIn cX0_isAwakeIn 2 (some .boolean), Cond.fieldLink RX0 22 "GhostInn$Ghost" "wakes" "I"]
def wsX4_planWay_r3 : List Cond := [Cond.fieldLink RX0 25 "GhostInn$Ghost" "bed" "I", Cond.methodLink RX4 272 yX0_setPlace, Cond.instanceMethod yX0_setPlace, Cond.selects RX0 yX0_setPlace yX0_setPlace, Cond.code yX0_setPlace cX0_setPlace 3 none, Cond.fieldLink RX0 9 "GhostInn$Ghost" "places" "[I"]
def wsX4_planWay : List Cond := .code yX4_planWay cX4_planWay 4 none :: ((wsX4_planWay_r1 ++ (wsX4_planWay_r2 ++ wsX4_planWay_r3)) ++ wsX00 ++ wsX40 ++ wsJx4a65c0 ++ wsX20)
def wsX4_planAllWays_r1 : List Cond := [Cond.fieldLink RX4 16 "GhostInn" "ghosts" "Ljava/util/ArrayList;", Cond.classLink RX4 93 "GhostInn$Ghost", Cond.methodLink RX4 40 yJx4a65c_size_8abf5, Cond.instanceMethod yJx4a65c_size_8abf5, Cond.selects RJx4a65c yJx4a65c_size_8abf5 yJx4a65c_size_8abf5, Cond.initialized RJx4a65c, Cond.code yJx4a65c_size_8abf5 cJx4a65c_size_8abf5 1 (some .int), Cond.fieldLink RJx4a65c 48 "java/util/ArrayList" "size" "I", Cond.methodLink RX4 69 yJx4a65c_get_915e3, Cond.instanceMethod yJx4a65c_get_915e3, Cond.selects RJx4a65c yJx4a65c_get_915e3 yJx4a65c_get_915e3, Cond.code yJx4a65c_get_915e3 cJx4a65c_get_915e3 2 (some (.object "java/lang/Object")), Cond.methodLink RJx4a65c 118 yJ15_checkIndex_7cf53, Cond.static yJ15_checkIndex_7cf53, Cond.initialized RJ15, Cond.code yJ15_checkIndex_7cf53 cJ15_checkIndex_7cf53 2 (some .int), Cond.methodLink RJ15 105 yJ3_checkIndex_8e157, Cond.static yJ3_checkIndex_8e157, Cond.initialized RJ3, Cond.code yJ3_checkIndex_8e157 cJ3_checkIndex_8e157 3 (some .int), Cond.methodLink RJx4a65c 123 yJx4a65c_elementData_915e3, Cond.instanceMethod yJx4a65c_elementData_915e3, Cond.selects RJx4a65c yJx4a65c_elementData_915e3 yJx4a65c_elementData_915e3, Cond.code yJx4a65c_elementData_915e3 cJx4a65c_elementData_915e3 2 (some (.object "java/lang/Object"))]
def wsX4_planAllWays_r2 : List Cond := [Cond.fieldLink RJx4a65c 9 "java/util/ArrayList" "elementData" "[Ljava/lang/Object;", Cond.methodLink RX4 98 yX4_planWay, Cond.instanceMethod yX4_planWay, Cond.selects RX4 yX4_planWay yX4_planWay, Cond.initialized RX4, Cond.code yX4_planWay cX4_planWay 4 none, Cond.fieldLink RX4 260 "GhostInn$Ghost" "home" "I", Cond.fieldLink RX4 263 "GhostInn$Ghost" "wakes" "I", Cond.methodLink RX4 266 yX4_nextRoom, Cond.instanceMethod yX4_nextRoom, Cond.selects RX4 yX4_nextRoom yX4_nextRoom, Cond.code yX4_nextRoom cX4_nextRoom 5 (some .int), Cond.fieldLink RX4 10 "GhostInn" "rooms" "Ljava/util/ArrayList;", Cond.classLink RX4 49 "GhostInn$Room", Cond.methodLink RX4 58 yX4_isRoom, Cond.instanceMethod yX4_isRoom, Cond.selects RX4 yX4_isRoom yX4_isRoom, Cond.code yX4_isRoom cX4_isRoom 2 (some .boolean), Cond.methodLink RX4 73 yX2_leadsTo, Cond.instanceMethod yX2_leadsTo, Cond.selects RX2 yX2_leadsTo yX2_leadsTo, Cond.initialized RX2, Cond.code yX2_leadsTo cX2_leadsTo 2 (some .boolean), Cond.fieldLink RX2 19 "GhostInn$Room" "doorBits" "I"]
def wsX4_planAllWays_r3 : List Cond := [Cond.methodLink RX4 269 yX0_isAwakeIn, Cond.instanceMethod yX0_isAwakeIn, Cond.selects RX0 yX0_isAwakeIn yX0_isAwakeIn, Cond.initialized RX0, Cond.code yX0_isAwakeIn cX0_isAwakeIn 2 (some .boolean), Cond.fieldLink RX0 22 "GhostInn$Ghost" "wakes" "I", Cond.fieldLink RX0 25 "GhostInn$Ghost" "bed" "I", Cond.methodLink RX4 272 yX0_setPlace, Cond.instanceMethod yX0_setPlace, Cond.selects RX0 yX0_setPlace yX0_setPlace, Cond.code yX0_setPlace cX0_setPlace 3 none, Cond.fieldLink RX0 9 "GhostInn$Ghost" "places" "[I"]
def wsX4_planAllWays : List Cond := .code yX4_planAllWays cX4_planAllWays 2 none :: ((wsX4_planAllWays_r1 ++ (wsX4_planAllWays_r2 ++ wsX4_planAllWays_r3)) ++ wsX40 ++ wsJx4a65c0 ++ wsX00 ++ wsX20)
def wsX4_door_r1 : List Cond := [Cond.classLink RX4 62 "java/lang/IndexOutOfBoundsException", Cond.initialized "java/lang/IndexOutOfBoundsException", Cond.classLink RX4 33 "java/lang/IllegalArgumentException", Cond.initialized "java/lang/IllegalArgumentException", Cond.classLink RX4 44 "java/lang/IllegalStateException", Cond.initialized "java/lang/IllegalStateException", Cond.fieldLink RX4 10 "GhostInn" "rooms" "Ljava/util/ArrayList;", Cond.classLink RX4 49 "GhostInn$Room", Cond.fieldLink RX4 76 "GhostInn" "doors" "I", Cond.methodLink RX4 58 yX4_isRoom, Cond.instanceMethod yX4_isRoom, Cond.selects RX4 yX4_isRoom yX4_isRoom, Cond.initialized RX4, Cond.code yX4_isRoom cX4_isRoom 2 (some .boolean), Cond.methodLink RX4 40 yJx4a65c_size_8abf5, Cond.instanceMethod yJx4a65c_size_8abf5, Cond.selects RJx4a65c yJx4a65c_size_8abf5 yJx4a65c_size_8abf5, Cond.initialized RJx4a65c, Cond.code yJx4a65c_size_8abf5 cJx4a65c_size_8abf5 1 (some .int), Cond.fieldLink RJx4a65c 48 "java/util/ArrayList" "size" "I", Cond.methodLink RX4 69 yJx4a65c_get_915e3, Cond.instanceMethod yJx4a65c_get_915e3, Cond.selects RJx4a65c yJx4a65c_get_915e3 yJx4a65c_get_915e3, Cond.code yJx4a65c_get_915e3 cJx4a65c_get_915e3 2 (some (.object "java/lang/Object"))]
def wsX4_door_r2 : List Cond := [Cond.methodLink RJx4a65c 118 yJ15_checkIndex_7cf53, Cond.static yJ15_checkIndex_7cf53, Cond.initialized RJ15, Cond.code yJ15_checkIndex_7cf53 cJ15_checkIndex_7cf53 2 (some .int), Cond.methodLink RJ15 105 yJ3_checkIndex_8e157, Cond.static yJ3_checkIndex_8e157, Cond.initialized RJ3, Cond.code yJ3_checkIndex_8e157 cJ3_checkIndex_8e157 3 (some .int), Cond.methodLink RJx4a65c 123 yJx4a65c_elementData_915e3, Cond.instanceMethod yJx4a65c_elementData_915e3, Cond.selects RJx4a65c yJx4a65c_elementData_915e3 yJx4a65c_elementData_915e3, Cond.code yJx4a65c_elementData_915e3 cJx4a65c_elementData_915e3 2 (some (.object "java/lang/Object")), Cond.fieldLink RJx4a65c 9 "java/util/ArrayList" "elementData" "[Ljava/lang/Object;", Cond.methodLink RX4 73 yX2_leadsTo, Cond.instanceMethod yX2_leadsTo, Cond.selects RX2 yX2_leadsTo yX2_leadsTo, Cond.initialized RX2, Cond.code yX2_leadsTo cX2_leadsTo 2 (some .boolean), Cond.fieldLink RX2 19 "GhostInn$Room" "doorBits" "I", Cond.methodLink RX4 82 yX2_openTo, Cond.instanceMethod yX2_openTo, Cond.selects RX2 yX2_openTo yX2_openTo, Cond.code yX2_openTo cX2_openTo 2 none, Cond.methodLink RX4 86 yX4_planAllWays]
def wsX4_door_r3 : List Cond := [Cond.instanceMethod yX4_planAllWays, Cond.selects RX4 yX4_planAllWays yX4_planAllWays, Cond.code yX4_planAllWays cX4_planAllWays 2 none, Cond.fieldLink RX4 16 "GhostInn" "ghosts" "Ljava/util/ArrayList;", Cond.classLink RX4 93 "GhostInn$Ghost", Cond.methodLink RX4 98 yX4_planWay, Cond.instanceMethod yX4_planWay, Cond.selects RX4 yX4_planWay yX4_planWay, Cond.code yX4_planWay cX4_planWay 4 none, Cond.fieldLink RX4 260 "GhostInn$Ghost" "home" "I", Cond.fieldLink RX4 263 "GhostInn$Ghost" "wakes" "I", Cond.methodLink RX4 266 yX4_nextRoom, Cond.instanceMethod yX4_nextRoom, Cond.selects RX4 yX4_nextRoom yX4_nextRoom, Cond.code yX4_nextRoom cX4_nextRoom 5 (some .int), Cond.methodLink RX4 269 yX0_isAwakeIn, Cond.instanceMethod yX0_isAwakeIn, Cond.selects RX0 yX0_isAwakeIn yX0_isAwakeIn, Cond.initialized RX0, Cond.code yX0_isAwakeIn cX0_isAwakeIn 2 (some .boolean), Cond.fieldLink RX0 22 "GhostInn$Ghost" "wakes" "I", Cond.fieldLink RX0 25 "GhostInn$Ghost" "bed" "I", Cond.methodLink RX4 272 yX0_setPlace, Cond.instanceMethod yX0_setPlace]
def wsX4_door_r4 : List Cond := [Cond.selects RX0 yX0_setPlace yX0_setPlace, Cond.code yX0_setPlace cX0_setPlace 3 none, Cond.fieldLink RX0 9 "GhostInn$Ghost" "places" "[I"]
def wsX4_door : List Cond := .code yX4_door cX4_door 5 (some .int) :: ((wsX4_door_r1 ++ (wsX4_door_r2 ++ (wsX4_door_r3 ++ wsX4_door_r4))) ++ wsX40 ++ wsJx4a65c0 ++ wsX20 ++ wsX00 ++ (vx_atS RX4 66 "java/lang/IndexOutOfBoundsException" ["java/lang/RuntimeException", "java/lang/Exception"]).filter goodWord ++ (vx_atS RX4 37 "java/lang/IllegalArgumentException" ["java/lang/RuntimeException", "java/lang/Exception"]).filter goodWord ++ (vx_atS RX4 48 "java/lang/IllegalStateException" ["java/lang/RuntimeException", "java/lang/Exception"]).filter goodWord)
def wsX4_haunt_r1 : List Cond := [Cond.classLink RX4 62 "java/lang/IndexOutOfBoundsException", Cond.initialized "java/lang/IndexOutOfBoundsException", Cond.classLink RX4 33 "java/lang/IllegalArgumentException", Cond.initialized "java/lang/IllegalArgumentException", Cond.classLink RX4 44 "java/lang/IllegalStateException", Cond.initialized "java/lang/IllegalStateException", Cond.fieldLink RX4 16 "GhostInn" "ghosts" "Ljava/util/ArrayList;", Cond.classLink RX4 93 RX0, Cond.instantiable RX0 5, Cond.initialized RX0, Cond.methodLink RX4 58 yX4_isRoom, Cond.instanceMethod yX4_isRoom, Cond.selects RX4 yX4_isRoom yX4_isRoom, Cond.initialized RX4, Cond.code yX4_isRoom cX4_isRoom 2 (some .boolean), Cond.fieldLink RX4 10 "GhostInn" "rooms" "Ljava/util/ArrayList;", Cond.methodLink RX4 40 yJx4a65c_size_8abf5, Cond.instanceMethod yJx4a65c_size_8abf5, Cond.selects RJx4a65c yJx4a65c_size_8abf5 yJx4a65c_size_8abf5, Cond.initialized RJx4a65c, Cond.code yJx4a65c_size_8abf5 cJx4a65c_size_8abf5 1 (some .int), Cond.fieldLink RJx4a65c 48 "java/util/ArrayList" "size" "I", Cond.methodLink RX4 29 yX4_within, Cond.static yX4_within]
def wsX4_haunt_r2 : List Cond := [Cond.code yX4_within cX4_within 3 (some .boolean), Cond.methodLink RX4 95 yX0_init, Cond.instanceMethod yX0_init, Cond.code yX0_init cX0_init 5 none, Cond.methodLink RX0 3 objectInit, Cond.instanceMethod objectInit, Cond.code objectInit ⟨#[0xb1]⟩ 1 none, Cond.arrayClass .int, Cond.fieldLink RX0 9 "GhostInn$Ghost" "places" "[I", Cond.fieldLink RX0 15 "GhostInn$Ghost" "home" "I", Cond.fieldLink RX0 19 "GhostInn$Ghost" "fright" "I", Cond.fieldLink RX0 22 "GhostInn$Ghost" "wakes" "I", Cond.fieldLink RX0 25 "GhostInn$Ghost" "bed" "I", Cond.methodLink RX4 98 yX4_planWay, Cond.instanceMethod yX4_planWay, Cond.selects RX4 yX4_planWay yX4_planWay, Cond.code yX4_planWay cX4_planWay 4 none, Cond.fieldLink RX4 260 "GhostInn$Ghost" "home" "I", Cond.fieldLink RX4 263 "GhostInn$Ghost" "wakes" "I", Cond.methodLink RX4 266 yX4_nextRoom, Cond.instanceMethod yX4_nextRoom, Cond.selects RX4 yX4_nextRoom yX4_nextRoom, Cond.code yX4_nextRoom cX4_nextRoom 5 (some .int), Cond.classLink RX4 49 "GhostInn$Room"]
def wsX4_haunt_r3 : List Cond := [Cond.methodLink RX4 69 yJx4a65c_get_915e3, Cond.instanceMethod yJx4a65c_get_915e3, Cond.selects RJx4a65c yJx4a65c_get_915e3 yJx4a65c_get_915e3, Cond.code yJx4a65c_get_915e3 cJx4a65c_get_915e3 2 (some (.object "java/lang/Object")), Cond.methodLink RJx4a65c 118 yJ15_checkIndex_7cf53, Cond.static yJ15_checkIndex_7cf53, Cond.initialized RJ15, Cond.code yJ15_checkIndex_7cf53 cJ15_checkIndex_7cf53 2 (some .int), Cond.methodLink RJ15 105 yJ3_checkIndex_8e157, Cond.static yJ3_checkIndex_8e157, Cond.initialized RJ3, Cond.code yJ3_checkIndex_8e157 cJ3_checkIndex_8e157 3 (some .int), Cond.methodLink RJx4a65c 123 yJx4a65c_elementData_915e3, Cond.instanceMethod yJx4a65c_elementData_915e3, Cond.selects RJx4a65c yJx4a65c_elementData_915e3 yJx4a65c_elementData_915e3, Cond.code yJx4a65c_elementData_915e3 cJx4a65c_elementData_915e3 2 (some (.object "java/lang/Object")), Cond.fieldLink RJx4a65c 9 "java/util/ArrayList" "elementData" "[Ljava/lang/Object;", Cond.methodLink RX4 73 yX2_leadsTo, Cond.instanceMethod yX2_leadsTo, Cond.selects RX2 yX2_leadsTo yX2_leadsTo, Cond.initialized RX2, Cond.code yX2_leadsTo cX2_leadsTo 2 (some .boolean), Cond.fieldLink RX2 19 "GhostInn$Room" "doorBits" "I", Cond.methodLink RX4 269 yX0_isAwakeIn]
def wsX4_haunt_r4 : List Cond := [Cond.instanceMethod yX0_isAwakeIn, Cond.selects RX0 yX0_isAwakeIn yX0_isAwakeIn, Cond.code yX0_isAwakeIn cX0_isAwakeIn 2 (some .boolean), Cond.methodLink RX4 272 yX0_setPlace, Cond.instanceMethod yX0_setPlace, Cond.selects RX0 yX0_setPlace yX0_setPlace, Cond.code yX0_setPlace cX0_setPlace 3 none, Cond.methodLink RX4 54 yJx4a65c_add_9ea2d, Cond.instanceMethod yJx4a65c_add_9ea2d, Cond.selects RJx4a65c yJx4a65c_add_9ea2d yJx4a65c_add_9ea2d, Cond.code yJx4a65c_add_9ea2d cJx4a65c_add_9ea2d 2 (some .boolean), Cond.fieldLink RJx4a65c 63 "java/util/ArrayList" "modCount" "I", Cond.sameField "java/util/ArrayList" "java/util/AbstractList" "modCount" "I", Cond.methodLink RJx4a65c 131 yJx4a65c_add_72be8, Cond.instanceMethod yJx4a65c_add_72be8, Cond.selects RJx4a65c yJx4a65c_add_72be8 yJx4a65c_add_72be8, Cond.code yJx4a65c_add_72be8 cJx4a65c_add_72be8 4 none, Cond.methodLink RJx4a65c 129 yJx4a65c_grow_d5877, Cond.instanceMethod yJx4a65c_grow_d5877, Cond.selects RJx4a65c yJx4a65c_grow_d5877 yJx4a65c_grow_d5877, Cond.code yJx4a65c_grow_d5877 cJx4a65c_grow_d5877 1 (some (.array (.object "java/lang/Object"))), Cond.methodLink RJx4a65c 69 yJx4a65c_grow_92f84, Cond.instanceMethod yJx4a65c_grow_92f84, Cond.selects RJx4a65c yJx4a65c_grow_92f84 yJx4a65c_grow_92f84]
def wsX4_haunt_r5 : List Cond := [Cond.code yJx4a65c_grow_92f84 cJx4a65c_grow_92f84 4 (some (.array (.object "java/lang/Object"))), Cond.fieldLink RJx4a65c 39 "java/util/ArrayList" "DEFAULTCAPACITY_EMPTY_ELEMENTDATA" "[Ljava/lang/Object;", Cond.methodLink RJx4a65c 79 Lib.Math.max.name, Cond.static Lib.Math.max.name, Cond.initialized "java/lang/Math", Cond.code Lib.Math.max.name Lib.Math.max.code 2 (some .int), Cond.classLink RJx4a65c 7 "java/lang/Object", Cond.methodLink RJx4a65c 73 yJ8_newLength_cabcc, Cond.static yJ8_newLength_cabcc, Cond.initialized RJ8, Cond.code yJ8_newLength_cabcc cJ8_newLength_cabcc 4 (some .int), Cond.methodLink RJ8 194 Lib.Math.max.name, Cond.constant RJ8 200 (2147483639), Cond.methodLink RJ8 201 yJ8_hugeLength_7cf53, Cond.static yJ8_hugeLength_7cf53, Cond.code yJ8_hugeLength_7cf53 cJ8_hugeLength_7cf53 3 (some .int), Cond.methodLink RJx4a65c 66 yJ7_copyOf_1904c, Cond.static yJ7_copyOf_1904c, Cond.initialized RJ7, Cond.code yJ7_copyOf_1904c cJ7_copyOf_1904c 2 (some (.array (.object "java/lang/Object"))), Cond.methodLink RJ7 86 ⟨"java/lang/Object", "getClass", "()Ljava/lang/Class;"⟩, Cond.selects "[Ljava/lang/Object;" ⟨"java/lang/Object", "getClass", "()Ljava/lang/Class;"⟩ ⟨"java/lang/Object", "getClass", "()Ljava/lang/Class;"⟩, Cond.instanceMethod ⟨"java/lang/Object", "getClass", "()Ljava/lang/Class;"⟩, Cond.native ⟨"java/lang/Object", "getClass", "()Ljava/lang/Class;"⟩]
def wsX4_haunt_r6 : List Cond := [Cond.methodLink RJ7 300 yJ7_copyOf_6403c, Cond.static yJ7_copyOf_6403c, Cond.code yJ7_copyOf_6403c cJ7_copyOf_6403c 4 (some (.array (.object "java/lang/Object"))), Cond.classLink RJ7 110 "[Ljava/lang/Object;", Cond.classLink RJ7 2 "java/lang/Object", Cond.methodLink RJ7 304 Lib.Math.min.name, Cond.static Lib.Math.min.name, Cond.code Lib.Math.min.name Lib.Math.min.code 2 (some .int), Cond.methodLink RJ7 150 arraycopyName, Cond.native arraycopyName, Cond.static arraycopyName, Cond.initialized "java/lang/System"]
def wsX4_haunt : List Cond := .code yX4_haunt cX4_haunt 6 (some .int) :: ((wsX4_haunt_r1 ++ (wsX4_haunt_r2 ++ (wsX4_haunt_r3 ++ (wsX4_haunt_r4 ++ (wsX4_haunt_r5 ++ wsX4_haunt_r6))))) ++ wsX40 ++ wsX00 ++ wsJx4a65c0 ++ wsX20 ++ (vx_atS RX4 66 "java/lang/IndexOutOfBoundsException" ["java/lang/RuntimeException", "java/lang/Exception"]).filter goodWord ++ (vx_atS RX4 37 "java/lang/IllegalArgumentException" ["java/lang/RuntimeException", "java/lang/Exception"]).filter goodWord ++ (vx_atS RX4 48 "java/lang/IllegalStateException" ["java/lang/RuntimeException", "java/lang/Exception"]).filter goodWord)
def wsX4_isGhost : List Cond := .code yX4_isGhost cX4_isGhost 2 (some .boolean) :: ([.fieldLink RX4 16 "GhostInn" "ghosts" "Ljava/util/ArrayList;", .methodLink RX4 40 yJx4a65c_size_8abf5, .instanceMethod yJx4a65c_size_8abf5, .selects RJx4a65c yJx4a65c_size_8abf5 yJx4a65c_size_8abf5, .initialized RJx4a65c, .code yJx4a65c_size_8abf5 cJx4a65c_size_8abf5 1 (some .int), .fieldLink RJx4a65c 48 "java/util/ArrayList" "size" "I"] ++ wsX40 ++ wsJx4a65c0)
def wsX4_at_r1 : List Cond := [Cond.classLink RX4 62 "java/lang/IndexOutOfBoundsException", Cond.initialized "java/lang/IndexOutOfBoundsException", Cond.fieldLink RX4 16 "GhostInn" "ghosts" "Ljava/util/ArrayList;", Cond.classLink RX4 93 "GhostInn$Ghost", Cond.methodLink RX4 102 yX4_isGhost, Cond.instanceMethod yX4_isGhost, Cond.selects RX4 yX4_isGhost yX4_isGhost, Cond.initialized RX4, Cond.code yX4_isGhost cX4_isGhost 2 (some .boolean), Cond.methodLink RX4 40 yJx4a65c_size_8abf5, Cond.instanceMethod yJx4a65c_size_8abf5, Cond.selects RJx4a65c yJx4a65c_size_8abf5 yJx4a65c_size_8abf5, Cond.initialized RJx4a65c, Cond.code yJx4a65c_size_8abf5 cJx4a65c_size_8abf5 1 (some .int), Cond.fieldLink RJx4a65c 48 "java/util/ArrayList" "size" "I", Cond.methodLink RX4 29 yX4_within, Cond.static yX4_within, Cond.code yX4_within cX4_within 3 (some .boolean), Cond.methodLink RX4 69 yJx4a65c_get_915e3, Cond.instanceMethod yJx4a65c_get_915e3, Cond.selects RJx4a65c yJx4a65c_get_915e3 yJx4a65c_get_915e3, Cond.code yJx4a65c_get_915e3 cJx4a65c_get_915e3 2 (some (.object "java/lang/Object")), Cond.methodLink RJx4a65c 118 yJ15_checkIndex_7cf53, Cond.static yJ15_checkIndex_7cf53]
def wsX4_at_r2 : List Cond := [Cond.initialized RJ15, Cond.code yJ15_checkIndex_7cf53 cJ15_checkIndex_7cf53 2 (some .int), Cond.methodLink RJ15 105 yJ3_checkIndex_8e157, Cond.static yJ3_checkIndex_8e157, Cond.initialized RJ3, Cond.code yJ3_checkIndex_8e157 cJ3_checkIndex_8e157 3 (some .int), Cond.methodLink RJx4a65c 123 yJx4a65c_elementData_915e3, Cond.instanceMethod yJx4a65c_elementData_915e3, Cond.selects RJx4a65c yJx4a65c_elementData_915e3 yJx4a65c_elementData_915e3, Cond.code yJx4a65c_elementData_915e3 cJx4a65c_elementData_915e3 2 (some (.object "java/lang/Object")), Cond.fieldLink RJx4a65c 9 "java/util/ArrayList" "elementData" "[Ljava/lang/Object;", Cond.methodLink RX4 109 yX0_placeIn, Cond.instanceMethod yX0_placeIn, Cond.selects RX0 yX0_placeIn yX0_placeIn, Cond.initialized RX0, Cond.code yX0_placeIn cX0_placeIn 2 (some .int), Cond.fieldLink RX0 9 "GhostInn$Ghost" "places" "[I"]
def wsX4_at : List Cond := .code yX4_at cX4_at 3 (some .int) :: ((wsX4_at_r1 ++ wsX4_at_r2) ++ wsX40 ++ wsJx4a65c0 ++ wsX00 ++ (vx_atS RX4 66 "java/lang/IndexOutOfBoundsException" ["java/lang/RuntimeException", "java/lang/Exception"]).filter goodWord)
def wsX4_hauntingInHour_r1 : List Cond := [Cond.fieldLink RX4 16 "GhostInn" "ghosts" "Ljava/util/ArrayList;", Cond.classLink RX4 93 "GhostInn$Ghost", Cond.fieldLink RX4 275 "GhostInn$Ghost" "fright" "I", Cond.methodLink RX4 40 yJx4a65c_size_8abf5, Cond.instanceMethod yJx4a65c_size_8abf5, Cond.selects RJx4a65c yJx4a65c_size_8abf5 yJx4a65c_size_8abf5, Cond.initialized RJx4a65c, Cond.code yJx4a65c_size_8abf5 cJx4a65c_size_8abf5 1 (some .int), Cond.fieldLink RJx4a65c 48 "java/util/ArrayList" "size" "I", Cond.methodLink RX4 69 yJx4a65c_get_915e3, Cond.instanceMethod yJx4a65c_get_915e3, Cond.selects RJx4a65c yJx4a65c_get_915e3 yJx4a65c_get_915e3, Cond.code yJx4a65c_get_915e3 cJx4a65c_get_915e3 2 (some (.object "java/lang/Object")), Cond.methodLink RJx4a65c 118 yJ15_checkIndex_7cf53, Cond.static yJ15_checkIndex_7cf53, Cond.initialized RJ15, Cond.code yJ15_checkIndex_7cf53 cJ15_checkIndex_7cf53 2 (some .int), Cond.methodLink RJ15 105 yJ3_checkIndex_8e157, Cond.static yJ3_checkIndex_8e157, Cond.initialized RJ3, Cond.code yJ3_checkIndex_8e157 cJ3_checkIndex_8e157 3 (some .int), Cond.methodLink RJx4a65c 123 yJx4a65c_elementData_915e3, Cond.instanceMethod yJx4a65c_elementData_915e3, Cond.selects RJx4a65c yJx4a65c_elementData_915e3 yJx4a65c_elementData_915e3]
def wsX4_hauntingInHour_r2 : List Cond := [Cond.code yJx4a65c_elementData_915e3 cJx4a65c_elementData_915e3 2 (some (.object "java/lang/Object")), Cond.fieldLink RJx4a65c 9 "java/util/ArrayList" "elementData" "[Ljava/lang/Object;", Cond.methodLink RX4 109 yX0_placeIn, Cond.instanceMethod yX0_placeIn, Cond.selects RX0 yX0_placeIn yX0_placeIn, Cond.initialized RX0, Cond.code yX0_placeIn cX0_placeIn 2 (some .int), Cond.fieldLink RX0 9 "GhostInn$Ghost" "places" "[I"]
def wsX4_hauntingInHour : List Cond := .code yX4_hauntingInHour cX4_hauntingInHour 7 (some .int) :: ((wsX4_hauntingInHour_r1 ++ wsX4_hauntingInHour_r2) ++ wsX40 ++ wsX00 ++ wsJx4a65c0)
def wsX4_hauntingOfNight_r1 : List Cond := [Cond.methodLink RX4 117 yX4_hauntingInHour, Cond.instanceMethod yX4_hauntingInHour, Cond.selects RX4 yX4_hauntingInHour yX4_hauntingInHour, Cond.initialized RX4, Cond.code yX4_hauntingInHour cX4_hauntingInHour 7 (some .int), Cond.fieldLink RX4 16 "GhostInn" "ghosts" "Ljava/util/ArrayList;", Cond.classLink RX4 93 "GhostInn$Ghost", Cond.fieldLink RX4 275 "GhostInn$Ghost" "fright" "I", Cond.methodLink RX4 40 yJx4a65c_size_8abf5, Cond.instanceMethod yJx4a65c_size_8abf5, Cond.selects RJx4a65c yJx4a65c_size_8abf5 yJx4a65c_size_8abf5, Cond.initialized RJx4a65c, Cond.code yJx4a65c_size_8abf5 cJx4a65c_size_8abf5 1 (some .int), Cond.fieldLink RJx4a65c 48 "java/util/ArrayList" "size" "I", Cond.methodLink RX4 69 yJx4a65c_get_915e3, Cond.instanceMethod yJx4a65c_get_915e3, Cond.selects RJx4a65c yJx4a65c_get_915e3 yJx4a65c_get_915e3, Cond.code yJx4a65c_get_915e3 cJx4a65c_get_915e3 2 (some (.object "java/lang/Object")), Cond.methodLink RJx4a65c 118 yJ15_checkIndex_7cf53, Cond.static yJ15_checkIndex_7cf53, Cond.initialized RJ15, Cond.code yJ15_checkIndex_7cf53 cJ15_checkIndex_7cf53 2 (some .int), Cond.methodLink RJ15 105 yJ3_checkIndex_8e157, Cond.static yJ3_checkIndex_8e157]
def wsX4_hauntingOfNight_r2 : List Cond := [Cond.initialized RJ3, Cond.code yJ3_checkIndex_8e157 cJ3_checkIndex_8e157 3 (some .int), Cond.methodLink RJx4a65c 123 yJx4a65c_elementData_915e3, Cond.instanceMethod yJx4a65c_elementData_915e3, Cond.selects RJx4a65c yJx4a65c_elementData_915e3 yJx4a65c_elementData_915e3, Cond.code yJx4a65c_elementData_915e3 cJx4a65c_elementData_915e3 2 (some (.object "java/lang/Object")), Cond.fieldLink RJx4a65c 9 "java/util/ArrayList" "elementData" "[Ljava/lang/Object;", Cond.methodLink RX4 109 yX0_placeIn, Cond.instanceMethod yX0_placeIn, Cond.selects RX0 yX0_placeIn yX0_placeIn, Cond.initialized RX0, Cond.code yX0_placeIn cX0_placeIn 2 (some .int), Cond.fieldLink RX0 9 "GhostInn$Ghost" "places" "[I"]
def wsX4_hauntingOfNight : List Cond := .code yX4_hauntingOfNight cX4_hauntingOfNight 5 (some .int) :: ((wsX4_hauntingOfNight_r1 ++ wsX4_hauntingOfNight_r2) ++ wsX40 ++ wsX00 ++ wsJx4a65c0)
def wsX4_haunting_r1 : List Cond := [Cond.classLink RX4 62 "java/lang/IndexOutOfBoundsException", Cond.initialized "java/lang/IndexOutOfBoundsException", Cond.methodLink RX4 58 yX4_isRoom, Cond.instanceMethod yX4_isRoom, Cond.selects RX4 yX4_isRoom yX4_isRoom, Cond.initialized RX4, Cond.code yX4_isRoom cX4_isRoom 2 (some .boolean), Cond.fieldLink RX4 10 "GhostInn" "rooms" "Ljava/util/ArrayList;", Cond.methodLink RX4 40 yJx4a65c_size_8abf5, Cond.instanceMethod yJx4a65c_size_8abf5, Cond.selects RJx4a65c yJx4a65c_size_8abf5 yJx4a65c_size_8abf5, Cond.initialized RJx4a65c, Cond.code yJx4a65c_size_8abf5 cJx4a65c_size_8abf5 1 (some .int), Cond.fieldLink RJx4a65c 48 "java/util/ArrayList" "size" "I", Cond.methodLink RX4 29 yX4_within, Cond.static yX4_within, Cond.code yX4_within cX4_within 3 (some .boolean), Cond.methodLink RX4 113 yX4_hauntingOfNight, Cond.instanceMethod yX4_hauntingOfNight, Cond.selects RX4 yX4_hauntingOfNight yX4_hauntingOfNight, Cond.code yX4_hauntingOfNight cX4_hauntingOfNight 5 (some .int), Cond.methodLink RX4 117 yX4_hauntingInHour, Cond.instanceMethod yX4_hauntingInHour, Cond.selects RX4 yX4_hauntingInHour yX4_hauntingInHour]
def wsX4_haunting_r2 : List Cond := [Cond.code yX4_hauntingInHour cX4_hauntingInHour 7 (some .int), Cond.fieldLink RX4 16 "GhostInn" "ghosts" "Ljava/util/ArrayList;", Cond.classLink RX4 93 "GhostInn$Ghost", Cond.fieldLink RX4 275 "GhostInn$Ghost" "fright" "I", Cond.methodLink RX4 69 yJx4a65c_get_915e3, Cond.instanceMethod yJx4a65c_get_915e3, Cond.selects RJx4a65c yJx4a65c_get_915e3 yJx4a65c_get_915e3, Cond.code yJx4a65c_get_915e3 cJx4a65c_get_915e3 2 (some (.object "java/lang/Object")), Cond.methodLink RJx4a65c 118 yJ15_checkIndex_7cf53, Cond.static yJ15_checkIndex_7cf53, Cond.initialized RJ15, Cond.code yJ15_checkIndex_7cf53 cJ15_checkIndex_7cf53 2 (some .int), Cond.methodLink RJ15 105 yJ3_checkIndex_8e157, Cond.static yJ3_checkIndex_8e157, Cond.initialized RJ3, Cond.code yJ3_checkIndex_8e157 cJ3_checkIndex_8e157 3 (some .int), Cond.methodLink RJx4a65c 123 yJx4a65c_elementData_915e3, Cond.instanceMethod yJx4a65c_elementData_915e3, Cond.selects RJx4a65c yJx4a65c_elementData_915e3 yJx4a65c_elementData_915e3, Cond.code yJx4a65c_elementData_915e3 cJx4a65c_elementData_915e3 2 (some (.object "java/lang/Object")), Cond.fieldLink RJx4a65c 9 "java/util/ArrayList" "elementData" "[Ljava/lang/Object;", Cond.methodLink RX4 109 yX0_placeIn, Cond.instanceMethod yX0_placeIn, Cond.selects RX0 yX0_placeIn yX0_placeIn]
def wsX4_haunting_r3 : List Cond := [Cond.initialized RX0, Cond.code yX0_placeIn cX0_placeIn 2 (some .int), Cond.fieldLink RX0 9 "GhostInn$Ghost" "places" "[I"]
def wsX4_haunting : List Cond := .code yX4_haunting cX4_haunting 3 (some .int) :: ((wsX4_haunting_r1 ++ (wsX4_haunting_r2 ++ wsX4_haunting_r3)) ++ wsX40 ++ wsJx4a65c0 ++ wsX00 ++ (vx_atS RX4 66 "java/lang/IndexOutOfBoundsException" ["java/lang/RuntimeException", "java/lang/Exception"]).filter goodWord)
def wsX4_room_r1 : List Cond := [Cond.classLink RX4 62 "java/lang/IndexOutOfBoundsException", Cond.initialized "java/lang/IndexOutOfBoundsException", Cond.fieldLink RX4 10 "GhostInn" "rooms" "Ljava/util/ArrayList;", Cond.classLink RX4 49 "GhostInn$Room", Cond.fieldLink RX4 121 "GhostInn$Room" "beds" "I", Cond.fieldLink RX4 124 "GhostInn$Room" "comfort" "I", Cond.fieldLink RX4 127 "GhostInn$Room" "least" "I", Cond.fieldLink RX4 133 "GhostInn$Room" "nightsLet" "I", Cond.fieldLink RX4 136 "GhostInn$Room" "earned" "I", Cond.methodLink RX4 58 yX4_isRoom, Cond.instanceMethod yX4_isRoom, Cond.selects RX4 yX4_isRoom yX4_isRoom, Cond.initialized RX4, Cond.code yX4_isRoom cX4_isRoom 2 (some .boolean), Cond.methodLink RX4 40 yJx4a65c_size_8abf5, Cond.instanceMethod yJx4a65c_size_8abf5, Cond.selects RJx4a65c yJx4a65c_size_8abf5 yJx4a65c_size_8abf5, Cond.initialized RJx4a65c, Cond.code yJx4a65c_size_8abf5 cJx4a65c_size_8abf5 1 (some .int), Cond.fieldLink RJx4a65c 48 "java/util/ArrayList" "size" "I", Cond.methodLink RX4 69 yJx4a65c_get_915e3, Cond.instanceMethod yJx4a65c_get_915e3, Cond.selects RJx4a65c yJx4a65c_get_915e3 yJx4a65c_get_915e3, Cond.code yJx4a65c_get_915e3 cJx4a65c_get_915e3 2 (some (.object "java/lang/Object"))]
def wsX4_room_r2 : List Cond := [Cond.methodLink RJx4a65c 118 yJ15_checkIndex_7cf53, Cond.static yJ15_checkIndex_7cf53, Cond.initialized RJ15, Cond.code yJ15_checkIndex_7cf53 cJ15_checkIndex_7cf53 2 (some .int), Cond.methodLink RJ15 105 yJ3_checkIndex_8e157, Cond.static yJ3_checkIndex_8e157, Cond.initialized RJ3, Cond.code yJ3_checkIndex_8e157 cJ3_checkIndex_8e157 3 (some .int), Cond.methodLink RJx4a65c 123 yJx4a65c_elementData_915e3, Cond.instanceMethod yJx4a65c_elementData_915e3, Cond.selects RJx4a65c yJx4a65c_elementData_915e3 yJx4a65c_elementData_915e3, Cond.code yJx4a65c_elementData_915e3 cJx4a65c_elementData_915e3 2 (some (.object "java/lang/Object")), Cond.fieldLink RJx4a65c 9 "java/util/ArrayList" "elementData" "[Ljava/lang/Object;", Cond.methodLink RX4 130 yX2_doorsThere, Cond.instanceMethod yX2_doorsThere, Cond.selects RX2 yX2_doorsThere yX2_doorsThere, Cond.initialized RX2, Cond.code yX2_doorsThere cX2_doorsThere 1 (some .int), Cond.fieldLink RX2 19 "GhostInn$Room" "doorBits" "I", Cond.methodLink RX2 22 yJ6_bitCount_0f7a4, Cond.static yJ6_bitCount_0f7a4, Cond.initialized RJ6, Cond.code yJ6_bitCount_0f7a4 cJ6_bitCount_0f7a4 1 (some .int), Cond.constant RJ6 265 (1431655765)]
def wsX4_room_r3 : List Cond := [Cond.constant RJ6 266 (858993459), Cond.constant RJ6 267 (252645135)]
def wsX4_room : List Cond := .code yX4_room cX4_room 4 (some .int) :: ((wsX4_room_r1 ++ (wsX4_room_r2 ++ wsX4_room_r3)) ++ wsX40 ++ wsX20 ++ wsJx4a65c0 ++ (vx_atS RX4 66 "java/lang/IndexOutOfBoundsException" ["java/lang/RuntimeException", "java/lang/Exception"]).filter goodWord)
def wsX4_come_r1 : List Cond := [Cond.classLink RX4 33 "java/lang/IllegalArgumentException", Cond.initialized "java/lang/IllegalArgumentException", Cond.classLink RX4 44 "java/lang/IllegalStateException", Cond.initialized "java/lang/IllegalStateException", Cond.fieldLink RX4 19 "GhostInn" "guests" "Ljava/util/ArrayList;", Cond.classLink RX4 145 RX1, Cond.instantiable RX1 7, Cond.initialized RX1, Cond.methodLink RX4 29 yX4_within, Cond.static yX4_within, Cond.initialized RX4, Cond.code yX4_within cX4_within 3 (some .boolean), Cond.methodLink RX4 40 yJx4a65c_size_8abf5, Cond.instanceMethod yJx4a65c_size_8abf5, Cond.selects RJx4a65c yJx4a65c_size_8abf5 yJx4a65c_size_8abf5, Cond.initialized RJx4a65c, Cond.code yJx4a65c_size_8abf5 cJx4a65c_size_8abf5 1 (some .int), Cond.fieldLink RJx4a65c 48 "java/util/ArrayList" "size" "I", Cond.methodLink RX4 147 yX1_init, Cond.instanceMethod yX1_init, Cond.code yX1_init cX1_init 4 none, Cond.methodLink RX1 3 objectInit, Cond.instanceMethod objectInit, Cond.code objectInit ⟨#[0xb1]⟩ 1 none]
def wsX4_come_r2 : List Cond := [Cond.fieldLink RX1 9 "GhostInn$Guest" "bidRoom" "I", Cond.fieldLink RX1 15 "GhostInn$Guest" "coins" "I", Cond.fieldLink RX1 18 "GhostInn$Guest" "beds" "I", Cond.fieldLink RX1 21 "GhostInn$Guest" "nerve" "I", Cond.methodLink RX4 54 yJx4a65c_add_9ea2d, Cond.instanceMethod yJx4a65c_add_9ea2d, Cond.selects RJx4a65c yJx4a65c_add_9ea2d yJx4a65c_add_9ea2d, Cond.code yJx4a65c_add_9ea2d cJx4a65c_add_9ea2d 2 (some .boolean), Cond.fieldLink RJx4a65c 63 "java/util/ArrayList" "modCount" "I", Cond.sameField "java/util/ArrayList" "java/util/AbstractList" "modCount" "I", Cond.fieldLink RJx4a65c 9 "java/util/ArrayList" "elementData" "[Ljava/lang/Object;", Cond.methodLink RJx4a65c 131 yJx4a65c_add_72be8, Cond.instanceMethod yJx4a65c_add_72be8, Cond.selects RJx4a65c yJx4a65c_add_72be8 yJx4a65c_add_72be8, Cond.code yJx4a65c_add_72be8 cJx4a65c_add_72be8 4 none, Cond.methodLink RJx4a65c 129 yJx4a65c_grow_d5877, Cond.instanceMethod yJx4a65c_grow_d5877, Cond.selects RJx4a65c yJx4a65c_grow_d5877 yJx4a65c_grow_d5877, Cond.code yJx4a65c_grow_d5877 cJx4a65c_grow_d5877 1 (some (.array (.object "java/lang/Object"))), Cond.methodLink RJx4a65c 69 yJx4a65c_grow_92f84, Cond.instanceMethod yJx4a65c_grow_92f84, Cond.selects RJx4a65c yJx4a65c_grow_92f84 yJx4a65c_grow_92f84, Cond.code yJx4a65c_grow_92f84 cJx4a65c_grow_92f84 4 (some (.array (.object "java/lang/Object"))), Cond.fieldLink RJx4a65c 39 "java/util/ArrayList" "DEFAULTCAPACITY_EMPTY_ELEMENTDATA" "[Ljava/lang/Object;"]
def wsX4_come_r3 : List Cond := [Cond.methodLink RJx4a65c 79 Lib.Math.max.name, Cond.static Lib.Math.max.name, Cond.initialized "java/lang/Math", Cond.code Lib.Math.max.name Lib.Math.max.code 2 (some .int), Cond.classLink RJx4a65c 7 "java/lang/Object", Cond.methodLink RJx4a65c 73 yJ8_newLength_cabcc, Cond.static yJ8_newLength_cabcc, Cond.initialized RJ8, Cond.code yJ8_newLength_cabcc cJ8_newLength_cabcc 4 (some .int), Cond.methodLink RJ8 194 Lib.Math.max.name, Cond.constant RJ8 200 (2147483639), Cond.methodLink RJ8 201 yJ8_hugeLength_7cf53, Cond.static yJ8_hugeLength_7cf53, Cond.code yJ8_hugeLength_7cf53 cJ8_hugeLength_7cf53 3 (some .int), Cond.methodLink RJx4a65c 66 yJ7_copyOf_1904c, Cond.static yJ7_copyOf_1904c, Cond.initialized RJ7, Cond.code yJ7_copyOf_1904c cJ7_copyOf_1904c 2 (some (.array (.object "java/lang/Object"))), Cond.methodLink RJ7 86 ⟨"java/lang/Object", "getClass", "()Ljava/lang/Class;"⟩, Cond.selects "[Ljava/lang/Object;" ⟨"java/lang/Object", "getClass", "()Ljava/lang/Class;"⟩ ⟨"java/lang/Object", "getClass", "()Ljava/lang/Class;"⟩, Cond.instanceMethod ⟨"java/lang/Object", "getClass", "()Ljava/lang/Class;"⟩, Cond.native ⟨"java/lang/Object", "getClass", "()Ljava/lang/Class;"⟩, Cond.methodLink RJ7 300 yJ7_copyOf_6403c, Cond.static yJ7_copyOf_6403c]
def wsX4_come_r4 : List Cond := [Cond.code yJ7_copyOf_6403c cJ7_copyOf_6403c 4 (some (.array (.object "java/lang/Object"))), Cond.classLink RJ7 110 "[Ljava/lang/Object;", Cond.classLink RJ7 2 "java/lang/Object", Cond.methodLink RJ7 304 Lib.Math.min.name, Cond.static Lib.Math.min.name, Cond.code Lib.Math.min.name Lib.Math.min.code 2 (some .int), Cond.methodLink RJ7 150 arraycopyName, Cond.native arraycopyName, Cond.static arraycopyName, Cond.initialized "java/lang/System"]
def wsX4_come : List Cond := .code yX4_come cX4_come 4 (some .int) :: ((wsX4_come_r1 ++ (wsX4_come_r2 ++ (wsX4_come_r3 ++ wsX4_come_r4))) ++ wsX40 ++ wsX10 ++ wsJx4a65c0 ++ (vx_atS RX4 37 "java/lang/IllegalArgumentException" ["java/lang/RuntimeException", "java/lang/Exception"]).filter goodWord ++ (vx_atS RX4 48 "java/lang/IllegalStateException" ["java/lang/RuntimeException", "java/lang/Exception"]).filter goodWord)
def wsX4_isGuest : List Cond := .code yX4_isGuest cX4_isGuest 2 (some .boolean) :: ([.fieldLink RX4 19 "GhostInn" "guests" "Ljava/util/ArrayList;", .methodLink RX4 40 yJx4a65c_size_8abf5, .instanceMethod yJx4a65c_size_8abf5, .selects RJx4a65c yJx4a65c_size_8abf5 yJx4a65c_size_8abf5, .initialized RJx4a65c, .code yJx4a65c_size_8abf5 cJx4a65c_size_8abf5 1 (some .int), .fieldLink RJx4a65c 48 "java/util/ArrayList" "size" "I"] ++ wsX40 ++ wsJx4a65c0)
def wsX4_bid_r1 : List Cond := [Cond.classLink RX4 62 "java/lang/IndexOutOfBoundsException", Cond.initialized "java/lang/IndexOutOfBoundsException", Cond.classLink RX4 33 "java/lang/IllegalArgumentException", Cond.initialized "java/lang/IllegalArgumentException", Cond.fieldLink RX4 19 "GhostInn" "guests" "Ljava/util/ArrayList;", Cond.classLink RX4 145 "GhostInn$Guest", Cond.fieldLink RX4 10 "GhostInn" "rooms" "Ljava/util/ArrayList;", Cond.classLink RX4 49 "GhostInn$Room", Cond.methodLink RX4 148 yX4_isGuest, Cond.instanceMethod yX4_isGuest, Cond.selects RX4 yX4_isGuest yX4_isGuest, Cond.initialized RX4, Cond.code yX4_isGuest cX4_isGuest 2 (some .boolean), Cond.methodLink RX4 40 yJx4a65c_size_8abf5, Cond.instanceMethod yJx4a65c_size_8abf5, Cond.selects RJx4a65c yJx4a65c_size_8abf5 yJx4a65c_size_8abf5, Cond.initialized RJx4a65c, Cond.code yJx4a65c_size_8abf5 cJx4a65c_size_8abf5 1 (some .int), Cond.fieldLink RJx4a65c 48 "java/util/ArrayList" "size" "I", Cond.methodLink RX4 58 yX4_isRoom, Cond.instanceMethod yX4_isRoom, Cond.selects RX4 yX4_isRoom yX4_isRoom, Cond.code yX4_isRoom cX4_isRoom 2 (some .boolean), Cond.methodLink RX4 29 yX4_within]
def wsX4_bid_r2 : List Cond := [Cond.static yX4_within, Cond.code yX4_within cX4_within 3 (some .boolean), Cond.methodLink RX4 69 yJx4a65c_get_915e3, Cond.instanceMethod yJx4a65c_get_915e3, Cond.selects RJx4a65c yJx4a65c_get_915e3 yJx4a65c_get_915e3, Cond.code yJx4a65c_get_915e3 cJx4a65c_get_915e3 2 (some (.object "java/lang/Object")), Cond.methodLink RJx4a65c 118 yJ15_checkIndex_7cf53, Cond.static yJ15_checkIndex_7cf53, Cond.initialized RJ15, Cond.code yJ15_checkIndex_7cf53 cJ15_checkIndex_7cf53 2 (some .int), Cond.methodLink RJ15 105 yJ3_checkIndex_8e157, Cond.static yJ3_checkIndex_8e157, Cond.initialized RJ3, Cond.code yJ3_checkIndex_8e157 cJ3_checkIndex_8e157 3 (some .int), Cond.methodLink RJx4a65c 123 yJx4a65c_elementData_915e3, Cond.instanceMethod yJx4a65c_elementData_915e3, Cond.selects RJx4a65c yJx4a65c_elementData_915e3 yJx4a65c_elementData_915e3, Cond.code yJx4a65c_elementData_915e3 cJx4a65c_elementData_915e3 2 (some (.object "java/lang/Object")), Cond.fieldLink RJx4a65c 9 "java/util/ArrayList" "elementData" "[Ljava/lang/Object;", Cond.methodLink RX4 155 yX1_writeBid, Cond.instanceMethod yX1_writeBid, Cond.selects RX1 yX1_writeBid yX1_writeBid, Cond.initialized RX1, Cond.code yX1_writeBid cX1_writeBid 3 none]
def wsX4_bid_r3 : List Cond := [Cond.fieldLink RX1 9 "GhostInn$Guest" "bidRoom" "I", Cond.fieldLink RX1 24 "GhostInn$Guest" "bidPrice" "I", Cond.methodLink RX4 159 yX1_couldBidFor, Cond.instanceMethod yX1_couldBidFor, Cond.selects RX1 yX1_couldBidFor yX1_couldBidFor, Cond.code yX1_couldBidFor cX1_couldBidFor 2 (some .boolean), Cond.fieldLink RX1 15 "GhostInn$Guest" "coins" "I", Cond.fieldLink RX1 27 "GhostInn$Room" "beds" "I", Cond.fieldLink RX1 18 "GhostInn$Guest" "beds" "I", Cond.fieldLink RX1 30 "GhostInn$Room" "least" "I"]
def wsX4_bid : List Cond := .code yX4_bid cX4_bid 5 (some .boolean) :: ((wsX4_bid_r1 ++ (wsX4_bid_r2 ++ wsX4_bid_r3)) ++ wsX40 ++ wsJx4a65c0 ++ wsX10 ++ wsX20 ++ (vx_atS RX4 66 "java/lang/IndexOutOfBoundsException" ["java/lang/RuntimeException", "java/lang/Exception"]).filter goodWord ++ (vx_atS RX4 37 "java/lang/IllegalArgumentException" ["java/lang/RuntimeException", "java/lang/Exception"]).filter goodWord)
def wsX4_leave_r1 : List Cond := [Cond.classLink RX4 62 "java/lang/IndexOutOfBoundsException", Cond.initialized "java/lang/IndexOutOfBoundsException", Cond.fieldLink RX4 19 "GhostInn" "guests" "Ljava/util/ArrayList;", Cond.classLink RX4 145 "GhostInn$Guest", Cond.fieldLink RX4 163 "GhostInn$Guest" "bidRoom" "I", Cond.methodLink RX4 148 yX4_isGuest, Cond.instanceMethod yX4_isGuest, Cond.selects RX4 yX4_isGuest yX4_isGuest, Cond.initialized RX4, Cond.code yX4_isGuest cX4_isGuest 2 (some .boolean), Cond.methodLink RX4 40 yJx4a65c_size_8abf5, Cond.instanceMethod yJx4a65c_size_8abf5, Cond.selects RJx4a65c yJx4a65c_size_8abf5 yJx4a65c_size_8abf5, Cond.initialized RJx4a65c, Cond.code yJx4a65c_size_8abf5 cJx4a65c_size_8abf5 1 (some .int), Cond.fieldLink RJx4a65c 48 "java/util/ArrayList" "size" "I", Cond.methodLink RX4 69 yJx4a65c_get_915e3, Cond.instanceMethod yJx4a65c_get_915e3, Cond.selects RJx4a65c yJx4a65c_get_915e3 yJx4a65c_get_915e3, Cond.code yJx4a65c_get_915e3 cJx4a65c_get_915e3 2 (some (.object "java/lang/Object")), Cond.methodLink RJx4a65c 118 yJ15_checkIndex_7cf53, Cond.static yJ15_checkIndex_7cf53, Cond.initialized RJ15, Cond.code yJ15_checkIndex_7cf53 cJ15_checkIndex_7cf53 2 (some .int)]
def wsX4_leave_r2 : List Cond := [Cond.methodLink RJ15 105 yJ3_checkIndex_8e157, Cond.static yJ3_checkIndex_8e157, Cond.initialized RJ3, Cond.code yJ3_checkIndex_8e157 cJ3_checkIndex_8e157 3 (some .int), Cond.methodLink RJx4a65c 123 yJx4a65c_elementData_915e3, Cond.instanceMethod yJx4a65c_elementData_915e3, Cond.selects RJx4a65c yJx4a65c_elementData_915e3 yJx4a65c_elementData_915e3, Cond.code yJx4a65c_elementData_915e3 cJx4a65c_elementData_915e3 2 (some (.object "java/lang/Object")), Cond.fieldLink RJx4a65c 9 "java/util/ArrayList" "elementData" "[Ljava/lang/Object;", Cond.methodLink RX4 166 yX1_dropBid, Cond.instanceMethod yX1_dropBid, Cond.selects RX1 yX1_dropBid yX1_dropBid, Cond.initialized RX1, Cond.code yX1_dropBid cX1_dropBid 1 none, Cond.fieldLink RX1 9 "GhostInn$Guest" "bidRoom" "I", Cond.fieldLink RX1 24 "GhostInn$Guest" "bidPrice" "I"]
def wsX4_leave : List Cond := .code yX4_leave cX4_leave 4 (some .int) :: ((wsX4_leave_r1 ++ wsX4_leave_r2) ++ wsX40 ++ wsX10 ++ wsJx4a65c0 ++ (vx_atS RX4 66 "java/lang/IndexOutOfBoundsException" ["java/lang/RuntimeException", "java/lang/Exception"]).filter goodWord)
def wsX4_guest_r1 : List Cond := [Cond.classLink RX4 62 "java/lang/IndexOutOfBoundsException", Cond.initialized "java/lang/IndexOutOfBoundsException", Cond.fieldLink RX4 19 "GhostInn" "guests" "Ljava/util/ArrayList;", Cond.classLink RX4 145 "GhostInn$Guest", Cond.fieldLink RX4 169 "GhostInn$Guest" "coins" "I", Cond.fieldLink RX4 172 "GhostInn$Guest" "beds" "I", Cond.fieldLink RX4 173 "GhostInn$Guest" "nerve" "I", Cond.fieldLink RX4 163 "GhostInn$Guest" "bidRoom" "I", Cond.fieldLink RX4 176 "GhostInn$Guest" "bidPrice" "I", Cond.fieldLink RX4 179 "GhostInn$Guest" "nightsStayed" "I", Cond.fieldLink RX4 182 "GhostInn$Guest" "nightsUpset" "I", Cond.methodLink RX4 148 yX4_isGuest, Cond.instanceMethod yX4_isGuest, Cond.selects RX4 yX4_isGuest yX4_isGuest, Cond.initialized RX4, Cond.code yX4_isGuest cX4_isGuest 2 (some .boolean), Cond.methodLink RX4 40 yJx4a65c_size_8abf5, Cond.instanceMethod yJx4a65c_size_8abf5, Cond.selects RJx4a65c yJx4a65c_size_8abf5 yJx4a65c_size_8abf5, Cond.initialized RJx4a65c, Cond.code yJx4a65c_size_8abf5 cJx4a65c_size_8abf5 1 (some .int), Cond.fieldLink RJx4a65c 48 "java/util/ArrayList" "size" "I", Cond.methodLink RX4 69 yJx4a65c_get_915e3, Cond.instanceMethod yJx4a65c_get_915e3]
def wsX4_guest_r2 : List Cond := [Cond.selects RJx4a65c yJx4a65c_get_915e3 yJx4a65c_get_915e3, Cond.code yJx4a65c_get_915e3 cJx4a65c_get_915e3 2 (some (.object "java/lang/Object")), Cond.methodLink RJx4a65c 118 yJ15_checkIndex_7cf53, Cond.static yJ15_checkIndex_7cf53, Cond.initialized RJ15, Cond.code yJ15_checkIndex_7cf53 cJ15_checkIndex_7cf53 2 (some .int), Cond.methodLink RJ15 105 yJ3_checkIndex_8e157, Cond.static yJ3_checkIndex_8e157, Cond.initialized RJ3, Cond.code yJ3_checkIndex_8e157 cJ3_checkIndex_8e157 3 (some .int), Cond.methodLink RJx4a65c 123 yJx4a65c_elementData_915e3, Cond.instanceMethod yJx4a65c_elementData_915e3, Cond.selects RJx4a65c yJx4a65c_elementData_915e3 yJx4a65c_elementData_915e3, Cond.code yJx4a65c_elementData_915e3 cJx4a65c_elementData_915e3 2 (some (.object "java/lang/Object")), Cond.fieldLink RJx4a65c 9 "java/util/ArrayList" "elementData" "[Ljava/lang/Object;"]
def wsX4_guest : List Cond := .code yX4_guest cX4_guest 4 (some .int) :: ((wsX4_guest_r1 ++ wsX4_guest_r2) ++ wsX40 ++ wsX10 ++ wsJx4a65c0 ++ (vx_atS RX4 66 "java/lang/IndexOutOfBoundsException" ["java/lang/RuntimeException", "java/lang/Exception"]).filter goodWord)
def wsX4_countsFor_r1 : List Cond := [Cond.fieldLink RX4 163 "GhostInn$Guest" "bidRoom" "I", Cond.fieldLink RX4 10 "GhostInn" "rooms" "Ljava/util/ArrayList;", Cond.classLink RX4 49 "GhostInn$Room", Cond.methodLink RX4 58 yX4_isRoom, Cond.instanceMethod yX4_isRoom, Cond.selects RX4 yX4_isRoom yX4_isRoom, Cond.initialized RX4, Cond.code yX4_isRoom cX4_isRoom 2 (some .boolean), Cond.methodLink RX4 40 yJx4a65c_size_8abf5, Cond.instanceMethod yJx4a65c_size_8abf5, Cond.selects RJx4a65c yJx4a65c_size_8abf5 yJx4a65c_size_8abf5, Cond.initialized RJx4a65c, Cond.code yJx4a65c_size_8abf5 cJx4a65c_size_8abf5 1 (some .int), Cond.fieldLink RJx4a65c 48 "java/util/ArrayList" "size" "I", Cond.methodLink RX4 69 yJx4a65c_get_915e3, Cond.instanceMethod yJx4a65c_get_915e3, Cond.selects RJx4a65c yJx4a65c_get_915e3 yJx4a65c_get_915e3, Cond.code yJx4a65c_get_915e3 cJx4a65c_get_915e3 2 (some (.object "java/lang/Object")), Cond.methodLink RJx4a65c 118 yJ15_checkIndex_7cf53, Cond.static yJ15_checkIndex_7cf53, Cond.initialized RJ15, Cond.code yJ15_checkIndex_7cf53 cJ15_checkIndex_7cf53 2 (some .int), Cond.methodLink RJ15 105 yJ3_checkIndex_8e157, Cond.static yJ3_checkIndex_8e157]
def wsX4_countsFor_r2 : List Cond := [Cond.initialized RJ3, Cond.code yJ3_checkIndex_8e157 cJ3_checkIndex_8e157 3 (some .int), Cond.methodLink RJx4a65c 123 yJx4a65c_elementData_915e3, Cond.instanceMethod yJx4a65c_elementData_915e3, Cond.selects RJx4a65c yJx4a65c_elementData_915e3 yJx4a65c_elementData_915e3, Cond.code yJx4a65c_elementData_915e3 cJx4a65c_elementData_915e3 2 (some (.object "java/lang/Object")), Cond.fieldLink RJx4a65c 9 "java/util/ArrayList" "elementData" "[Ljava/lang/Object;", Cond.methodLink RX4 159 yX1_couldBidFor, Cond.instanceMethod yX1_couldBidFor, Cond.selects RX1 yX1_couldBidFor yX1_couldBidFor, Cond.initialized RX1, Cond.code yX1_couldBidFor cX1_couldBidFor 2 (some .boolean), Cond.fieldLink RX1 15 "GhostInn$Guest" "coins" "I", Cond.fieldLink RX1 24 "GhostInn$Guest" "bidPrice" "I", Cond.fieldLink RX1 27 "GhostInn$Room" "beds" "I", Cond.fieldLink RX1 18 "GhostInn$Guest" "beds" "I", Cond.fieldLink RX1 30 "GhostInn$Room" "least" "I"]
def wsX4_countsFor : List Cond := .code yX4_countsFor cX4_countsFor 3 (some .boolean) :: ((wsX4_countsFor_r1 ++ wsX4_countsFor_r2) ++ wsX10 ++ wsX40 ++ wsJx4a65c0 ++ wsX20)
def wsX4_winnerOf_r1 : List Cond := [Cond.fieldLink RX4 19 "GhostInn" "guests" "Ljava/util/ArrayList;", Cond.classLink RX4 145 "GhostInn$Guest", Cond.fieldLink RX4 176 "GhostInn$Guest" "bidPrice" "I", Cond.methodLink RX4 40 yJx4a65c_size_8abf5, Cond.instanceMethod yJx4a65c_size_8abf5, Cond.selects RJx4a65c yJx4a65c_size_8abf5 yJx4a65c_size_8abf5, Cond.initialized RJx4a65c, Cond.code yJx4a65c_size_8abf5 cJx4a65c_size_8abf5 1 (some .int), Cond.fieldLink RJx4a65c 48 "java/util/ArrayList" "size" "I", Cond.methodLink RX4 69 yJx4a65c_get_915e3, Cond.instanceMethod yJx4a65c_get_915e3, Cond.selects RJx4a65c yJx4a65c_get_915e3 yJx4a65c_get_915e3, Cond.code yJx4a65c_get_915e3 cJx4a65c_get_915e3 2 (some (.object "java/lang/Object")), Cond.methodLink RJx4a65c 118 yJ15_checkIndex_7cf53, Cond.static yJ15_checkIndex_7cf53, Cond.initialized RJ15, Cond.code yJ15_checkIndex_7cf53 cJ15_checkIndex_7cf53 2 (some .int), Cond.methodLink RJ15 105 yJ3_checkIndex_8e157, Cond.static yJ3_checkIndex_8e157, Cond.initialized RJ3, Cond.code yJ3_checkIndex_8e157 cJ3_checkIndex_8e157 3 (some .int), Cond.methodLink RJx4a65c 123 yJx4a65c_elementData_915e3, Cond.instanceMethod yJx4a65c_elementData_915e3, Cond.selects RJx4a65c yJx4a65c_elementData_915e3 yJx4a65c_elementData_915e3]
def wsX4_winnerOf_r2 : List Cond := [Cond.code yJx4a65c_elementData_915e3 cJx4a65c_elementData_915e3 2 (some (.object "java/lang/Object")), Cond.fieldLink RJx4a65c 9 "java/util/ArrayList" "elementData" "[Ljava/lang/Object;", Cond.methodLink RX4 278 yX4_countsFor, Cond.instanceMethod yX4_countsFor, Cond.selects RX4 yX4_countsFor yX4_countsFor, Cond.initialized RX4, Cond.code yX4_countsFor cX4_countsFor 3 (some .boolean), Cond.fieldLink RX4 163 "GhostInn$Guest" "bidRoom" "I", Cond.fieldLink RX4 10 "GhostInn" "rooms" "Ljava/util/ArrayList;", Cond.classLink RX4 49 "GhostInn$Room", Cond.methodLink RX4 58 yX4_isRoom, Cond.instanceMethod yX4_isRoom, Cond.selects RX4 yX4_isRoom yX4_isRoom, Cond.code yX4_isRoom cX4_isRoom 2 (some .boolean), Cond.methodLink RX4 159 yX1_couldBidFor, Cond.instanceMethod yX1_couldBidFor, Cond.selects RX1 yX1_couldBidFor yX1_couldBidFor, Cond.initialized RX1, Cond.code yX1_couldBidFor cX1_couldBidFor 2 (some .boolean), Cond.fieldLink RX1 15 "GhostInn$Guest" "coins" "I", Cond.fieldLink RX1 24 "GhostInn$Guest" "bidPrice" "I", Cond.fieldLink RX1 27 "GhostInn$Room" "beds" "I", Cond.fieldLink RX1 18 "GhostInn$Guest" "beds" "I", Cond.fieldLink RX1 30 "GhostInn$Room" "least" "I"]
def wsX4_winnerOf : List Cond := .code yX4_winnerOf cX4_winnerOf 6 (some .int) :: ((wsX4_winnerOf_r1 ++ wsX4_winnerOf_r2) ++ wsX40 ++ wsX10 ++ wsJx4a65c0 ++ wsX20)
def wsX4_dueFor_r1 : List Cond := [Cond.fieldLink RX4 10 "GhostInn" "rooms" "Ljava/util/ArrayList;", Cond.classLink RX4 49 "GhostInn$Room", Cond.fieldLink RX4 127 "GhostInn$Room" "least" "I", Cond.fieldLink RX4 19 "GhostInn" "guests" "Ljava/util/ArrayList;", Cond.classLink RX4 145 "GhostInn$Guest", Cond.fieldLink RX4 176 "GhostInn$Guest" "bidPrice" "I", Cond.methodLink RX4 282 Lib.Math.max.name, Cond.static Lib.Math.max.name, Cond.initialized "java/lang/Math", Cond.code Lib.Math.max.name Lib.Math.max.code 2 (some .int), Cond.methodLink RX4 58 yX4_isRoom, Cond.instanceMethod yX4_isRoom, Cond.selects RX4 yX4_isRoom yX4_isRoom, Cond.initialized RX4, Cond.code yX4_isRoom cX4_isRoom 2 (some .boolean), Cond.methodLink RX4 40 yJx4a65c_size_8abf5, Cond.instanceMethod yJx4a65c_size_8abf5, Cond.selects RJx4a65c yJx4a65c_size_8abf5 yJx4a65c_size_8abf5, Cond.initialized RJx4a65c, Cond.code yJx4a65c_size_8abf5 cJx4a65c_size_8abf5 1 (some .int), Cond.fieldLink RJx4a65c 48 "java/util/ArrayList" "size" "I", Cond.methodLink RX4 69 yJx4a65c_get_915e3, Cond.instanceMethod yJx4a65c_get_915e3, Cond.selects RJx4a65c yJx4a65c_get_915e3 yJx4a65c_get_915e3]
def wsX4_dueFor_r2 : List Cond := [Cond.code yJx4a65c_get_915e3 cJx4a65c_get_915e3 2 (some (.object "java/lang/Object")), Cond.methodLink RJx4a65c 118 yJ15_checkIndex_7cf53, Cond.static yJ15_checkIndex_7cf53, Cond.initialized RJ15, Cond.code yJ15_checkIndex_7cf53 cJ15_checkIndex_7cf53 2 (some .int), Cond.methodLink RJ15 105 yJ3_checkIndex_8e157, Cond.static yJ3_checkIndex_8e157, Cond.initialized RJ3, Cond.code yJ3_checkIndex_8e157 cJ3_checkIndex_8e157 3 (some .int), Cond.methodLink RJx4a65c 123 yJx4a65c_elementData_915e3, Cond.instanceMethod yJx4a65c_elementData_915e3, Cond.selects RJx4a65c yJx4a65c_elementData_915e3 yJx4a65c_elementData_915e3, Cond.code yJx4a65c_elementData_915e3 cJx4a65c_elementData_915e3 2 (some (.object "java/lang/Object")), Cond.fieldLink RJx4a65c 9 "java/util/ArrayList" "elementData" "[Ljava/lang/Object;", Cond.methodLink RX4 278 yX4_countsFor, Cond.instanceMethod yX4_countsFor, Cond.selects RX4 yX4_countsFor yX4_countsFor, Cond.code yX4_countsFor cX4_countsFor 3 (some .boolean), Cond.fieldLink RX4 163 "GhostInn$Guest" "bidRoom" "I", Cond.methodLink RX4 159 yX1_couldBidFor, Cond.instanceMethod yX1_couldBidFor, Cond.selects RX1 yX1_couldBidFor yX1_couldBidFor, Cond.initialized RX1, Cond.code yX1_couldBidFor cX1_couldBidFor 2 (some .boolean)]
def wsX4_dueFor_r3 : List Cond := [Cond.fieldLink RX1 15 "GhostInn$Guest" "coins" "I", Cond.fieldLink RX1 24 "GhostInn$Guest" "bidPrice" "I", Cond.fieldLink RX1 27 "GhostInn$Room" "beds" "I", Cond.fieldLink RX1 18 "GhostInn$Guest" "beds" "I", Cond.fieldLink RX1 30 "GhostInn$Room" "least" "I"]
def wsX4_dueFor : List Cond := .code yX4_dueFor cX4_dueFor 6 (some .int) :: ((wsX4_dueFor_r1 ++ (wsX4_dueFor_r2 ++ wsX4_dueFor_r3)) ++ wsX40 ++ wsX20 ++ wsX10 ++ wsJx4a65c0)
def wsX4_bidsThatCount_r1 : List Cond := [Cond.fieldLink RX4 19 "GhostInn" "guests" "Ljava/util/ArrayList;", Cond.classLink RX4 145 "GhostInn$Guest", Cond.methodLink RX4 40 yJx4a65c_size_8abf5, Cond.instanceMethod yJx4a65c_size_8abf5, Cond.selects RJx4a65c yJx4a65c_size_8abf5 yJx4a65c_size_8abf5, Cond.initialized RJx4a65c, Cond.code yJx4a65c_size_8abf5 cJx4a65c_size_8abf5 1 (some .int), Cond.fieldLink RJx4a65c 48 "java/util/ArrayList" "size" "I", Cond.methodLink RX4 69 yJx4a65c_get_915e3, Cond.instanceMethod yJx4a65c_get_915e3, Cond.selects RJx4a65c yJx4a65c_get_915e3 yJx4a65c_get_915e3, Cond.code yJx4a65c_get_915e3 cJx4a65c_get_915e3 2 (some (.object "java/lang/Object")), Cond.methodLink RJx4a65c 118 yJ15_checkIndex_7cf53, Cond.static yJ15_checkIndex_7cf53, Cond.initialized RJ15, Cond.code yJ15_checkIndex_7cf53 cJ15_checkIndex_7cf53 2 (some .int), Cond.methodLink RJ15 105 yJ3_checkIndex_8e157, Cond.static yJ3_checkIndex_8e157, Cond.initialized RJ3, Cond.code yJ3_checkIndex_8e157 cJ3_checkIndex_8e157 3 (some .int), Cond.methodLink RJx4a65c 123 yJx4a65c_elementData_915e3, Cond.instanceMethod yJx4a65c_elementData_915e3, Cond.selects RJx4a65c yJx4a65c_elementData_915e3 yJx4a65c_elementData_915e3, Cond.code yJx4a65c_elementData_915e3 cJx4a65c_elementData_915e3 2 (some (.object "java/lang/Object"))]
def wsX4_bidsThatCount_r2 : List Cond := [Cond.fieldLink RJx4a65c 9 "java/util/ArrayList" "elementData" "[Ljava/lang/Object;", Cond.methodLink RX4 278 yX4_countsFor, Cond.instanceMethod yX4_countsFor, Cond.selects RX4 yX4_countsFor yX4_countsFor, Cond.initialized RX4, Cond.code yX4_countsFor cX4_countsFor 3 (some .boolean), Cond.fieldLink RX4 163 "GhostInn$Guest" "bidRoom" "I", Cond.fieldLink RX4 10 "GhostInn" "rooms" "Ljava/util/ArrayList;", Cond.classLink RX4 49 "GhostInn$Room", Cond.methodLink RX4 58 yX4_isRoom, Cond.instanceMethod yX4_isRoom, Cond.selects RX4 yX4_isRoom yX4_isRoom, Cond.code yX4_isRoom cX4_isRoom 2 (some .boolean), Cond.methodLink RX4 159 yX1_couldBidFor, Cond.instanceMethod yX1_couldBidFor, Cond.selects RX1 yX1_couldBidFor yX1_couldBidFor, Cond.initialized RX1, Cond.code yX1_couldBidFor cX1_couldBidFor 2 (some .boolean), Cond.fieldLink RX1 15 "GhostInn$Guest" "coins" "I", Cond.fieldLink RX1 24 "GhostInn$Guest" "bidPrice" "I", Cond.fieldLink RX1 27 "GhostInn$Room" "beds" "I", Cond.fieldLink RX1 18 "GhostInn$Guest" "beds" "I", Cond.fieldLink RX1 30 "GhostInn$Room" "least" "I"]
def wsX4_bidsThatCount : List Cond := .code yX4_bidsThatCount cX4_bidsThatCount 4 (some .int) :: ((wsX4_bidsThatCount_r1 ++ wsX4_bidsThatCount_r2) ++ wsX40 ++ wsJx4a65c0 ++ wsX10 ++ wsX20)
def wsX4_wins_r1 : List Cond := [Cond.classLink RX4 62 "java/lang/IndexOutOfBoundsException", Cond.initialized "java/lang/IndexOutOfBoundsException", Cond.methodLink RX4 58 yX4_isRoom, Cond.instanceMethod yX4_isRoom, Cond.selects RX4 yX4_isRoom yX4_isRoom, Cond.initialized RX4, Cond.code yX4_isRoom cX4_isRoom 2 (some .boolean), Cond.fieldLink RX4 10 "GhostInn" "rooms" "Ljava/util/ArrayList;", Cond.methodLink RX4 40 yJx4a65c_size_8abf5, Cond.instanceMethod yJx4a65c_size_8abf5, Cond.selects RJx4a65c yJx4a65c_size_8abf5 yJx4a65c_size_8abf5, Cond.initialized RJx4a65c, Cond.code yJx4a65c_size_8abf5 cJx4a65c_size_8abf5 1 (some .int), Cond.fieldLink RJx4a65c 48 "java/util/ArrayList" "size" "I", Cond.methodLink RX4 187 yX4_winnerOf, Cond.instanceMethod yX4_winnerOf, Cond.selects RX4 yX4_winnerOf yX4_winnerOf, Cond.code yX4_winnerOf cX4_winnerOf 6 (some .int), Cond.fieldLink RX4 19 "GhostInn" "guests" "Ljava/util/ArrayList;", Cond.classLink RX4 145 "GhostInn$Guest", Cond.fieldLink RX4 176 "GhostInn$Guest" "bidPrice" "I", Cond.methodLink RX4 69 yJx4a65c_get_915e3, Cond.instanceMethod yJx4a65c_get_915e3, Cond.selects RJx4a65c yJx4a65c_get_915e3 yJx4a65c_get_915e3]
def wsX4_wins_r2 : List Cond := [Cond.code yJx4a65c_get_915e3 cJx4a65c_get_915e3 2 (some (.object "java/lang/Object")), Cond.methodLink RJx4a65c 118 yJ15_checkIndex_7cf53, Cond.static yJ15_checkIndex_7cf53, Cond.initialized RJ15, Cond.code yJ15_checkIndex_7cf53 cJ15_checkIndex_7cf53 2 (some .int), Cond.methodLink RJ15 105 yJ3_checkIndex_8e157, Cond.static yJ3_checkIndex_8e157, Cond.initialized RJ3, Cond.code yJ3_checkIndex_8e157 cJ3_checkIndex_8e157 3 (some .int), Cond.methodLink RJx4a65c 123 yJx4a65c_elementData_915e3, Cond.instanceMethod yJx4a65c_elementData_915e3, Cond.selects RJx4a65c yJx4a65c_elementData_915e3 yJx4a65c_elementData_915e3, Cond.code yJx4a65c_elementData_915e3 cJx4a65c_elementData_915e3 2 (some (.object "java/lang/Object")), Cond.fieldLink RJx4a65c 9 "java/util/ArrayList" "elementData" "[Ljava/lang/Object;", Cond.methodLink RX4 278 yX4_countsFor, Cond.instanceMethod yX4_countsFor, Cond.selects RX4 yX4_countsFor yX4_countsFor, Cond.code yX4_countsFor cX4_countsFor 3 (some .boolean), Cond.fieldLink RX4 163 "GhostInn$Guest" "bidRoom" "I", Cond.classLink RX4 49 "GhostInn$Room", Cond.methodLink RX4 159 yX1_couldBidFor, Cond.instanceMethod yX1_couldBidFor, Cond.selects RX1 yX1_couldBidFor yX1_couldBidFor, Cond.initialized RX1]
def wsX4_wins_r3 : List Cond := [Cond.code yX1_couldBidFor cX1_couldBidFor 2 (some .boolean), Cond.fieldLink RX1 15 "GhostInn$Guest" "coins" "I", Cond.fieldLink RX1 24 "GhostInn$Guest" "bidPrice" "I", Cond.fieldLink RX1 27 "GhostInn$Room" "beds" "I", Cond.fieldLink RX1 18 "GhostInn$Guest" "beds" "I", Cond.fieldLink RX1 30 "GhostInn$Room" "least" "I", Cond.methodLink RX4 190 yX4_dueFor, Cond.instanceMethod yX4_dueFor, Cond.selects RX4 yX4_dueFor yX4_dueFor, Cond.code yX4_dueFor cX4_dueFor 6 (some .int), Cond.fieldLink RX4 127 "GhostInn$Room" "least" "I", Cond.methodLink RX4 282 Lib.Math.max.name, Cond.static Lib.Math.max.name, Cond.initialized "java/lang/Math", Cond.code Lib.Math.max.name Lib.Math.max.code 2 (some .int), Cond.methodLink RX4 193 yX4_bidsThatCount, Cond.instanceMethod yX4_bidsThatCount, Cond.selects RX4 yX4_bidsThatCount yX4_bidsThatCount, Cond.code yX4_bidsThatCount cX4_bidsThatCount 4 (some .int)]
def wsX4_wins : List Cond := .code yX4_wins cX4_wins 3 (some .int) :: ((wsX4_wins_r1 ++ (wsX4_wins_r2 ++ wsX4_wins_r3)) ++ wsX40 ++ wsJx4a65c0 ++ wsX10 ++ wsX20 ++ (vx_atS RX4 66 "java/lang/IndexOutOfBoundsException" ["java/lang/RuntimeException", "java/lang/Exception"]).filter goodWord)
def wsX4_letRoom_r1 : List Cond := [Cond.fieldLink RX4 10 "GhostInn" "rooms" "Ljava/util/ArrayList;", Cond.classLink RX4 49 "GhostInn$Room", Cond.fieldLink RX4 19 "GhostInn" "guests" "Ljava/util/ArrayList;", Cond.classLink RX4 145 "GhostInn$Guest", Cond.fieldLink RX4 204 "GhostInn" "coins" "I", Cond.fieldLink RX4 208 "GhostInn" "givenBack" "I", Cond.methodLink RX4 187 yX4_winnerOf, Cond.instanceMethod yX4_winnerOf, Cond.selects RX4 yX4_winnerOf yX4_winnerOf, Cond.initialized RX4, Cond.code yX4_winnerOf cX4_winnerOf 6 (some .int), Cond.fieldLink RX4 176 "GhostInn$Guest" "bidPrice" "I", Cond.methodLink RX4 40 yJx4a65c_size_8abf5, Cond.instanceMethod yJx4a65c_size_8abf5, Cond.selects RJx4a65c yJx4a65c_size_8abf5 yJx4a65c_size_8abf5, Cond.initialized RJx4a65c, Cond.code yJx4a65c_size_8abf5 cJx4a65c_size_8abf5 1 (some .int), Cond.fieldLink RJx4a65c 48 "java/util/ArrayList" "size" "I", Cond.methodLink RX4 69 yJx4a65c_get_915e3, Cond.instanceMethod yJx4a65c_get_915e3, Cond.selects RJx4a65c yJx4a65c_get_915e3 yJx4a65c_get_915e3, Cond.code yJx4a65c_get_915e3 cJx4a65c_get_915e3 2 (some (.object "java/lang/Object")), Cond.methodLink RJx4a65c 118 yJ15_checkIndex_7cf53, Cond.static yJ15_checkIndex_7cf53]
def wsX4_letRoom_r2 : List Cond := [Cond.initialized RJ15, Cond.code yJ15_checkIndex_7cf53 cJ15_checkIndex_7cf53 2 (some .int), Cond.methodLink RJ15 105 yJ3_checkIndex_8e157, Cond.static yJ3_checkIndex_8e157, Cond.initialized RJ3, Cond.code yJ3_checkIndex_8e157 cJ3_checkIndex_8e157 3 (some .int), Cond.methodLink RJx4a65c 123 yJx4a65c_elementData_915e3, Cond.instanceMethod yJx4a65c_elementData_915e3, Cond.selects RJx4a65c yJx4a65c_elementData_915e3 yJx4a65c_elementData_915e3, Cond.code yJx4a65c_elementData_915e3 cJx4a65c_elementData_915e3 2 (some (.object "java/lang/Object")), Cond.fieldLink RJx4a65c 9 "java/util/ArrayList" "elementData" "[Ljava/lang/Object;", Cond.methodLink RX4 278 yX4_countsFor, Cond.instanceMethod yX4_countsFor, Cond.selects RX4 yX4_countsFor yX4_countsFor, Cond.code yX4_countsFor cX4_countsFor 3 (some .boolean), Cond.fieldLink RX4 163 "GhostInn$Guest" "bidRoom" "I", Cond.methodLink RX4 58 yX4_isRoom, Cond.instanceMethod yX4_isRoom, Cond.selects RX4 yX4_isRoom yX4_isRoom, Cond.code yX4_isRoom cX4_isRoom 2 (some .boolean), Cond.methodLink RX4 159 yX1_couldBidFor, Cond.instanceMethod yX1_couldBidFor, Cond.selects RX1 yX1_couldBidFor yX1_couldBidFor, Cond.initialized RX1]
def wsX4_letRoom_r3 : List Cond := [Cond.code yX1_couldBidFor cX1_couldBidFor 2 (some .boolean), Cond.fieldLink RX1 15 "GhostInn$Guest" "coins" "I", Cond.fieldLink RX1 24 "GhostInn$Guest" "bidPrice" "I", Cond.fieldLink RX1 27 "GhostInn$Room" "beds" "I", Cond.fieldLink RX1 18 "GhostInn$Guest" "beds" "I", Cond.fieldLink RX1 30 "GhostInn$Room" "least" "I", Cond.methodLink RX4 148 yX4_isGuest, Cond.instanceMethod yX4_isGuest, Cond.selects RX4 yX4_isGuest yX4_isGuest, Cond.code yX4_isGuest cX4_isGuest 2 (some .boolean), Cond.methodLink RX4 113 yX4_hauntingOfNight, Cond.instanceMethod yX4_hauntingOfNight, Cond.selects RX4 yX4_hauntingOfNight yX4_hauntingOfNight, Cond.code yX4_hauntingOfNight cX4_hauntingOfNight 5 (some .int), Cond.methodLink RX4 117 yX4_hauntingInHour, Cond.instanceMethod yX4_hauntingInHour, Cond.selects RX4 yX4_hauntingInHour yX4_hauntingInHour, Cond.code yX4_hauntingInHour cX4_hauntingInHour 7 (some .int), Cond.fieldLink RX4 16 "GhostInn" "ghosts" "Ljava/util/ArrayList;", Cond.classLink RX4 93 "GhostInn$Ghost", Cond.fieldLink RX4 275 "GhostInn$Ghost" "fright" "I", Cond.methodLink RX4 109 yX0_placeIn, Cond.instanceMethod yX0_placeIn, Cond.selects RX0 yX0_placeIn yX0_placeIn]
def wsX4_letRoom_r4 : List Cond := [Cond.initialized RX0, Cond.code yX0_placeIn cX0_placeIn 2 (some .int), Cond.fieldLink RX0 9 "GhostInn$Ghost" "places" "[I", Cond.methodLink RX4 190 yX4_dueFor, Cond.instanceMethod yX4_dueFor, Cond.selects RX4 yX4_dueFor yX4_dueFor, Cond.code yX4_dueFor cX4_dueFor 6 (some .int), Cond.fieldLink RX4 127 "GhostInn$Room" "least" "I", Cond.methodLink RX4 282 Lib.Math.max.name, Cond.static Lib.Math.max.name, Cond.initialized "java/lang/Math", Cond.code Lib.Math.max.name Lib.Math.max.code 2 (some .int), Cond.methodLink RX4 216 yX1_isUpsetBy, Cond.instanceMethod yX1_isUpsetBy, Cond.selects RX1 yX1_isUpsetBy yX1_isUpsetBy, Cond.code yX1_isUpsetBy cX1_isUpsetBy 3 (some .boolean), Cond.fieldLink RX1 21 "GhostInn$Guest" "nerve" "I", Cond.methodLink RX1 33 yX1_isFrightenedBy, Cond.instanceMethod yX1_isFrightenedBy, Cond.selects RX1 yX1_isFrightenedBy yX1_isFrightenedBy, Cond.code yX1_isFrightenedBy cX1_isFrightenedBy 2 (some .boolean), Cond.methodLink RX4 291 yX1_isFrightenedBy, Cond.methodLink RX4 294 yX2_wasLet, Cond.instanceMethod yX2_wasLet]
def wsX4_letRoom_r5 : List Cond := [Cond.selects RX2 yX2_wasLet yX2_wasLet, Cond.initialized RX2, Cond.code yX2_wasLet cX2_wasLet 3 none, Cond.fieldLink RX2 28 "GhostInn$Room" "nightsLet" "I", Cond.fieldLink RX2 31 "GhostInn$Room" "earned" "I", Cond.fieldLink RX2 13 "GhostInn$Room" "comfort" "I", Cond.methodLink RX2 34 Lib.Math.max.name, Cond.methodLink RX4 298 yX1_stayed, Cond.instanceMethod yX1_stayed, Cond.selects RX1 yX1_stayed yX1_stayed, Cond.code yX1_stayed cX1_stayed 3 none, Cond.fieldLink RX1 37 "GhostInn$Guest" "nightsStayed" "I", Cond.fieldLink RX1 43 "GhostInn$Guest" "nightsUpset" "I", Cond.methodLink RX1 46 Lib.Math.max.name, Cond.methodLink RX1 52 Lib.Math.min.name, Cond.static Lib.Math.min.name, Cond.code Lib.Math.min.name Lib.Math.min.code 2 (some .int), Cond.methodLink RX1 40 yX1_isUpsetBy]
def wsX4_letRoom : List Cond := .code yX4_letRoom cX4_letRoom 8 none :: ((wsX4_letRoom_r1 ++ (wsX4_letRoom_r2 ++ (wsX4_letRoom_r3 ++ (wsX4_letRoom_r4 ++ wsX4_letRoom_r5)))) ++ wsX40 ++ wsX10 ++ wsJx4a65c0 ++ wsX20 ++ wsX00)
def wsX4_night_r1 : List Cond := [Cond.fieldLink RX4 10 "GhostInn" "rooms" "Ljava/util/ArrayList;", Cond.fieldLink RX4 19 "GhostInn" "guests" "Ljava/util/ArrayList;", Cond.classLink RX4 145 "GhostInn$Guest", Cond.fieldLink RX4 201 "GhostInn" "nightsGone" "I", Cond.fieldLink RX4 204 "GhostInn" "coins" "I", Cond.methodLink RX4 40 yJx4a65c_size_8abf5, Cond.instanceMethod yJx4a65c_size_8abf5, Cond.selects RJx4a65c yJx4a65c_size_8abf5 yJx4a65c_size_8abf5, Cond.initialized RJx4a65c, Cond.code yJx4a65c_size_8abf5 cJx4a65c_size_8abf5 1 (some .int), Cond.fieldLink RJx4a65c 48 "java/util/ArrayList" "size" "I", Cond.methodLink RX4 198 yX4_letRoom, Cond.instanceMethod yX4_letRoom, Cond.selects RX4 yX4_letRoom yX4_letRoom, Cond.initialized RX4, Cond.code yX4_letRoom cX4_letRoom 8 none, Cond.classLink RX4 49 "GhostInn$Room", Cond.fieldLink RX4 208 "GhostInn" "givenBack" "I", Cond.methodLink RX4 187 yX4_winnerOf, Cond.instanceMethod yX4_winnerOf, Cond.selects RX4 yX4_winnerOf yX4_winnerOf, Cond.code yX4_winnerOf cX4_winnerOf 6 (some .int), Cond.fieldLink RX4 176 "GhostInn$Guest" "bidPrice" "I", Cond.methodLink RX4 69 yJx4a65c_get_915e3]
def wsX4_night_r2 : List Cond := [Cond.instanceMethod yJx4a65c_get_915e3, Cond.selects RJx4a65c yJx4a65c_get_915e3 yJx4a65c_get_915e3, Cond.code yJx4a65c_get_915e3 cJx4a65c_get_915e3 2 (some (.object "java/lang/Object")), Cond.methodLink RJx4a65c 118 yJ15_checkIndex_7cf53, Cond.static yJ15_checkIndex_7cf53, Cond.initialized RJ15, Cond.code yJ15_checkIndex_7cf53 cJ15_checkIndex_7cf53 2 (some .int), Cond.methodLink RJ15 105 yJ3_checkIndex_8e157, Cond.static yJ3_checkIndex_8e157, Cond.initialized RJ3, Cond.code yJ3_checkIndex_8e157 cJ3_checkIndex_8e157 3 (some .int), Cond.methodLink RJx4a65c 123 yJx4a65c_elementData_915e3, Cond.instanceMethod yJx4a65c_elementData_915e3, Cond.selects RJx4a65c yJx4a65c_elementData_915e3 yJx4a65c_elementData_915e3, Cond.code yJx4a65c_elementData_915e3 cJx4a65c_elementData_915e3 2 (some (.object "java/lang/Object")), Cond.fieldLink RJx4a65c 9 "java/util/ArrayList" "elementData" "[Ljava/lang/Object;", Cond.methodLink RX4 278 yX4_countsFor, Cond.instanceMethod yX4_countsFor, Cond.selects RX4 yX4_countsFor yX4_countsFor, Cond.code yX4_countsFor cX4_countsFor 3 (some .boolean), Cond.fieldLink RX4 163 "GhostInn$Guest" "bidRoom" "I", Cond.methodLink RX4 58 yX4_isRoom, Cond.instanceMethod yX4_isRoom, Cond.selects RX4 yX4_isRoom yX4_isRoom]
def wsX4_night_r3 : List Cond := [Cond.code yX4_isRoom cX4_isRoom 2 (some .boolean), Cond.methodLink RX4 159 yX1_couldBidFor, Cond.instanceMethod yX1_couldBidFor, Cond.selects RX1 yX1_couldBidFor yX1_couldBidFor, Cond.initialized RX1, Cond.code yX1_couldBidFor cX1_couldBidFor 2 (some .boolean), Cond.fieldLink RX1 15 "GhostInn$Guest" "coins" "I", Cond.fieldLink RX1 24 "GhostInn$Guest" "bidPrice" "I", Cond.fieldLink RX1 27 "GhostInn$Room" "beds" "I", Cond.fieldLink RX1 18 "GhostInn$Guest" "beds" "I", Cond.fieldLink RX1 30 "GhostInn$Room" "least" "I", Cond.methodLink RX4 148 yX4_isGuest, Cond.instanceMethod yX4_isGuest, Cond.selects RX4 yX4_isGuest yX4_isGuest, Cond.code yX4_isGuest cX4_isGuest 2 (some .boolean), Cond.methodLink RX4 113 yX4_hauntingOfNight, Cond.instanceMethod yX4_hauntingOfNight, Cond.selects RX4 yX4_hauntingOfNight yX4_hauntingOfNight, Cond.code yX4_hauntingOfNight cX4_hauntingOfNight 5 (some .int), Cond.methodLink RX4 117 yX4_hauntingInHour, Cond.instanceMethod yX4_hauntingInHour, Cond.selects RX4 yX4_hauntingInHour yX4_hauntingInHour, Cond.code yX4_hauntingInHour cX4_hauntingInHour 7 (some .int), Cond.fieldLink RX4 16 "GhostInn" "ghosts" "Ljava/util/ArrayList;"]
def wsX4_night_r4 : List Cond := [Cond.classLink RX4 93 "GhostInn$Ghost", Cond.fieldLink RX4 275 "GhostInn$Ghost" "fright" "I", Cond.methodLink RX4 109 yX0_placeIn, Cond.instanceMethod yX0_placeIn, Cond.selects RX0 yX0_placeIn yX0_placeIn, Cond.initialized RX0, Cond.code yX0_placeIn cX0_placeIn 2 (some .int), Cond.fieldLink RX0 9 "GhostInn$Ghost" "places" "[I", Cond.methodLink RX4 190 yX4_dueFor, Cond.instanceMethod yX4_dueFor, Cond.selects RX4 yX4_dueFor yX4_dueFor, Cond.code yX4_dueFor cX4_dueFor 6 (some .int), Cond.fieldLink RX4 127 "GhostInn$Room" "least" "I", Cond.methodLink RX4 282 Lib.Math.max.name, Cond.static Lib.Math.max.name, Cond.initialized "java/lang/Math", Cond.code Lib.Math.max.name Lib.Math.max.code 2 (some .int), Cond.methodLink RX4 216 yX1_isUpsetBy, Cond.instanceMethod yX1_isUpsetBy, Cond.selects RX1 yX1_isUpsetBy yX1_isUpsetBy, Cond.code yX1_isUpsetBy cX1_isUpsetBy 3 (some .boolean), Cond.fieldLink RX1 21 "GhostInn$Guest" "nerve" "I", Cond.methodLink RX1 33 yX1_isFrightenedBy, Cond.instanceMethod yX1_isFrightenedBy]
def wsX4_night_r5 : List Cond := [Cond.selects RX1 yX1_isFrightenedBy yX1_isFrightenedBy, Cond.code yX1_isFrightenedBy cX1_isFrightenedBy 2 (some .boolean), Cond.methodLink RX4 291 yX1_isFrightenedBy, Cond.methodLink RX4 294 yX2_wasLet, Cond.instanceMethod yX2_wasLet, Cond.selects RX2 yX2_wasLet yX2_wasLet, Cond.initialized RX2, Cond.code yX2_wasLet cX2_wasLet 3 none, Cond.fieldLink RX2 28 "GhostInn$Room" "nightsLet" "I", Cond.fieldLink RX2 31 "GhostInn$Room" "earned" "I", Cond.fieldLink RX2 13 "GhostInn$Room" "comfort" "I", Cond.methodLink RX2 34 Lib.Math.max.name, Cond.methodLink RX4 298 yX1_stayed, Cond.instanceMethod yX1_stayed, Cond.selects RX1 yX1_stayed yX1_stayed, Cond.code yX1_stayed cX1_stayed 3 none, Cond.fieldLink RX1 37 "GhostInn$Guest" "nightsStayed" "I", Cond.fieldLink RX1 43 "GhostInn$Guest" "nightsUpset" "I", Cond.methodLink RX1 46 Lib.Math.max.name, Cond.methodLink RX1 52 Lib.Math.min.name, Cond.static Lib.Math.min.name, Cond.code Lib.Math.min.name Lib.Math.min.code 2 (some .int), Cond.methodLink RX1 40 yX1_isUpsetBy, Cond.methodLink RX4 166 yX1_dropBid]
def wsX4_night_r6 : List Cond := [Cond.instanceMethod yX1_dropBid, Cond.selects RX1 yX1_dropBid yX1_dropBid, Cond.code yX1_dropBid cX1_dropBid 1 none, Cond.fieldLink RX1 9 "GhostInn$Guest" "bidRoom" "I"]
def wsX4_night : List Cond := .code yX4_night cX4_night 2 (some .int) :: ((wsX4_night_r1 ++ (wsX4_night_r2 ++ (wsX4_night_r3 ++ (wsX4_night_r4 ++ (wsX4_night_r5 ++ wsX4_night_r6))))) ++ wsX40 ++ wsJx4a65c0 ++ wsX10 ++ wsX20 ++ wsX00)
def wsX4_bidsWritten_r1 : List Cond := [Cond.fieldLink RX4 19 "GhostInn" "guests" "Ljava/util/ArrayList;", Cond.classLink RX4 145 "GhostInn$Guest", Cond.methodLink RX4 40 yJx4a65c_size_8abf5, Cond.instanceMethod yJx4a65c_size_8abf5, Cond.selects RJx4a65c yJx4a65c_size_8abf5 yJx4a65c_size_8abf5, Cond.initialized RJx4a65c, Cond.code yJx4a65c_size_8abf5 cJx4a65c_size_8abf5 1 (some .int), Cond.fieldLink RJx4a65c 48 "java/util/ArrayList" "size" "I", Cond.methodLink RX4 69 yJx4a65c_get_915e3, Cond.instanceMethod yJx4a65c_get_915e3, Cond.selects RJx4a65c yJx4a65c_get_915e3 yJx4a65c_get_915e3, Cond.code yJx4a65c_get_915e3 cJx4a65c_get_915e3 2 (some (.object "java/lang/Object")), Cond.methodLink RJx4a65c 118 yJ15_checkIndex_7cf53, Cond.static yJ15_checkIndex_7cf53, Cond.initialized RJ15, Cond.code yJ15_checkIndex_7cf53 cJ15_checkIndex_7cf53 2 (some .int), Cond.methodLink RJ15 105 yJ3_checkIndex_8e157, Cond.static yJ3_checkIndex_8e157, Cond.initialized RJ3, Cond.code yJ3_checkIndex_8e157 cJ3_checkIndex_8e157 3 (some .int), Cond.methodLink RJx4a65c 123 yJx4a65c_elementData_915e3, Cond.instanceMethod yJx4a65c_elementData_915e3, Cond.selects RJx4a65c yJx4a65c_elementData_915e3 yJx4a65c_elementData_915e3, Cond.code yJx4a65c_elementData_915e3 cJx4a65c_elementData_915e3 2 (some (.object "java/lang/Object"))]
def wsX4_bidsWritten_r2 : List Cond := [Cond.fieldLink RJx4a65c 9 "java/util/ArrayList" "elementData" "[Ljava/lang/Object;", Cond.methodLink RX4 287 yX1_hasBid, Cond.instanceMethod yX1_hasBid, Cond.selects RX1 yX1_hasBid yX1_hasBid, Cond.initialized RX1, Cond.code yX1_hasBid cX1_hasBid 1 (some .boolean), Cond.fieldLink RX1 9 "GhostInn$Guest" "bidRoom" "I"]
def wsX4_bidsWritten : List Cond := .code yX4_bidsWritten cX4_bidsWritten 3 (some .int) :: ((wsX4_bidsWritten_r1 ++ wsX4_bidsWritten_r2) ++ wsX40 ++ wsJx4a65c0 ++ wsX10)
def wsX4_roomsToLet_r1 : List Cond := [Cond.fieldLink RX4 10 "GhostInn" "rooms" "Ljava/util/ArrayList;", Cond.methodLink RX4 40 yJx4a65c_size_8abf5, Cond.instanceMethod yJx4a65c_size_8abf5, Cond.selects RJx4a65c yJx4a65c_size_8abf5 yJx4a65c_size_8abf5, Cond.initialized RJx4a65c, Cond.code yJx4a65c_size_8abf5 cJx4a65c_size_8abf5 1 (some .int), Cond.fieldLink RJx4a65c 48 "java/util/ArrayList" "size" "I", Cond.methodLink RX4 187 yX4_winnerOf, Cond.instanceMethod yX4_winnerOf, Cond.selects RX4 yX4_winnerOf yX4_winnerOf, Cond.initialized RX4, Cond.code yX4_winnerOf cX4_winnerOf 6 (some .int), Cond.fieldLink RX4 19 "GhostInn" "guests" "Ljava/util/ArrayList;", Cond.classLink RX4 145 "GhostInn$Guest", Cond.fieldLink RX4 176 "GhostInn$Guest" "bidPrice" "I", Cond.methodLink RX4 69 yJx4a65c_get_915e3, Cond.instanceMethod yJx4a65c_get_915e3, Cond.selects RJx4a65c yJx4a65c_get_915e3 yJx4a65c_get_915e3, Cond.code yJx4a65c_get_915e3 cJx4a65c_get_915e3 2 (some (.object "java/lang/Object")), Cond.methodLink RJx4a65c 118 yJ15_checkIndex_7cf53, Cond.static yJ15_checkIndex_7cf53, Cond.initialized RJ15, Cond.code yJ15_checkIndex_7cf53 cJ15_checkIndex_7cf53 2 (some .int), Cond.methodLink RJ15 105 yJ3_checkIndex_8e157]
def wsX4_roomsToLet_r2 : List Cond := [Cond.static yJ3_checkIndex_8e157, Cond.initialized RJ3, Cond.code yJ3_checkIndex_8e157 cJ3_checkIndex_8e157 3 (some .int), Cond.methodLink RJx4a65c 123 yJx4a65c_elementData_915e3, Cond.instanceMethod yJx4a65c_elementData_915e3, Cond.selects RJx4a65c yJx4a65c_elementData_915e3 yJx4a65c_elementData_915e3, Cond.code yJx4a65c_elementData_915e3 cJx4a65c_elementData_915e3 2 (some (.object "java/lang/Object")), Cond.fieldLink RJx4a65c 9 "java/util/ArrayList" "elementData" "[Ljava/lang/Object;", Cond.methodLink RX4 278 yX4_countsFor, Cond.instanceMethod yX4_countsFor, Cond.selects RX4 yX4_countsFor yX4_countsFor, Cond.code yX4_countsFor cX4_countsFor 3 (some .boolean), Cond.fieldLink RX4 163 "GhostInn$Guest" "bidRoom" "I", Cond.classLink RX4 49 "GhostInn$Room", Cond.methodLink RX4 58 yX4_isRoom, Cond.instanceMethod yX4_isRoom, Cond.selects RX4 yX4_isRoom yX4_isRoom, Cond.code yX4_isRoom cX4_isRoom 2 (some .boolean), Cond.methodLink RX4 159 yX1_couldBidFor, Cond.instanceMethod yX1_couldBidFor, Cond.selects RX1 yX1_couldBidFor yX1_couldBidFor, Cond.initialized RX1, Cond.code yX1_couldBidFor cX1_couldBidFor 2 (some .boolean), Cond.fieldLink RX1 15 "GhostInn$Guest" "coins" "I"]
def wsX4_roomsToLet_r3 : List Cond := [Cond.fieldLink RX1 24 "GhostInn$Guest" "bidPrice" "I", Cond.fieldLink RX1 27 "GhostInn$Room" "beds" "I", Cond.fieldLink RX1 18 "GhostInn$Guest" "beds" "I", Cond.fieldLink RX1 30 "GhostInn$Room" "least" "I"]
def wsX4_roomsToLet : List Cond := .code yX4_roomsToLet cX4_roomsToLet 3 (some .int) :: ((wsX4_roomsToLet_r1 ++ (wsX4_roomsToLet_r2 ++ wsX4_roomsToLet_r3)) ++ wsX40 ++ wsJx4a65c0 ++ wsX10 ++ wsX20)
def wsX4_count_r1 : List Cond := [Cond.classLink RX4 62 "java/lang/IndexOutOfBoundsException", Cond.initialized "java/lang/IndexOutOfBoundsException", Cond.fieldLink RX4 201 "GhostInn" "nightsGone" "I", Cond.fieldLink RX4 10 "GhostInn" "rooms" "Ljava/util/ArrayList;", Cond.fieldLink RX4 76 "GhostInn" "doors" "I", Cond.fieldLink RX4 16 "GhostInn" "ghosts" "Ljava/util/ArrayList;", Cond.fieldLink RX4 19 "GhostInn" "guests" "Ljava/util/ArrayList;", Cond.fieldLink RX4 204 "GhostInn" "coins" "I", Cond.fieldLink RX4 208 "GhostInn" "givenBack" "I", Cond.methodLink RX4 40 yJx4a65c_size_8abf5, Cond.instanceMethod yJx4a65c_size_8abf5, Cond.selects RJx4a65c yJx4a65c_size_8abf5 yJx4a65c_size_8abf5, Cond.initialized RJx4a65c, Cond.code yJx4a65c_size_8abf5 cJx4a65c_size_8abf5 1 (some .int), Cond.fieldLink RJx4a65c 48 "java/util/ArrayList" "size" "I", Cond.methodLink RX4 205 yX4_bidsWritten, Cond.instanceMethod yX4_bidsWritten, Cond.selects RX4 yX4_bidsWritten yX4_bidsWritten, Cond.initialized RX4, Cond.code yX4_bidsWritten cX4_bidsWritten 3 (some .int), Cond.classLink RX4 145 "GhostInn$Guest", Cond.methodLink RX4 69 yJx4a65c_get_915e3, Cond.instanceMethod yJx4a65c_get_915e3, Cond.selects RJx4a65c yJx4a65c_get_915e3 yJx4a65c_get_915e3]
def wsX4_count_r2 : List Cond := [Cond.code yJx4a65c_get_915e3 cJx4a65c_get_915e3 2 (some (.object "java/lang/Object")), Cond.methodLink RJx4a65c 118 yJ15_checkIndex_7cf53, Cond.static yJ15_checkIndex_7cf53, Cond.initialized RJ15, Cond.code yJ15_checkIndex_7cf53 cJ15_checkIndex_7cf53 2 (some .int), Cond.methodLink RJ15 105 yJ3_checkIndex_8e157, Cond.static yJ3_checkIndex_8e157, Cond.initialized RJ3, Cond.code yJ3_checkIndex_8e157 cJ3_checkIndex_8e157 3 (some .int), Cond.methodLink RJx4a65c 123 yJx4a65c_elementData_915e3, Cond.instanceMethod yJx4a65c_elementData_915e3, Cond.selects RJx4a65c yJx4a65c_elementData_915e3 yJx4a65c_elementData_915e3, Cond.code yJx4a65c_elementData_915e3 cJx4a65c_elementData_915e3 2 (some (.object "java/lang/Object")), Cond.fieldLink RJx4a65c 9 "java/util/ArrayList" "elementData" "[Ljava/lang/Object;", Cond.methodLink RX4 287 yX1_hasBid, Cond.instanceMethod yX1_hasBid, Cond.selects RX1 yX1_hasBid yX1_hasBid, Cond.initialized RX1, Cond.code yX1_hasBid cX1_hasBid 1 (some .boolean), Cond.fieldLink RX1 9 "GhostInn$Guest" "bidRoom" "I", Cond.methodLink RX4 211 yX4_roomsToLet, Cond.instanceMethod yX4_roomsToLet, Cond.selects RX4 yX4_roomsToLet yX4_roomsToLet, Cond.code yX4_roomsToLet cX4_roomsToLet 3 (some .int)]
def wsX4_count_r3 : List Cond := [Cond.methodLink RX4 187 yX4_winnerOf, Cond.instanceMethod yX4_winnerOf, Cond.selects RX4 yX4_winnerOf yX4_winnerOf, Cond.code yX4_winnerOf cX4_winnerOf 6 (some .int), Cond.fieldLink RX4 176 "GhostInn$Guest" "bidPrice" "I", Cond.methodLink RX4 278 yX4_countsFor, Cond.instanceMethod yX4_countsFor, Cond.selects RX4 yX4_countsFor yX4_countsFor, Cond.code yX4_countsFor cX4_countsFor 3 (some .boolean), Cond.fieldLink RX4 163 "GhostInn$Guest" "bidRoom" "I", Cond.classLink RX4 49 "GhostInn$Room", Cond.methodLink RX4 58 yX4_isRoom, Cond.instanceMethod yX4_isRoom, Cond.selects RX4 yX4_isRoom yX4_isRoom, Cond.code yX4_isRoom cX4_isRoom 2 (some .boolean), Cond.methodLink RX4 159 yX1_couldBidFor, Cond.instanceMethod yX1_couldBidFor, Cond.selects RX1 yX1_couldBidFor yX1_couldBidFor, Cond.code yX1_couldBidFor cX1_couldBidFor 2 (some .boolean), Cond.fieldLink RX1 15 "GhostInn$Guest" "coins" "I", Cond.fieldLink RX1 24 "GhostInn$Guest" "bidPrice" "I", Cond.fieldLink RX1 27 "GhostInn$Room" "beds" "I", Cond.fieldLink RX1 18 "GhostInn$Guest" "beds" "I", Cond.fieldLink RX1 30 "GhostInn$Room" "least" "I"]
def wsX4_count : List Cond := .code yX4_count cX4_count 2 (some .int) :: ((wsX4_count_r1 ++ (wsX4_count_r2 ++ wsX4_count_r3)) ++ wsX40 ++ wsJx4a65c0 ++ wsX10 ++ wsX20 ++ (vx_atS RX4 66 "java/lang/IndexOutOfBoundsException" ["java/lang/RuntimeException", "java/lang/Exception"]).filter goodWord)
def wsX4_best_r1 : List Cond := [Cond.classLink RX4 62 "java/lang/IndexOutOfBoundsException", Cond.initialized "java/lang/IndexOutOfBoundsException", Cond.fieldLink RX4 19 "GhostInn" "guests" "Ljava/util/ArrayList;", Cond.classLink RX4 145 "GhostInn$Guest", Cond.fieldLink RX4 10 "GhostInn" "rooms" "Ljava/util/ArrayList;", Cond.classLink RX4 49 "GhostInn$Room", Cond.fieldLink RX4 124 "GhostInn$Room" "comfort" "I", Cond.fieldLink RX4 121 "GhostInn$Room" "beds" "I", Cond.fieldLink RX4 172 "GhostInn$Guest" "beds" "I", Cond.fieldLink RX4 127 "GhostInn$Room" "least" "I", Cond.fieldLink RX4 169 "GhostInn$Guest" "coins" "I", Cond.methodLink RX4 148 yX4_isGuest, Cond.instanceMethod yX4_isGuest, Cond.selects RX4 yX4_isGuest yX4_isGuest, Cond.initialized RX4, Cond.code yX4_isGuest cX4_isGuest 2 (some .boolean), Cond.methodLink RX4 40 yJx4a65c_size_8abf5, Cond.instanceMethod yJx4a65c_size_8abf5, Cond.selects RJx4a65c yJx4a65c_size_8abf5 yJx4a65c_size_8abf5, Cond.initialized RJx4a65c, Cond.code yJx4a65c_size_8abf5 cJx4a65c_size_8abf5 1 (some .int), Cond.fieldLink RJx4a65c 48 "java/util/ArrayList" "size" "I", Cond.methodLink RX4 69 yJx4a65c_get_915e3, Cond.instanceMethod yJx4a65c_get_915e3]
def wsX4_best_r2 : List Cond := [Cond.selects RJx4a65c yJx4a65c_get_915e3 yJx4a65c_get_915e3, Cond.code yJx4a65c_get_915e3 cJx4a65c_get_915e3 2 (some (.object "java/lang/Object")), Cond.methodLink RJx4a65c 118 yJ15_checkIndex_7cf53, Cond.static yJ15_checkIndex_7cf53, Cond.initialized RJ15, Cond.code yJ15_checkIndex_7cf53 cJ15_checkIndex_7cf53 2 (some .int), Cond.methodLink RJ15 105 yJ3_checkIndex_8e157, Cond.static yJ3_checkIndex_8e157, Cond.initialized RJ3, Cond.code yJ3_checkIndex_8e157 cJ3_checkIndex_8e157 3 (some .int), Cond.methodLink RJx4a65c 123 yJx4a65c_elementData_915e3, Cond.instanceMethod yJx4a65c_elementData_915e3, Cond.selects RJx4a65c yJx4a65c_elementData_915e3 yJx4a65c_elementData_915e3, Cond.code yJx4a65c_elementData_915e3 cJx4a65c_elementData_915e3 2 (some (.object "java/lang/Object")), Cond.fieldLink RJx4a65c 9 "java/util/ArrayList" "elementData" "[Ljava/lang/Object;", Cond.methodLink RX4 113 yX4_hauntingOfNight, Cond.instanceMethod yX4_hauntingOfNight, Cond.selects RX4 yX4_hauntingOfNight yX4_hauntingOfNight, Cond.code yX4_hauntingOfNight cX4_hauntingOfNight 5 (some .int), Cond.methodLink RX4 117 yX4_hauntingInHour, Cond.instanceMethod yX4_hauntingInHour, Cond.selects RX4 yX4_hauntingInHour yX4_hauntingInHour, Cond.code yX4_hauntingInHour cX4_hauntingInHour 7 (some .int), Cond.fieldLink RX4 16 "GhostInn" "ghosts" "Ljava/util/ArrayList;"]
def wsX4_best_r3 : List Cond := [Cond.classLink RX4 93 "GhostInn$Ghost", Cond.fieldLink RX4 275 "GhostInn$Ghost" "fright" "I", Cond.methodLink RX4 109 yX0_placeIn, Cond.instanceMethod yX0_placeIn, Cond.selects RX0 yX0_placeIn yX0_placeIn, Cond.initialized RX0, Cond.code yX0_placeIn cX0_placeIn 2 (some .int), Cond.fieldLink RX0 9 "GhostInn$Ghost" "places" "[I", Cond.methodLink RX4 216 yX1_isUpsetBy, Cond.instanceMethod yX1_isUpsetBy, Cond.selects RX1 yX1_isUpsetBy yX1_isUpsetBy, Cond.initialized RX1, Cond.code yX1_isUpsetBy cX1_isUpsetBy 3 (some .boolean), Cond.fieldLink RX1 21 "GhostInn$Guest" "nerve" "I", Cond.methodLink RX1 33 yX1_isFrightenedBy, Cond.instanceMethod yX1_isFrightenedBy, Cond.selects RX1 yX1_isFrightenedBy yX1_isFrightenedBy, Cond.code yX1_isFrightenedBy cX1_isFrightenedBy 2 (some .boolean)]
def wsX4_best : List Cond := .code yX4_best cX4_best 7 (some .int) :: ((wsX4_best_r1 ++ (wsX4_best_r2 ++ wsX4_best_r3)) ++ wsX40 ++ wsX20 ++ wsX10 ++ wsJx4a65c0 ++ wsX00 ++ (vx_atS RX4 66 "java/lang/IndexOutOfBoundsException" ["java/lang/RuntimeException", "java/lang/Exception"]).filter goodWord)
def wsX4_allowSeats_r1 : List Cond := [Cond.fieldLink RX4 19 "GhostInn" "guests" "Ljava/util/ArrayList;", Cond.classLink RX4 145 "GhostInn$Guest", Cond.fieldLink RX4 10 "GhostInn" "rooms" "Ljava/util/ArrayList;", Cond.classLink RX4 49 "GhostInn$Room", Cond.fieldLink RX4 25 "GhostInn" "seating" "LGhostInn$Seating;", Cond.methodLink RX4 40 yJx4a65c_size_8abf5, Cond.instanceMethod yJx4a65c_size_8abf5, Cond.selects RJx4a65c yJx4a65c_size_8abf5 yJx4a65c_size_8abf5, Cond.initialized RJx4a65c, Cond.code yJx4a65c_size_8abf5 cJx4a65c_size_8abf5 1 (some .int), Cond.fieldLink RJx4a65c 48 "java/util/ArrayList" "size" "I", Cond.methodLink RX4 69 yJx4a65c_get_915e3, Cond.instanceMethod yJx4a65c_get_915e3, Cond.selects RJx4a65c yJx4a65c_get_915e3 yJx4a65c_get_915e3, Cond.code yJx4a65c_get_915e3 cJx4a65c_get_915e3 2 (some (.object "java/lang/Object")), Cond.methodLink RJx4a65c 118 yJ15_checkIndex_7cf53, Cond.static yJ15_checkIndex_7cf53, Cond.initialized RJ15, Cond.code yJ15_checkIndex_7cf53 cJ15_checkIndex_7cf53 2 (some .int), Cond.methodLink RJ15 105 yJ3_checkIndex_8e157, Cond.static yJ3_checkIndex_8e157, Cond.initialized RJ3, Cond.code yJ3_checkIndex_8e157 cJ3_checkIndex_8e157 3 (some .int), Cond.methodLink RJx4a65c 123 yJx4a65c_elementData_915e3]
def wsX4_allowSeats_r2 : List Cond := [Cond.instanceMethod yJx4a65c_elementData_915e3, Cond.selects RJx4a65c yJx4a65c_elementData_915e3 yJx4a65c_elementData_915e3, Cond.code yJx4a65c_elementData_915e3 cJx4a65c_elementData_915e3 2 (some (.object "java/lang/Object")), Cond.fieldLink RJx4a65c 9 "java/util/ArrayList" "elementData" "[Ljava/lang/Object;", Cond.methodLink RX4 287 yX1_hasBid, Cond.instanceMethod yX1_hasBid, Cond.selects RX1 yX1_hasBid yX1_hasBid, Cond.initialized RX1, Cond.code yX1_hasBid cX1_hasBid 1 (some .boolean), Cond.fieldLink RX1 9 "GhostInn$Guest" "bidRoom" "I", Cond.methodLink RX4 159 yX1_couldBidFor, Cond.instanceMethod yX1_couldBidFor, Cond.selects RX1 yX1_couldBidFor yX1_couldBidFor, Cond.code yX1_couldBidFor cX1_couldBidFor 2 (some .boolean), Cond.fieldLink RX1 15 "GhostInn$Guest" "coins" "I", Cond.fieldLink RX1 24 "GhostInn$Guest" "bidPrice" "I", Cond.fieldLink RX1 27 "GhostInn$Room" "beds" "I", Cond.fieldLink RX1 18 "GhostInn$Guest" "beds" "I", Cond.fieldLink RX1 30 "GhostInn$Room" "least" "I", Cond.methodLink RX4 301 yX3_allow, Cond.instanceMethod yX3_allow, Cond.selects RX3 yX3_allow yX3_allow, Cond.initialized RX3, Cond.code yX3_allow cX3_allow 3 none]
def wsX4_allowSeats_r3 : List Cond := [Cond.fieldLink RX3 9 "GhostInn$Seating" "allowedBits" "[I"]
def wsX4_allowSeats : List Cond := .code yX4_allowSeats cX4_allowSeats 4 none :: ((wsX4_allowSeats_r1 ++ (wsX4_allowSeats_r2 ++ wsX4_allowSeats_r3)) ++ wsX40 ++ wsJx4a65c0 ++ wsX10 ++ wsX20 ++ wsX30)
def wsX4_isDearer_r1 : List Cond := [Cond.fieldLink RX4 19 "GhostInn" "guests" "Ljava/util/ArrayList;", Cond.classLink RX4 145 "GhostInn$Guest", Cond.fieldLink RX4 176 "GhostInn$Guest" "bidPrice" "I", Cond.methodLink RX4 148 yX4_isGuest, Cond.instanceMethod yX4_isGuest, Cond.selects RX4 yX4_isGuest yX4_isGuest, Cond.initialized RX4, Cond.code yX4_isGuest cX4_isGuest 2 (some .boolean), Cond.methodLink RX4 40 yJx4a65c_size_8abf5, Cond.instanceMethod yJx4a65c_size_8abf5, Cond.selects RJx4a65c yJx4a65c_size_8abf5 yJx4a65c_size_8abf5, Cond.initialized RJx4a65c, Cond.code yJx4a65c_size_8abf5 cJx4a65c_size_8abf5 1 (some .int), Cond.fieldLink RJx4a65c 48 "java/util/ArrayList" "size" "I", Cond.methodLink RX4 69 yJx4a65c_get_915e3, Cond.instanceMethod yJx4a65c_get_915e3, Cond.selects RJx4a65c yJx4a65c_get_915e3 yJx4a65c_get_915e3, Cond.code yJx4a65c_get_915e3 cJx4a65c_get_915e3 2 (some (.object "java/lang/Object")), Cond.methodLink RJx4a65c 118 yJ15_checkIndex_7cf53, Cond.static yJ15_checkIndex_7cf53, Cond.initialized RJ15, Cond.code yJ15_checkIndex_7cf53 cJ15_checkIndex_7cf53 2 (some .int), Cond.methodLink RJ15 105 yJ3_checkIndex_8e157, Cond.static yJ3_checkIndex_8e157]
def wsX4_isDearer_r2 : List Cond := [Cond.initialized RJ3, Cond.code yJ3_checkIndex_8e157 cJ3_checkIndex_8e157 3 (some .int), Cond.methodLink RJx4a65c 123 yJx4a65c_elementData_915e3, Cond.instanceMethod yJx4a65c_elementData_915e3, Cond.selects RJx4a65c yJx4a65c_elementData_915e3 yJx4a65c_elementData_915e3, Cond.code yJx4a65c_elementData_915e3 cJx4a65c_elementData_915e3 2 (some (.object "java/lang/Object")), Cond.fieldLink RJx4a65c 9 "java/util/ArrayList" "elementData" "[Ljava/lang/Object;"]
def wsX4_isDearer : List Cond := .code yX4_isDearer cX4_isDearer 5 (some .boolean) :: ((wsX4_isDearer_r1 ++ wsX4_isDearer_r2) ++ wsX40 ++ wsX10 ++ wsJx4a65c0)
def wsX4_nextDearest_r1 : List Cond := [Cond.fieldLink RX4 19 "GhostInn" "guests" "Ljava/util/ArrayList;", Cond.classLink RX4 145 "GhostInn$Guest", Cond.methodLink RX4 40 yJx4a65c_size_8abf5, Cond.instanceMethod yJx4a65c_size_8abf5, Cond.selects RJx4a65c yJx4a65c_size_8abf5 yJx4a65c_size_8abf5, Cond.initialized RJx4a65c, Cond.code yJx4a65c_size_8abf5 cJx4a65c_size_8abf5 1 (some .int), Cond.fieldLink RJx4a65c 48 "java/util/ArrayList" "size" "I", Cond.methodLink RX4 304 yX4_isDearer, Cond.instanceMethod yX4_isDearer, Cond.selects RX4 yX4_isDearer yX4_isDearer, Cond.initialized RX4, Cond.code yX4_isDearer cX4_isDearer 5 (some .boolean), Cond.fieldLink RX4 176 "GhostInn$Guest" "bidPrice" "I", Cond.methodLink RX4 148 yX4_isGuest, Cond.instanceMethod yX4_isGuest, Cond.selects RX4 yX4_isGuest yX4_isGuest, Cond.code yX4_isGuest cX4_isGuest 2 (some .boolean), Cond.methodLink RX4 69 yJx4a65c_get_915e3, Cond.instanceMethod yJx4a65c_get_915e3, Cond.selects RJx4a65c yJx4a65c_get_915e3 yJx4a65c_get_915e3, Cond.code yJx4a65c_get_915e3 cJx4a65c_get_915e3 2 (some (.object "java/lang/Object")), Cond.methodLink RJx4a65c 118 yJ15_checkIndex_7cf53, Cond.static yJ15_checkIndex_7cf53]
def wsX4_nextDearest_r2 : List Cond := [Cond.initialized RJ15, Cond.code yJ15_checkIndex_7cf53 cJ15_checkIndex_7cf53 2 (some .int), Cond.methodLink RJ15 105 yJ3_checkIndex_8e157, Cond.static yJ3_checkIndex_8e157, Cond.initialized RJ3, Cond.code yJ3_checkIndex_8e157 cJ3_checkIndex_8e157 3 (some .int), Cond.methodLink RJx4a65c 123 yJx4a65c_elementData_915e3, Cond.instanceMethod yJx4a65c_elementData_915e3, Cond.selects RJx4a65c yJx4a65c_elementData_915e3 yJx4a65c_elementData_915e3, Cond.code yJx4a65c_elementData_915e3 cJx4a65c_elementData_915e3 2 (some (.object "java/lang/Object")), Cond.fieldLink RJx4a65c 9 "java/util/ArrayList" "elementData" "[Ljava/lang/Object;", Cond.methodLink RX4 287 yX1_hasBid, Cond.instanceMethod yX1_hasBid, Cond.selects RX1 yX1_hasBid yX1_hasBid, Cond.initialized RX1, Cond.code yX1_hasBid cX1_hasBid 1 (some .boolean), Cond.fieldLink RX1 9 "GhostInn$Guest" "bidRoom" "I"]
def wsX4_nextDearest : List Cond := .code yX4_nextDearest cX4_nextDearest 5 (some .int) :: ((wsX4_nextDearest_r1 ++ wsX4_nextDearest_r2) ++ wsX40 ++ wsJx4a65c0 ++ wsX10)
def wsX4_most_r1 : List Cond := [Cond.fieldLink RX4 25 "GhostInn" "seating" "LGhostInn$Seating;", Cond.fieldLink RX4 19 "GhostInn" "guests" "Ljava/util/ArrayList;", Cond.classLink RX4 145 "GhostInn$Guest", Cond.fieldLink RX4 176 "GhostInn$Guest" "bidPrice" "I", Cond.methodLink RX4 219 yX3_clear, Cond.instanceMethod yX3_clear, Cond.selects RX3 yX3_clear yX3_clear, Cond.initialized RX3, Cond.code yX3_clear cX3_clear 1 none, Cond.fieldLink RX3 9 "GhostInn$Seating" "allowedBits" "[I", Cond.fieldLink RX3 15 "GhostInn$Seating" "holders" "[I", Cond.methodLink RX3 18 yJ7_fill_53178, Cond.static yJ7_fill_53178, Cond.initialized RJ7, Cond.code yJ7_fill_53178 cJ7_fill_53178 4 none, Cond.methodLink RX4 222 yX4_allowSeats, Cond.instanceMethod yX4_allowSeats, Cond.selects RX4 yX4_allowSeats yX4_allowSeats, Cond.initialized RX4, Cond.code yX4_allowSeats cX4_allowSeats 4 none, Cond.fieldLink RX4 10 "GhostInn" "rooms" "Ljava/util/ArrayList;", Cond.classLink RX4 49 "GhostInn$Room", Cond.methodLink RX4 40 yJx4a65c_size_8abf5, Cond.instanceMethod yJx4a65c_size_8abf5]
def wsX4_most_r2 : List Cond := [Cond.selects RJx4a65c yJx4a65c_size_8abf5 yJx4a65c_size_8abf5, Cond.initialized RJx4a65c, Cond.code yJx4a65c_size_8abf5 cJx4a65c_size_8abf5 1 (some .int), Cond.fieldLink RJx4a65c 48 "java/util/ArrayList" "size" "I", Cond.methodLink RX4 69 yJx4a65c_get_915e3, Cond.instanceMethod yJx4a65c_get_915e3, Cond.selects RJx4a65c yJx4a65c_get_915e3 yJx4a65c_get_915e3, Cond.code yJx4a65c_get_915e3 cJx4a65c_get_915e3 2 (some (.object "java/lang/Object")), Cond.methodLink RJx4a65c 118 yJ15_checkIndex_7cf53, Cond.static yJ15_checkIndex_7cf53, Cond.initialized RJ15, Cond.code yJ15_checkIndex_7cf53 cJ15_checkIndex_7cf53 2 (some .int), Cond.methodLink RJ15 105 yJ3_checkIndex_8e157, Cond.static yJ3_checkIndex_8e157, Cond.initialized RJ3, Cond.code yJ3_checkIndex_8e157 cJ3_checkIndex_8e157 3 (some .int), Cond.methodLink RJx4a65c 123 yJx4a65c_elementData_915e3, Cond.instanceMethod yJx4a65c_elementData_915e3, Cond.selects RJx4a65c yJx4a65c_elementData_915e3 yJx4a65c_elementData_915e3, Cond.code yJx4a65c_elementData_915e3 cJx4a65c_elementData_915e3 2 (some (.object "java/lang/Object")), Cond.fieldLink RJx4a65c 9 "java/util/ArrayList" "elementData" "[Ljava/lang/Object;", Cond.methodLink RX4 287 yX1_hasBid, Cond.instanceMethod yX1_hasBid, Cond.selects RX1 yX1_hasBid yX1_hasBid]
def wsX4_most_r3 : List Cond := [Cond.initialized RX1, Cond.code yX1_hasBid cX1_hasBid 1 (some .boolean), Cond.fieldLink RX1 9 "GhostInn$Guest" "bidRoom" "I", Cond.methodLink RX4 159 yX1_couldBidFor, Cond.instanceMethod yX1_couldBidFor, Cond.selects RX1 yX1_couldBidFor yX1_couldBidFor, Cond.code yX1_couldBidFor cX1_couldBidFor 2 (some .boolean), Cond.fieldLink RX1 15 "GhostInn$Guest" "coins" "I", Cond.fieldLink RX1 24 "GhostInn$Guest" "bidPrice" "I", Cond.fieldLink RX1 27 "GhostInn$Room" "beds" "I", Cond.fieldLink RX1 18 "GhostInn$Guest" "beds" "I", Cond.fieldLink RX1 30 "GhostInn$Room" "least" "I", Cond.methodLink RX4 301 yX3_allow, Cond.instanceMethod yX3_allow, Cond.selects RX3 yX3_allow yX3_allow, Cond.code yX3_allow cX3_allow 3 none, Cond.methodLink RX4 225 yX4_nextDearest, Cond.instanceMethod yX4_nextDearest, Cond.selects RX4 yX4_nextDearest yX4_nextDearest, Cond.code yX4_nextDearest cX4_nextDearest 5 (some .int), Cond.methodLink RX4 304 yX4_isDearer, Cond.instanceMethod yX4_isDearer, Cond.selects RX4 yX4_isDearer yX4_isDearer, Cond.code yX4_isDearer cX4_isDearer 5 (some .boolean)]
def wsX4_most_r4 : List Cond := [Cond.methodLink RX4 148 yX4_isGuest, Cond.instanceMethod yX4_isGuest, Cond.selects RX4 yX4_isGuest yX4_isGuest, Cond.code yX4_isGuest cX4_isGuest 2 (some .boolean), Cond.methodLink RX4 228 yX3_seat, Cond.instanceMethod yX3_seat, Cond.selects RX3 yX3_seat yX3_seat, Cond.code yX3_seat cX3_seat 2 (some .boolean), Cond.fieldLink RX3 24 "GhostInn$Seating" "askedBits" "I", Cond.methodLink RX3 28 yX3_findRoom, Cond.static yX3_findRoom, Cond.code yX3_findRoom cX3_findRoom 6 (some .boolean)]
def wsX4_most : List Cond := .code yX4_most cX4_most 4 (some .int) :: ((wsX4_most_r1 ++ (wsX4_most_r2 ++ (wsX4_most_r3 ++ wsX4_most_r4))) ++ wsX40 ++ wsX10 ++ wsX30 ++ wsJx4a65c0 ++ wsX20)
def wsX4_backTonight_r1 : List Cond := [Cond.fieldLink RX4 10 "GhostInn" "rooms" "Ljava/util/ArrayList;", Cond.fieldLink RX4 19 "GhostInn" "guests" "Ljava/util/ArrayList;", Cond.classLink RX4 145 "GhostInn$Guest", Cond.methodLink RX4 40 yJx4a65c_size_8abf5, Cond.instanceMethod yJx4a65c_size_8abf5, Cond.selects RJx4a65c yJx4a65c_size_8abf5 yJx4a65c_size_8abf5, Cond.initialized RJx4a65c, Cond.code yJx4a65c_size_8abf5 cJx4a65c_size_8abf5 1 (some .int), Cond.fieldLink RJx4a65c 48 "java/util/ArrayList" "size" "I", Cond.methodLink RX4 187 yX4_winnerOf, Cond.instanceMethod yX4_winnerOf, Cond.selects RX4 yX4_winnerOf yX4_winnerOf, Cond.initialized RX4, Cond.code yX4_winnerOf cX4_winnerOf 6 (some .int), Cond.fieldLink RX4 176 "GhostInn$Guest" "bidPrice" "I", Cond.methodLink RX4 69 yJx4a65c_get_915e3, Cond.instanceMethod yJx4a65c_get_915e3, Cond.selects RJx4a65c yJx4a65c_get_915e3 yJx4a65c_get_915e3, Cond.code yJx4a65c_get_915e3 cJx4a65c_get_915e3 2 (some (.object "java/lang/Object")), Cond.methodLink RJx4a65c 118 yJ15_checkIndex_7cf53, Cond.static yJ15_checkIndex_7cf53, Cond.initialized RJ15, Cond.code yJ15_checkIndex_7cf53 cJ15_checkIndex_7cf53 2 (some .int), Cond.methodLink RJ15 105 yJ3_checkIndex_8e157]
def wsX4_backTonight_r2 : List Cond := [Cond.static yJ3_checkIndex_8e157, Cond.initialized RJ3, Cond.code yJ3_checkIndex_8e157 cJ3_checkIndex_8e157 3 (some .int), Cond.methodLink RJx4a65c 123 yJx4a65c_elementData_915e3, Cond.instanceMethod yJx4a65c_elementData_915e3, Cond.selects RJx4a65c yJx4a65c_elementData_915e3 yJx4a65c_elementData_915e3, Cond.code yJx4a65c_elementData_915e3 cJx4a65c_elementData_915e3 2 (some (.object "java/lang/Object")), Cond.fieldLink RJx4a65c 9 "java/util/ArrayList" "elementData" "[Ljava/lang/Object;", Cond.methodLink RX4 278 yX4_countsFor, Cond.instanceMethod yX4_countsFor, Cond.selects RX4 yX4_countsFor yX4_countsFor, Cond.code yX4_countsFor cX4_countsFor 3 (some .boolean), Cond.fieldLink RX4 163 "GhostInn$Guest" "bidRoom" "I", Cond.classLink RX4 49 "GhostInn$Room", Cond.methodLink RX4 58 yX4_isRoom, Cond.instanceMethod yX4_isRoom, Cond.selects RX4 yX4_isRoom yX4_isRoom, Cond.code yX4_isRoom cX4_isRoom 2 (some .boolean), Cond.methodLink RX4 159 yX1_couldBidFor, Cond.instanceMethod yX1_couldBidFor, Cond.selects RX1 yX1_couldBidFor yX1_couldBidFor, Cond.initialized RX1, Cond.code yX1_couldBidFor cX1_couldBidFor 2 (some .boolean), Cond.fieldLink RX1 15 "GhostInn$Guest" "coins" "I"]
def wsX4_backTonight_r3 : List Cond := [Cond.fieldLink RX1 24 "GhostInn$Guest" "bidPrice" "I", Cond.fieldLink RX1 27 "GhostInn$Room" "beds" "I", Cond.fieldLink RX1 18 "GhostInn$Guest" "beds" "I", Cond.fieldLink RX1 30 "GhostInn$Room" "least" "I", Cond.methodLink RX4 148 yX4_isGuest, Cond.instanceMethod yX4_isGuest, Cond.selects RX4 yX4_isGuest yX4_isGuest, Cond.code yX4_isGuest cX4_isGuest 2 (some .boolean), Cond.methodLink RX4 113 yX4_hauntingOfNight, Cond.instanceMethod yX4_hauntingOfNight, Cond.selects RX4 yX4_hauntingOfNight yX4_hauntingOfNight, Cond.code yX4_hauntingOfNight cX4_hauntingOfNight 5 (some .int), Cond.methodLink RX4 117 yX4_hauntingInHour, Cond.instanceMethod yX4_hauntingInHour, Cond.selects RX4 yX4_hauntingInHour yX4_hauntingInHour, Cond.code yX4_hauntingInHour cX4_hauntingInHour 7 (some .int), Cond.fieldLink RX4 16 "GhostInn" "ghosts" "Ljava/util/ArrayList;", Cond.classLink RX4 93 "GhostInn$Ghost", Cond.fieldLink RX4 275 "GhostInn$Ghost" "fright" "I", Cond.methodLink RX4 109 yX0_placeIn, Cond.instanceMethod yX0_placeIn, Cond.selects RX0 yX0_placeIn yX0_placeIn, Cond.initialized RX0, Cond.code yX0_placeIn cX0_placeIn 2 (some .int)]
def wsX4_backTonight_r4 : List Cond := [Cond.fieldLink RX0 9 "GhostInn$Ghost" "places" "[I", Cond.methodLink RX4 216 yX1_isUpsetBy, Cond.instanceMethod yX1_isUpsetBy, Cond.selects RX1 yX1_isUpsetBy yX1_isUpsetBy, Cond.code yX1_isUpsetBy cX1_isUpsetBy 3 (some .boolean), Cond.fieldLink RX1 21 "GhostInn$Guest" "nerve" "I", Cond.methodLink RX1 33 yX1_isFrightenedBy, Cond.instanceMethod yX1_isFrightenedBy, Cond.selects RX1 yX1_isFrightenedBy yX1_isFrightenedBy, Cond.code yX1_isFrightenedBy cX1_isFrightenedBy 2 (some .boolean), Cond.methodLink RX4 190 yX4_dueFor, Cond.instanceMethod yX4_dueFor, Cond.selects RX4 yX4_dueFor yX4_dueFor, Cond.code yX4_dueFor cX4_dueFor 6 (some .int), Cond.fieldLink RX4 127 "GhostInn$Room" "least" "I", Cond.methodLink RX4 282 Lib.Math.max.name, Cond.static Lib.Math.max.name, Cond.initialized "java/lang/Math", Cond.code Lib.Math.max.name Lib.Math.max.code 2 (some .int)]
def wsX4_backTonight : List Cond := .code yX4_backTonight cX4_backTonight 5 (some .int) :: ((wsX4_backTonight_r1 ++ (wsX4_backTonight_r2 ++ (wsX4_backTonight_r3 ++ wsX4_backTonight_r4))) ++ wsX40 ++ wsJx4a65c0 ++ wsX10 ++ wsX20 ++ wsX00)
def wsX4_scares_r1 : List Cond := [Cond.classLink RX4 62 "java/lang/IndexOutOfBoundsException", Cond.initialized "java/lang/IndexOutOfBoundsException", Cond.methodLink RX4 102 yX4_isGhost, Cond.instanceMethod yX4_isGhost, Cond.selects RX4 yX4_isGhost yX4_isGhost, Cond.initialized RX4, Cond.code yX4_isGhost cX4_isGhost 2 (some .boolean), Cond.fieldLink RX4 16 "GhostInn" "ghosts" "Ljava/util/ArrayList;", Cond.methodLink RX4 40 yJx4a65c_size_8abf5, Cond.instanceMethod yJx4a65c_size_8abf5, Cond.selects RJx4a65c yJx4a65c_size_8abf5 yJx4a65c_size_8abf5, Cond.initialized RJx4a65c, Cond.code yJx4a65c_size_8abf5 cJx4a65c_size_8abf5 1 (some .int), Cond.fieldLink RJx4a65c 48 "java/util/ArrayList" "size" "I", Cond.methodLink RX4 231 yX4_backTonight, Cond.instanceMethod yX4_backTonight, Cond.selects RX4 yX4_backTonight yX4_backTonight, Cond.code yX4_backTonight cX4_backTonight 5 (some .int), Cond.fieldLink RX4 10 "GhostInn" "rooms" "Ljava/util/ArrayList;", Cond.fieldLink RX4 19 "GhostInn" "guests" "Ljava/util/ArrayList;", Cond.classLink RX4 145 "GhostInn$Guest", Cond.methodLink RX4 187 yX4_winnerOf, Cond.instanceMethod yX4_winnerOf, Cond.selects RX4 yX4_winnerOf yX4_winnerOf]
def wsX4_scares_r2 : List Cond := [Cond.code yX4_winnerOf cX4_winnerOf 6 (some .int), Cond.fieldLink RX4 176 "GhostInn$Guest" "bidPrice" "I", Cond.methodLink RX4 69 yJx4a65c_get_915e3, Cond.instanceMethod yJx4a65c_get_915e3, Cond.selects RJx4a65c yJx4a65c_get_915e3 yJx4a65c_get_915e3, Cond.code yJx4a65c_get_915e3 cJx4a65c_get_915e3 2 (some (.object "java/lang/Object")), Cond.methodLink RJx4a65c 118 yJ15_checkIndex_7cf53, Cond.static yJ15_checkIndex_7cf53, Cond.initialized RJ15, Cond.code yJ15_checkIndex_7cf53 cJ15_checkIndex_7cf53 2 (some .int), Cond.methodLink RJ15 105 yJ3_checkIndex_8e157, Cond.static yJ3_checkIndex_8e157, Cond.initialized RJ3, Cond.code yJ3_checkIndex_8e157 cJ3_checkIndex_8e157 3 (some .int), Cond.methodLink RJx4a65c 123 yJx4a65c_elementData_915e3, Cond.instanceMethod yJx4a65c_elementData_915e3, Cond.selects RJx4a65c yJx4a65c_elementData_915e3 yJx4a65c_elementData_915e3, Cond.code yJx4a65c_elementData_915e3 cJx4a65c_elementData_915e3 2 (some (.object "java/lang/Object")), Cond.fieldLink RJx4a65c 9 "java/util/ArrayList" "elementData" "[Ljava/lang/Object;", Cond.methodLink RX4 278 yX4_countsFor, Cond.instanceMethod yX4_countsFor, Cond.selects RX4 yX4_countsFor yX4_countsFor, Cond.code yX4_countsFor cX4_countsFor 3 (some .boolean), Cond.fieldLink RX4 163 "GhostInn$Guest" "bidRoom" "I"]
def wsX4_scares_r3 : List Cond := [Cond.classLink RX4 49 "GhostInn$Room", Cond.methodLink RX4 58 yX4_isRoom, Cond.instanceMethod yX4_isRoom, Cond.selects RX4 yX4_isRoom yX4_isRoom, Cond.code yX4_isRoom cX4_isRoom 2 (some .boolean), Cond.methodLink RX4 159 yX1_couldBidFor, Cond.instanceMethod yX1_couldBidFor, Cond.selects RX1 yX1_couldBidFor yX1_couldBidFor, Cond.initialized RX1, Cond.code yX1_couldBidFor cX1_couldBidFor 2 (some .boolean), Cond.fieldLink RX1 15 "GhostInn$Guest" "coins" "I", Cond.fieldLink RX1 24 "GhostInn$Guest" "bidPrice" "I", Cond.fieldLink RX1 27 "GhostInn$Room" "beds" "I", Cond.fieldLink RX1 18 "GhostInn$Guest" "beds" "I", Cond.fieldLink RX1 30 "GhostInn$Room" "least" "I", Cond.methodLink RX4 148 yX4_isGuest, Cond.instanceMethod yX4_isGuest, Cond.selects RX4 yX4_isGuest yX4_isGuest, Cond.code yX4_isGuest cX4_isGuest 2 (some .boolean), Cond.methodLink RX4 113 yX4_hauntingOfNight, Cond.instanceMethod yX4_hauntingOfNight, Cond.selects RX4 yX4_hauntingOfNight yX4_hauntingOfNight, Cond.code yX4_hauntingOfNight cX4_hauntingOfNight 5 (some .int), Cond.methodLink RX4 117 yX4_hauntingInHour]
def wsX4_scares_r4 : List Cond := [Cond.instanceMethod yX4_hauntingInHour, Cond.selects RX4 yX4_hauntingInHour yX4_hauntingInHour, Cond.code yX4_hauntingInHour cX4_hauntingInHour 7 (some .int), Cond.classLink RX4 93 "GhostInn$Ghost", Cond.fieldLink RX4 275 "GhostInn$Ghost" "fright" "I", Cond.methodLink RX4 109 yX0_placeIn, Cond.instanceMethod yX0_placeIn, Cond.selects RX0 yX0_placeIn yX0_placeIn, Cond.initialized RX0, Cond.code yX0_placeIn cX0_placeIn 2 (some .int), Cond.fieldLink RX0 9 "GhostInn$Ghost" "places" "[I", Cond.methodLink RX4 216 yX1_isUpsetBy, Cond.instanceMethod yX1_isUpsetBy, Cond.selects RX1 yX1_isUpsetBy yX1_isUpsetBy, Cond.code yX1_isUpsetBy cX1_isUpsetBy 3 (some .boolean), Cond.fieldLink RX1 21 "GhostInn$Guest" "nerve" "I", Cond.methodLink RX1 33 yX1_isFrightenedBy, Cond.instanceMethod yX1_isFrightenedBy, Cond.selects RX1 yX1_isFrightenedBy yX1_isFrightenedBy, Cond.code yX1_isFrightenedBy cX1_isFrightenedBy 2 (some .boolean), Cond.methodLink RX4 190 yX4_dueFor, Cond.instanceMethod yX4_dueFor, Cond.selects RX4 yX4_dueFor yX4_dueFor, Cond.code yX4_dueFor cX4_dueFor 6 (some .int)]
def wsX4_scares_r5 : List Cond := [Cond.fieldLink RX4 127 "GhostInn$Room" "least" "I", Cond.methodLink RX4 282 Lib.Math.max.name, Cond.static Lib.Math.max.name, Cond.initialized "java/lang/Math", Cond.code Lib.Math.max.name Lib.Math.max.code 2 (some .int)]
def wsX4_scares : List Cond := .code yX4_scares cX4_scares 2 (some .int) :: ((wsX4_scares_r1 ++ (wsX4_scares_r2 ++ (wsX4_scares_r3 ++ (wsX4_scares_r4 ++ wsX4_scares_r5)))) ++ wsX40 ++ wsJx4a65c0 ++ wsX10 ++ wsX20 ++ wsX00 ++ (vx_atS RX4 66 "java/lang/IndexOutOfBoundsException" ["java/lang/RuntimeException", "java/lang/Exception"]).filter goodWord)
def wsX4_mean_r1 : List Cond := [Cond.fieldLink RX4 10 "GhostInn" "rooms" "Ljava/util/ArrayList;", Cond.classLink RX4 49 "GhostInn$Room", Cond.fieldLink RX4 133 "GhostInn$Room" "nightsLet" "I", Cond.fieldLink RX4 204 "GhostInn" "coins" "I", Cond.methodLink RX4 40 yJx4a65c_size_8abf5, Cond.instanceMethod yJx4a65c_size_8abf5, Cond.selects RJx4a65c yJx4a65c_size_8abf5 yJx4a65c_size_8abf5, Cond.initialized RJx4a65c, Cond.code yJx4a65c_size_8abf5 cJx4a65c_size_8abf5 1 (some .int), Cond.fieldLink RJx4a65c 48 "java/util/ArrayList" "size" "I", Cond.methodLink RX4 69 yJx4a65c_get_915e3, Cond.instanceMethod yJx4a65c_get_915e3, Cond.selects RJx4a65c yJx4a65c_get_915e3 yJx4a65c_get_915e3, Cond.code yJx4a65c_get_915e3 cJx4a65c_get_915e3 2 (some (.object "java/lang/Object")), Cond.methodLink RJx4a65c 118 yJ15_checkIndex_7cf53, Cond.static yJ15_checkIndex_7cf53, Cond.initialized RJ15, Cond.code yJ15_checkIndex_7cf53 cJ15_checkIndex_7cf53 2 (some .int), Cond.methodLink RJ15 105 yJ3_checkIndex_8e157, Cond.static yJ3_checkIndex_8e157, Cond.initialized RJ3, Cond.code yJ3_checkIndex_8e157 cJ3_checkIndex_8e157 3 (some .int), Cond.methodLink RJx4a65c 123 yJx4a65c_elementData_915e3, Cond.instanceMethod yJx4a65c_elementData_915e3]
def wsX4_mean_r2 : List Cond := [Cond.selects RJx4a65c yJx4a65c_elementData_915e3 yJx4a65c_elementData_915e3, Cond.code yJx4a65c_elementData_915e3 cJx4a65c_elementData_915e3 2 (some (.object "java/lang/Object")), Cond.fieldLink RJx4a65c 9 "java/util/ArrayList" "elementData" "[Ljava/lang/Object;"]
def wsX4_mean : List Cond := .code yX4_mean cX4_mean 3 (some .double) :: ((wsX4_mean_r1 ++ wsX4_mean_r2) ++ wsX40 ++ wsX20 ++ wsJx4a65c0)
def wsX4_digestRoom_r1 : List Cond := [Cond.constantLong RX4 236 (31), Cond.methodLink RX4 251 yX4_room, Cond.instanceMethod yX4_room, Cond.selects RX4 yX4_room yX4_room, Cond.initialized RX4, Cond.code yX4_room cX4_room 4 (some .int), Cond.classLink RX4 62 "java/lang/IndexOutOfBoundsException", Cond.initialized "java/lang/IndexOutOfBoundsException", Cond.fieldLink RX4 10 "GhostInn" "rooms" "Ljava/util/ArrayList;", Cond.classLink RX4 49 "GhostInn$Room", Cond.fieldLink RX4 121 "GhostInn$Room" "beds" "I", Cond.fieldLink RX4 124 "GhostInn$Room" "comfort" "I", Cond.fieldLink RX4 127 "GhostInn$Room" "least" "I", Cond.fieldLink RX4 133 "GhostInn$Room" "nightsLet" "I", Cond.fieldLink RX4 136 "GhostInn$Room" "earned" "I", Cond.methodLink RX4 58 yX4_isRoom, Cond.instanceMethod yX4_isRoom, Cond.selects RX4 yX4_isRoom yX4_isRoom, Cond.code yX4_isRoom cX4_isRoom 2 (some .boolean), Cond.methodLink RX4 40 yJx4a65c_size_8abf5, Cond.instanceMethod yJx4a65c_size_8abf5, Cond.selects RJx4a65c yJx4a65c_size_8abf5 yJx4a65c_size_8abf5, Cond.initialized RJx4a65c, Cond.code yJx4a65c_size_8abf5 cJx4a65c_size_8abf5 1 (some .int)]
def wsX4_digestRoom_r2 : List Cond := [Cond.fieldLink RJx4a65c 48 "java/util/ArrayList" "size" "I", Cond.methodLink RX4 69 yJx4a65c_get_915e3, Cond.instanceMethod yJx4a65c_get_915e3, Cond.selects RJx4a65c yJx4a65c_get_915e3 yJx4a65c_get_915e3, Cond.code yJx4a65c_get_915e3 cJx4a65c_get_915e3 2 (some (.object "java/lang/Object")), Cond.methodLink RJx4a65c 118 yJ15_checkIndex_7cf53, Cond.static yJ15_checkIndex_7cf53, Cond.initialized RJ15, Cond.code yJ15_checkIndex_7cf53 cJ15_checkIndex_7cf53 2 (some .int), Cond.methodLink RJ15 105 yJ3_checkIndex_8e157, Cond.static yJ3_checkIndex_8e157, Cond.initialized RJ3, Cond.code yJ3_checkIndex_8e157 cJ3_checkIndex_8e157 3 (some .int), Cond.methodLink RJx4a65c 123 yJx4a65c_elementData_915e3, Cond.instanceMethod yJx4a65c_elementData_915e3, Cond.selects RJx4a65c yJx4a65c_elementData_915e3 yJx4a65c_elementData_915e3, Cond.code yJx4a65c_elementData_915e3 cJx4a65c_elementData_915e3 2 (some (.object "java/lang/Object")), Cond.fieldLink RJx4a65c 9 "java/util/ArrayList" "elementData" "[Ljava/lang/Object;", Cond.methodLink RX4 130 yX2_doorsThere, Cond.instanceMethod yX2_doorsThere, Cond.selects RX2 yX2_doorsThere yX2_doorsThere, Cond.initialized RX2, Cond.code yX2_doorsThere cX2_doorsThere 1 (some .int), Cond.fieldLink RX2 19 "GhostInn$Room" "doorBits" "I"]
def wsX4_digestRoom_r3 : List Cond := [Cond.methodLink RX2 22 yJ6_bitCount_0f7a4, Cond.static yJ6_bitCount_0f7a4, Cond.initialized RJ6, Cond.code yJ6_bitCount_0f7a4 cJ6_bitCount_0f7a4 1 (some .int), Cond.constant RJ6 265 (1431655765), Cond.constant RJ6 266 (858993459), Cond.constant RJ6 267 (252645135), Cond.methodLink RX4 254 yX4_wins, Cond.instanceMethod yX4_wins, Cond.selects RX4 yX4_wins yX4_wins, Cond.code yX4_wins cX4_wins 3 (some .int), Cond.methodLink RX4 187 yX4_winnerOf, Cond.instanceMethod yX4_winnerOf, Cond.selects RX4 yX4_winnerOf yX4_winnerOf, Cond.code yX4_winnerOf cX4_winnerOf 6 (some .int), Cond.fieldLink RX4 19 "GhostInn" "guests" "Ljava/util/ArrayList;", Cond.classLink RX4 145 "GhostInn$Guest", Cond.fieldLink RX4 176 "GhostInn$Guest" "bidPrice" "I", Cond.methodLink RX4 278 yX4_countsFor, Cond.instanceMethod yX4_countsFor, Cond.selects RX4 yX4_countsFor yX4_countsFor, Cond.code yX4_countsFor cX4_countsFor 3 (some .boolean), Cond.fieldLink RX4 163 "GhostInn$Guest" "bidRoom" "I", Cond.methodLink RX4 159 yX1_couldBidFor]
def wsX4_digestRoom_r4 : List Cond := [Cond.instanceMethod yX1_couldBidFor, Cond.selects RX1 yX1_couldBidFor yX1_couldBidFor, Cond.initialized RX1, Cond.code yX1_couldBidFor cX1_couldBidFor 2 (some .boolean), Cond.fieldLink RX1 15 "GhostInn$Guest" "coins" "I", Cond.fieldLink RX1 24 "GhostInn$Guest" "bidPrice" "I", Cond.fieldLink RX1 27 "GhostInn$Room" "beds" "I", Cond.fieldLink RX1 18 "GhostInn$Guest" "beds" "I", Cond.fieldLink RX1 30 "GhostInn$Room" "least" "I", Cond.methodLink RX4 190 yX4_dueFor, Cond.instanceMethod yX4_dueFor, Cond.selects RX4 yX4_dueFor yX4_dueFor, Cond.code yX4_dueFor cX4_dueFor 6 (some .int), Cond.methodLink RX4 282 Lib.Math.max.name, Cond.static Lib.Math.max.name, Cond.initialized "java/lang/Math", Cond.code Lib.Math.max.name Lib.Math.max.code 2 (some .int), Cond.methodLink RX4 193 yX4_bidsThatCount, Cond.instanceMethod yX4_bidsThatCount, Cond.selects RX4 yX4_bidsThatCount yX4_bidsThatCount, Cond.code yX4_bidsThatCount cX4_bidsThatCount 4 (some .int), Cond.methodLink RX4 257 yX4_haunting, Cond.instanceMethod yX4_haunting, Cond.selects RX4 yX4_haunting yX4_haunting]
def wsX4_digestRoom_r5 : List Cond := [Cond.code yX4_haunting cX4_haunting 3 (some .int), Cond.methodLink RX4 29 yX4_within, Cond.static yX4_within, Cond.code yX4_within cX4_within 3 (some .boolean), Cond.methodLink RX4 113 yX4_hauntingOfNight, Cond.instanceMethod yX4_hauntingOfNight, Cond.selects RX4 yX4_hauntingOfNight yX4_hauntingOfNight, Cond.code yX4_hauntingOfNight cX4_hauntingOfNight 5 (some .int), Cond.methodLink RX4 117 yX4_hauntingInHour, Cond.instanceMethod yX4_hauntingInHour, Cond.selects RX4 yX4_hauntingInHour yX4_hauntingInHour, Cond.code yX4_hauntingInHour cX4_hauntingInHour 7 (some .int), Cond.fieldLink RX4 16 "GhostInn" "ghosts" "Ljava/util/ArrayList;", Cond.classLink RX4 93 "GhostInn$Ghost", Cond.fieldLink RX4 275 "GhostInn$Ghost" "fright" "I", Cond.methodLink RX4 109 yX0_placeIn, Cond.instanceMethod yX0_placeIn, Cond.selects RX0 yX0_placeIn yX0_placeIn, Cond.initialized RX0, Cond.code yX0_placeIn cX0_placeIn 2 (some .int), Cond.fieldLink RX0 9 "GhostInn$Ghost" "places" "[I"]
def wsX4_digestRoom : List Cond := .code yX4_digestRoom cX4_digestRoom 7 (some .long) :: ((wsX4_digestRoom_r1 ++ (wsX4_digestRoom_r2 ++ (wsX4_digestRoom_r3 ++ (wsX4_digestRoom_r4 ++ wsX4_digestRoom_r5)))) ++ wsX40 ++ wsX20 ++ wsJx4a65c0 ++ wsX10 ++ wsX00 ++ (vx_atS RX4 66 "java/lang/IndexOutOfBoundsException" ["java/lang/RuntimeException", "java/lang/Exception"]).filter goodWord)
def wsX4_digest_r1 : List Cond := [Cond.constantLong RX4 234 (773), Cond.constantLong RX4 236 (31), Cond.fieldLink RX4 10 "GhostInn" "rooms" "Ljava/util/ArrayList;", Cond.fieldLink RX4 16 "GhostInn" "ghosts" "Ljava/util/ArrayList;", Cond.fieldLink RX4 19 "GhostInn" "guests" "Ljava/util/ArrayList;", Cond.methodLink RX4 238 yX4_count, Cond.instanceMethod yX4_count, Cond.selects RX4 yX4_count yX4_count, Cond.initialized RX4, Cond.code yX4_count cX4_count 2 (some .int), Cond.classLink RX4 62 "java/lang/IndexOutOfBoundsException", Cond.initialized "java/lang/IndexOutOfBoundsException", Cond.fieldLink RX4 201 "GhostInn" "nightsGone" "I", Cond.fieldLink RX4 76 "GhostInn" "doors" "I", Cond.fieldLink RX4 204 "GhostInn" "coins" "I", Cond.fieldLink RX4 208 "GhostInn" "givenBack" "I", Cond.methodLink RX4 40 yJx4a65c_size_8abf5, Cond.instanceMethod yJx4a65c_size_8abf5, Cond.selects RJx4a65c yJx4a65c_size_8abf5 yJx4a65c_size_8abf5, Cond.initialized RJx4a65c, Cond.code yJx4a65c_size_8abf5 cJx4a65c_size_8abf5 1 (some .int), Cond.fieldLink RJx4a65c 48 "java/util/ArrayList" "size" "I", Cond.methodLink RX4 205 yX4_bidsWritten, Cond.instanceMethod yX4_bidsWritten]
def wsX4_digest_r2 : List Cond := [Cond.selects RX4 yX4_bidsWritten yX4_bidsWritten, Cond.code yX4_bidsWritten cX4_bidsWritten 3 (some .int), Cond.classLink RX4 145 "GhostInn$Guest", Cond.methodLink RX4 69 yJx4a65c_get_915e3, Cond.instanceMethod yJx4a65c_get_915e3, Cond.selects RJx4a65c yJx4a65c_get_915e3 yJx4a65c_get_915e3, Cond.code yJx4a65c_get_915e3 cJx4a65c_get_915e3 2 (some (.object "java/lang/Object")), Cond.methodLink RJx4a65c 118 yJ15_checkIndex_7cf53, Cond.static yJ15_checkIndex_7cf53, Cond.initialized RJ15, Cond.code yJ15_checkIndex_7cf53 cJ15_checkIndex_7cf53 2 (some .int), Cond.methodLink RJ15 105 yJ3_checkIndex_8e157, Cond.static yJ3_checkIndex_8e157, Cond.initialized RJ3, Cond.code yJ3_checkIndex_8e157 cJ3_checkIndex_8e157 3 (some .int), Cond.methodLink RJx4a65c 123 yJx4a65c_elementData_915e3, Cond.instanceMethod yJx4a65c_elementData_915e3, Cond.selects RJx4a65c yJx4a65c_elementData_915e3 yJx4a65c_elementData_915e3, Cond.code yJx4a65c_elementData_915e3 cJx4a65c_elementData_915e3 2 (some (.object "java/lang/Object")), Cond.fieldLink RJx4a65c 9 "java/util/ArrayList" "elementData" "[Ljava/lang/Object;", Cond.methodLink RX4 287 yX1_hasBid, Cond.instanceMethod yX1_hasBid, Cond.selects RX1 yX1_hasBid yX1_hasBid, Cond.initialized RX1]
def wsX4_digest_r3 : List Cond := [Cond.code yX1_hasBid cX1_hasBid 1 (some .boolean), Cond.fieldLink RX1 9 "GhostInn$Guest" "bidRoom" "I", Cond.methodLink RX4 211 yX4_roomsToLet, Cond.instanceMethod yX4_roomsToLet, Cond.selects RX4 yX4_roomsToLet yX4_roomsToLet, Cond.code yX4_roomsToLet cX4_roomsToLet 3 (some .int), Cond.methodLink RX4 187 yX4_winnerOf, Cond.instanceMethod yX4_winnerOf, Cond.selects RX4 yX4_winnerOf yX4_winnerOf, Cond.code yX4_winnerOf cX4_winnerOf 6 (some .int), Cond.fieldLink RX4 176 "GhostInn$Guest" "bidPrice" "I", Cond.methodLink RX4 278 yX4_countsFor, Cond.instanceMethod yX4_countsFor, Cond.selects RX4 yX4_countsFor yX4_countsFor, Cond.code yX4_countsFor cX4_countsFor 3 (some .boolean), Cond.fieldLink RX4 163 "GhostInn$Guest" "bidRoom" "I", Cond.classLink RX4 49 "GhostInn$Room", Cond.methodLink RX4 58 yX4_isRoom, Cond.instanceMethod yX4_isRoom, Cond.selects RX4 yX4_isRoom yX4_isRoom, Cond.code yX4_isRoom cX4_isRoom 2 (some .boolean), Cond.methodLink RX4 159 yX1_couldBidFor, Cond.instanceMethod yX1_couldBidFor, Cond.selects RX1 yX1_couldBidFor yX1_couldBidFor]
def wsX4_digest_r4 : List Cond := [Cond.code yX1_couldBidFor cX1_couldBidFor 2 (some .boolean), Cond.fieldLink RX1 15 "GhostInn$Guest" "coins" "I", Cond.fieldLink RX1 24 "GhostInn$Guest" "bidPrice" "I", Cond.fieldLink RX1 27 "GhostInn$Room" "beds" "I", Cond.fieldLink RX1 18 "GhostInn$Guest" "beds" "I", Cond.fieldLink RX1 30 "GhostInn$Room" "least" "I", Cond.methodLink RX4 241 yX4_digestRoom, Cond.instanceMethod yX4_digestRoom, Cond.selects RX4 yX4_digestRoom yX4_digestRoom, Cond.code yX4_digestRoom cX4_digestRoom 7 (some .long), Cond.methodLink RX4 251 yX4_room, Cond.instanceMethod yX4_room, Cond.selects RX4 yX4_room yX4_room, Cond.code yX4_room cX4_room 4 (some .int), Cond.fieldLink RX4 121 "GhostInn$Room" "beds" "I", Cond.fieldLink RX4 124 "GhostInn$Room" "comfort" "I", Cond.fieldLink RX4 127 "GhostInn$Room" "least" "I", Cond.fieldLink RX4 133 "GhostInn$Room" "nightsLet" "I", Cond.fieldLink RX4 136 "GhostInn$Room" "earned" "I", Cond.methodLink RX4 130 yX2_doorsThere, Cond.instanceMethod yX2_doorsThere, Cond.selects RX2 yX2_doorsThere yX2_doorsThere, Cond.initialized RX2, Cond.code yX2_doorsThere cX2_doorsThere 1 (some .int)]
def wsX4_digest_r5 : List Cond := [Cond.fieldLink RX2 19 "GhostInn$Room" "doorBits" "I", Cond.methodLink RX2 22 yJ6_bitCount_0f7a4, Cond.static yJ6_bitCount_0f7a4, Cond.initialized RJ6, Cond.code yJ6_bitCount_0f7a4 cJ6_bitCount_0f7a4 1 (some .int), Cond.constant RJ6 265 (1431655765), Cond.constant RJ6 266 (858993459), Cond.constant RJ6 267 (252645135), Cond.methodLink RX4 254 yX4_wins, Cond.instanceMethod yX4_wins, Cond.selects RX4 yX4_wins yX4_wins, Cond.code yX4_wins cX4_wins 3 (some .int), Cond.methodLink RX4 190 yX4_dueFor, Cond.instanceMethod yX4_dueFor, Cond.selects RX4 yX4_dueFor yX4_dueFor, Cond.code yX4_dueFor cX4_dueFor 6 (some .int), Cond.methodLink RX4 282 Lib.Math.max.name, Cond.static Lib.Math.max.name, Cond.initialized "java/lang/Math", Cond.code Lib.Math.max.name Lib.Math.max.code 2 (some .int), Cond.methodLink RX4 193 yX4_bidsThatCount, Cond.instanceMethod yX4_bidsThatCount, Cond.selects RX4 yX4_bidsThatCount yX4_bidsThatCount, Cond.code yX4_bidsThatCount cX4_bidsThatCount 4 (some .int)]
def wsX4_digest_r6 : List Cond := [Cond.methodLink RX4 257 yX4_haunting, Cond.instanceMethod yX4_haunting, Cond.selects RX4 yX4_haunting yX4_haunting, Cond.code yX4_haunting cX4_haunting 3 (some .int), Cond.methodLink RX4 29 yX4_within, Cond.static yX4_within, Cond.code yX4_within cX4_within 3 (some .boolean), Cond.methodLink RX4 113 yX4_hauntingOfNight, Cond.instanceMethod yX4_hauntingOfNight, Cond.selects RX4 yX4_hauntingOfNight yX4_hauntingOfNight, Cond.code yX4_hauntingOfNight cX4_hauntingOfNight 5 (some .int), Cond.methodLink RX4 117 yX4_hauntingInHour, Cond.instanceMethod yX4_hauntingInHour, Cond.selects RX4 yX4_hauntingInHour yX4_hauntingInHour, Cond.code yX4_hauntingInHour cX4_hauntingInHour 7 (some .int), Cond.classLink RX4 93 "GhostInn$Ghost", Cond.fieldLink RX4 275 "GhostInn$Ghost" "fright" "I", Cond.methodLink RX4 109 yX0_placeIn, Cond.instanceMethod yX0_placeIn, Cond.selects RX0 yX0_placeIn yX0_placeIn, Cond.initialized RX0, Cond.code yX0_placeIn cX0_placeIn 2 (some .int), Cond.fieldLink RX0 9 "GhostInn$Ghost" "places" "[I", Cond.methodLink RX4 245 yX4_at]
def wsX4_digest_r7 : List Cond := [Cond.instanceMethod yX4_at, Cond.selects RX4 yX4_at yX4_at, Cond.code yX4_at cX4_at 3 (some .int), Cond.methodLink RX4 102 yX4_isGhost, Cond.instanceMethod yX4_isGhost, Cond.selects RX4 yX4_isGhost yX4_isGhost, Cond.code yX4_isGhost cX4_isGhost 2 (some .boolean), Cond.methodLink RX4 248 yX4_guest, Cond.instanceMethod yX4_guest, Cond.selects RX4 yX4_guest yX4_guest, Cond.code yX4_guest cX4_guest 4 (some .int), Cond.fieldLink RX4 169 "GhostInn$Guest" "coins" "I", Cond.fieldLink RX4 172 "GhostInn$Guest" "beds" "I", Cond.fieldLink RX4 173 "GhostInn$Guest" "nerve" "I", Cond.fieldLink RX4 179 "GhostInn$Guest" "nightsStayed" "I", Cond.fieldLink RX4 182 "GhostInn$Guest" "nightsUpset" "I", Cond.methodLink RX4 148 yX4_isGuest, Cond.instanceMethod yX4_isGuest, Cond.selects RX4 yX4_isGuest yX4_isGuest, Cond.code yX4_isGuest cX4_isGuest 2 (some .boolean)]
def wsX4_digest : List Cond := .code yX4_digest cX4_digest 5 (some .long) :: ((wsX4_digest_r1 ++ (wsX4_digest_r2 ++ (wsX4_digest_r3 ++ (wsX4_digest_r4 ++ (wsX4_digest_r5 ++ (wsX4_digest_r6 ++ wsX4_digest_r7)))))) ++ wsX40 ++ wsJx4a65c0 ++ wsX10 ++ wsX20 ++ wsX00 ++ (vx_atS RX4 66 "java/lang/IndexOutOfBoundsException" ["java/lang/RuntimeException", "java/lang/Exception"]).filter goodWord)
def wsX5_init : List Cond := .code yX5_init cX5_init 1 none :: ([.methodLink RX5 1 objectInit, .instanceMethod objectInit, .code objectInit ⟨#[0xb1]⟩ 1 none, .arrayClass .int, .fieldLink RX5 9 "GhostInnModel" "house" "[I", .fieldLink RX5 13 "GhostInnModel" "joined" "[I", .fieldLink RX5 16 "GhostInnModel" "spooks" "[I", .fieldLink RX5 19 "GhostInnModel" "people" "[I", .fieldLink RX5 22 "GhostInnModel" "numbers" "[I", .fieldLink RX5 25 "GhostInnModel" "taken" "[I"] ++ wsX50)
def wsX5_thrown : List Cond := .code yX5_thrown cX5_thrown 1 (some .int) :: ([.fieldLink RX5 28 "GhostInnModel" "thrown" "I"] ++ wsX50)
def wsX5_fail : List Cond := .code yX5_fail cX5_fail 2 (some .int) :: ([.fieldLink RX5 28 "GhostInnModel" "thrown" "I"] ++ wsX50)
def wsX5_isIn : List Cond := .code yX5_isIn cX5_isIn 3 (some .boolean) :: ([])
def wsX5_isRoom : List Cond := .code yX5_isRoom cX5_isRoom 2 (some .boolean) :: ([.fieldLink RX5 32 "GhostInnModel" "rooms" "I", .methodLink RX5 35 yX5_isIn, .static yX5_isIn, .initialized RX5, .code yX5_isIn cX5_isIn 3 (some .boolean)] ++ wsX50)
def wsX5_isGhost : List Cond := .code yX5_isGhost cX5_isGhost 2 (some .boolean) :: ([.fieldLink RX5 39 "GhostInnModel" "ghosts" "I", .methodLink RX5 35 yX5_isIn, .static yX5_isIn, .initialized RX5, .code yX5_isIn cX5_isIn 3 (some .boolean)] ++ wsX50)
def wsX5_isGuest : List Cond := .code yX5_isGuest cX5_isGuest 2 (some .boolean) :: ([.fieldLink RX5 42 "GhostInnModel" "guests" "I", .methodLink RX5 35 yX5_isIn, .static yX5_isIn, .initialized RX5, .code yX5_isIn cX5_isIn 3 (some .boolean)] ++ wsX50)
def wsX5_ro : List Cond := .code yX5_ro cX5_ro 3 (some .int) :: ([.fieldLink RX5 9 "GhostInnModel" "house" "[I"] ++ wsX50)
def wsX5_addRo : List Cond := .code yX5_addRo cX5_addRo 4 none :: ([.fieldLink RX5 9 "GhostInnModel" "house" "[I"] ++ wsX50)
def wsX5_sp : List Cond := .code yX5_sp cX5_sp 3 (some .int) :: ([.fieldLink RX5 16 "GhostInnModel" "spooks" "[I"] ++ wsX50)
def wsX5_pe : List Cond := .code yX5_pe cX5_pe 3 (some .int) :: ([.fieldLink RX5 19 "GhostInnModel" "people" "[I"] ++ wsX50)
def wsX5_set : List Cond := .code yX5_set cX5_set 4 none :: ([.fieldLink RX5 19 "GhostInnModel" "people" "[I"] ++ wsX50)
def wsX5_furnish : List Cond := .code yX5_furnish cX5_furnish 5 (some .int) :: ([.fieldLink RX5 28 "GhostInnModel" "thrown" "I", .fieldLink RX5 32 "GhostInnModel" "rooms" "I", .arrayClass .int, .fieldLink RX5 9 "GhostInnModel" "house" "[I", .methodLink RX5 49 arraycopyName, .native arraycopyName, .static arraycopyName, .initialized "java/lang/System", .methodLink RX5 35 yX5_isIn, .static yX5_isIn, .initialized RX5, .code yX5_isIn cX5_isIn 3 (some .boolean), .methodLink RX5 45 yX5_fail, .instanceMethod yX5_fail, .selects RX5 yX5_fail yX5_fail, .code yX5_fail cX5_fail 2 (some .int)] ++ wsX50)
def wsX5_door : List Cond := .code yX5_door cX5_door 3 (some .int) :: ([.fieldLink RX5 28 "GhostInnModel" "thrown" "I", .fieldLink RX5 13 "GhostInnModel" "joined" "[I", .fieldLink RX5 59 "GhostInnModel" "doors" "I", .methodLink RX5 55 yX5_isRoom, .instanceMethod yX5_isRoom, .selects RX5 yX5_isRoom yX5_isRoom, .initialized RX5, .code yX5_isRoom cX5_isRoom 2 (some .boolean), .fieldLink RX5 32 "GhostInnModel" "rooms" "I", .methodLink RX5 35 yX5_isIn, .static yX5_isIn, .code yX5_isIn cX5_isIn 3 (some .boolean), .methodLink RX5 45 yX5_fail, .instanceMethod yX5_fail, .selects RX5 yX5_fail yX5_fail, .code yX5_fail cX5_fail 2 (some .int)] ++ wsX50)
def wsX5_haunt : List Cond := .code yX5_haunt cX5_haunt 6 (some .int) :: ([.fieldLink RX5 28 "GhostInnModel" "thrown" "I", .fieldLink RX5 39 "GhostInnModel" "ghosts" "I", .arrayClass .int, .fieldLink RX5 16 "GhostInnModel" "spooks" "[I", .methodLink RX5 49 arraycopyName, .native arraycopyName, .static arraycopyName, .initialized "java/lang/System", .methodLink RX5 55 yX5_isRoom, .instanceMethod yX5_isRoom, .selects RX5 yX5_isRoom yX5_isRoom, .initialized RX5, .code yX5_isRoom cX5_isRoom 2 (some .boolean), .fieldLink RX5 32 "GhostInnModel" "rooms" "I", .methodLink RX5 35 yX5_isIn, .static yX5_isIn, .code yX5_isIn cX5_isIn 3 (some .boolean), .methodLink RX5 45 yX5_fail, .instanceMethod yX5_fail, .selects RX5 yX5_fail yX5_fail, .code yX5_fail cX5_fail 2 (some .int)] ++ wsX50)
def wsJ6_numberOfTrailingZeros_0f7a4 : List Cond := .code yJ6_numberOfTrailingZeros_0f7a4 cJ6_numberOfTrailingZeros_0f7a4 2 (some .int) :: ([.constant RJ6 264 (65536)])
def wsX5_next : List Cond := .code yX5_next cX5_next 3 (some .int) :: ([.fieldLink RX5 13 "GhostInnModel" "joined" "[I", .methodLink RX5 62 yJ6_numberOfTrailingZeros_0f7a4, .static yJ6_numberOfTrailingZeros_0f7a4, .initialized RJ6, .code yJ6_numberOfTrailingZeros_0f7a4 cJ6_numberOfTrailingZeros_0f7a4 2 (some .int), .constant RJ6 264 (65536)] ++ wsX50)
def wsX5_place : List Cond := .code yX5_place cX5_place 5 (some .int) :: ([.methodLink RX5 67 yX5_sp, .instanceMethod yX5_sp, .selects RX5 yX5_sp yX5_sp, .initialized RX5, .code yX5_sp cX5_sp 3 (some .int), .fieldLink RX5 16 "GhostInnModel" "spooks" "[I", .methodLink RX5 71 yX5_next, .instanceMethod yX5_next, .selects RX5 yX5_next yX5_next, .code yX5_next cX5_next 3 (some .int), .fieldLink RX5 13 "GhostInnModel" "joined" "[I", .methodLink RX5 62 yJ6_numberOfTrailingZeros_0f7a4, .static yJ6_numberOfTrailingZeros_0f7a4, .initialized RJ6, .code yJ6_numberOfTrailingZeros_0f7a4 cJ6_numberOfTrailingZeros_0f7a4 2 (some .int), .constant RJ6 264 (65536)] ++ wsX50)
def wsX5_at_r1 : List Cond := [Cond.fieldLink RX5 28 "GhostInnModel" "thrown" "I", Cond.methodLink RX5 74 yX5_isGhost, Cond.instanceMethod yX5_isGhost, Cond.selects RX5 yX5_isGhost yX5_isGhost, Cond.initialized RX5, Cond.code yX5_isGhost cX5_isGhost 2 (some .boolean), Cond.fieldLink RX5 39 "GhostInnModel" "ghosts" "I", Cond.methodLink RX5 35 yX5_isIn, Cond.static yX5_isIn, Cond.code yX5_isIn cX5_isIn 3 (some .boolean), Cond.methodLink RX5 77 yX5_place, Cond.instanceMethod yX5_place, Cond.selects RX5 yX5_place yX5_place, Cond.code yX5_place cX5_place 5 (some .int), Cond.methodLink RX5 67 yX5_sp, Cond.instanceMethod yX5_sp, Cond.selects RX5 yX5_sp yX5_sp, Cond.code yX5_sp cX5_sp 3 (some .int), Cond.fieldLink RX5 16 "GhostInnModel" "spooks" "[I", Cond.methodLink RX5 71 yX5_next, Cond.instanceMethod yX5_next, Cond.selects RX5 yX5_next yX5_next, Cond.code yX5_next cX5_next 3 (some .int), Cond.fieldLink RX5 13 "GhostInnModel" "joined" "[I"]
def wsX5_at_r2 : List Cond := [Cond.methodLink RX5 62 yJ6_numberOfTrailingZeros_0f7a4, Cond.static yJ6_numberOfTrailingZeros_0f7a4, Cond.initialized RJ6, Cond.code yJ6_numberOfTrailingZeros_0f7a4 cJ6_numberOfTrailingZeros_0f7a4 2 (some .int), Cond.constant RJ6 264 (65536), Cond.methodLink RX5 45 yX5_fail, Cond.instanceMethod yX5_fail, Cond.selects RX5 yX5_fail yX5_fail, Cond.code yX5_fail cX5_fail 2 (some .int)]
def wsX5_at : List Cond := .code yX5_at cX5_at 3 (some .int) :: ((wsX5_at_r1 ++ wsX5_at_r2) ++ wsX50)
def wsX5_haunted : List Cond := .code yX5_haunted cX5_haunted 6 (some .int) :: ([.fieldLink RX5 39 "GhostInnModel" "ghosts" "I", .methodLink RX5 77 yX5_place, .instanceMethod yX5_place, .selects RX5 yX5_place yX5_place, .initialized RX5, .code yX5_place cX5_place 5 (some .int), .methodLink RX5 67 yX5_sp, .instanceMethod yX5_sp, .selects RX5 yX5_sp yX5_sp, .code yX5_sp cX5_sp 3 (some .int), .fieldLink RX5 16 "GhostInnModel" "spooks" "[I", .methodLink RX5 71 yX5_next, .instanceMethod yX5_next, .selects RX5 yX5_next yX5_next, .code yX5_next cX5_next 3 (some .int), .fieldLink RX5 13 "GhostInnModel" "joined" "[I", .methodLink RX5 62 yJ6_numberOfTrailingZeros_0f7a4, .static yJ6_numberOfTrailingZeros_0f7a4, .initialized RJ6, .code yJ6_numberOfTrailingZeros_0f7a4 cJ6_numberOfTrailingZeros_0f7a4 2 (some .int), .constant RJ6 264 (65536)] ++ wsX50)
def wsX5_haunting_r1 : List Cond := [Cond.fieldLink RX5 28 "GhostInnModel" "thrown" "I", Cond.fieldLink RX5 39 "GhostInnModel" "ghosts" "I", Cond.methodLink RX5 55 yX5_isRoom, Cond.instanceMethod yX5_isRoom, Cond.selects RX5 yX5_isRoom yX5_isRoom, Cond.initialized RX5, Cond.code yX5_isRoom cX5_isRoom 2 (some .boolean), Cond.fieldLink RX5 32 "GhostInnModel" "rooms" "I", Cond.methodLink RX5 35 yX5_isIn, Cond.static yX5_isIn, Cond.code yX5_isIn cX5_isIn 3 (some .boolean), Cond.methodLink RX5 45 yX5_fail, Cond.instanceMethod yX5_fail, Cond.selects RX5 yX5_fail yX5_fail, Cond.code yX5_fail cX5_fail 2 (some .int), Cond.methodLink RX5 80 yX5_haunted, Cond.instanceMethod yX5_haunted, Cond.selects RX5 yX5_haunted yX5_haunted, Cond.code yX5_haunted cX5_haunted 6 (some .int), Cond.methodLink RX5 77 yX5_place, Cond.instanceMethod yX5_place, Cond.selects RX5 yX5_place yX5_place, Cond.code yX5_place cX5_place 5 (some .int), Cond.methodLink RX5 67 yX5_sp]
def wsX5_haunting_r2 : List Cond := [Cond.instanceMethod yX5_sp, Cond.selects RX5 yX5_sp yX5_sp, Cond.code yX5_sp cX5_sp 3 (some .int), Cond.fieldLink RX5 16 "GhostInnModel" "spooks" "[I", Cond.methodLink RX5 71 yX5_next, Cond.instanceMethod yX5_next, Cond.selects RX5 yX5_next yX5_next, Cond.code yX5_next cX5_next 3 (some .int), Cond.fieldLink RX5 13 "GhostInnModel" "joined" "[I", Cond.methodLink RX5 62 yJ6_numberOfTrailingZeros_0f7a4, Cond.static yJ6_numberOfTrailingZeros_0f7a4, Cond.initialized RJ6, Cond.code yJ6_numberOfTrailingZeros_0f7a4 cJ6_numberOfTrailingZeros_0f7a4 2 (some .int), Cond.constant RJ6 264 (65536)]
def wsX5_haunting : List Cond := .code yX5_haunting cX5_haunting 5 (some .int) :: ((wsX5_haunting_r1 ++ wsX5_haunting_r2) ++ wsX50)
def wsX5_roomTold : List Cond := .code yX5_roomTold cX5_roomTold 3 (some .int) :: ([.fieldLink RX5 13 "GhostInnModel" "joined" "[I", .methodLink RX5 83 yX5_ro, .instanceMethod yX5_ro, .selects RX5 yX5_ro yX5_ro, .initialized RX5, .code yX5_ro cX5_ro 3 (some .int), .fieldLink RX5 9 "GhostInnModel" "house" "[I", .methodLink RX5 86 yJ6_bitCount_0f7a4, .static yJ6_bitCount_0f7a4, .initialized RJ6, .code yJ6_bitCount_0f7a4 cJ6_bitCount_0f7a4 1 (some .int), .constant RJ6 265 (1431655765), .constant RJ6 266 (858993459), .constant RJ6 267 (252645135)] ++ wsX50)
def wsX5_room_r1 : List Cond := [Cond.fieldLink RX5 28 "GhostInnModel" "thrown" "I", Cond.methodLink RX5 55 yX5_isRoom, Cond.instanceMethod yX5_isRoom, Cond.selects RX5 yX5_isRoom yX5_isRoom, Cond.initialized RX5, Cond.code yX5_isRoom cX5_isRoom 2 (some .boolean), Cond.fieldLink RX5 32 "GhostInnModel" "rooms" "I", Cond.methodLink RX5 35 yX5_isIn, Cond.static yX5_isIn, Cond.code yX5_isIn cX5_isIn 3 (some .boolean), Cond.methodLink RX5 89 yX5_roomTold, Cond.instanceMethod yX5_roomTold, Cond.selects RX5 yX5_roomTold yX5_roomTold, Cond.code yX5_roomTold cX5_roomTold 3 (some .int), Cond.fieldLink RX5 13 "GhostInnModel" "joined" "[I", Cond.methodLink RX5 83 yX5_ro, Cond.instanceMethod yX5_ro, Cond.selects RX5 yX5_ro yX5_ro, Cond.code yX5_ro cX5_ro 3 (some .int), Cond.fieldLink RX5 9 "GhostInnModel" "house" "[I", Cond.methodLink RX5 86 yJ6_bitCount_0f7a4, Cond.static yJ6_bitCount_0f7a4, Cond.initialized RJ6, Cond.code yJ6_bitCount_0f7a4 cJ6_bitCount_0f7a4 1 (some .int)]
def wsX5_room_r2 : List Cond := [Cond.constant RJ6 265 (1431655765), Cond.constant RJ6 266 (858993459), Cond.constant RJ6 267 (252645135), Cond.methodLink RX5 45 yX5_fail, Cond.instanceMethod yX5_fail, Cond.selects RX5 yX5_fail yX5_fail, Cond.code yX5_fail cX5_fail 2 (some .int)]
def wsX5_room : List Cond := .code yX5_room cX5_room 3 (some .int) :: ((wsX5_room_r1 ++ wsX5_room_r2) ++ wsX50)
def wsX5_come : List Cond := .code yX5_come cX5_come 5 (some .int) :: ([.fieldLink RX5 28 "GhostInnModel" "thrown" "I", .fieldLink RX5 42 "GhostInnModel" "guests" "I", .arrayClass .int, .fieldLink RX5 19 "GhostInnModel" "people" "[I", .methodLink RX5 49 arraycopyName, .native arraycopyName, .static arraycopyName, .initialized "java/lang/System", .methodLink RX5 35 yX5_isIn, .static yX5_isIn, .initialized RX5, .code yX5_isIn cX5_isIn 3 (some .boolean), .methodLink RX5 45 yX5_fail, .instanceMethod yX5_fail, .selects RX5 yX5_fail yX5_fail, .code yX5_fail cX5_fail 2 (some .int)] ++ wsX50)
def wsX5_suits : List Cond := .code yX5_suits cX5_suits 3 (some .boolean) :: ([.methodLink RX5 92 yX5_pe, .instanceMethod yX5_pe, .selects RX5 yX5_pe yX5_pe, .initialized RX5, .code yX5_pe cX5_pe 3 (some .int), .fieldLink RX5 19 "GhostInnModel" "people" "[I", .methodLink RX5 83 yX5_ro, .instanceMethod yX5_ro, .selects RX5 yX5_ro yX5_ro, .code yX5_ro cX5_ro 3 (some .int), .fieldLink RX5 9 "GhostInnModel" "house" "[I"] ++ wsX50)
def wsX5_bid_r1 : List Cond := [Cond.fieldLink RX5 28 "GhostInnModel" "thrown" "I", Cond.methodLink RX5 95 yX5_isGuest, Cond.instanceMethod yX5_isGuest, Cond.selects RX5 yX5_isGuest yX5_isGuest, Cond.initialized RX5, Cond.code yX5_isGuest cX5_isGuest 2 (some .boolean), Cond.fieldLink RX5 42 "GhostInnModel" "guests" "I", Cond.methodLink RX5 35 yX5_isIn, Cond.static yX5_isIn, Cond.code yX5_isIn cX5_isIn 3 (some .boolean), Cond.methodLink RX5 55 yX5_isRoom, Cond.instanceMethod yX5_isRoom, Cond.selects RX5 yX5_isRoom yX5_isRoom, Cond.code yX5_isRoom cX5_isRoom 2 (some .boolean), Cond.fieldLink RX5 32 "GhostInnModel" "rooms" "I", Cond.methodLink RX5 98 yX5_set, Cond.instanceMethod yX5_set, Cond.selects RX5 yX5_set yX5_set, Cond.code yX5_set cX5_set 4 none, Cond.fieldLink RX5 19 "GhostInnModel" "people" "[I", Cond.methodLink RX5 102 yX5_suits, Cond.instanceMethod yX5_suits, Cond.selects RX5 yX5_suits yX5_suits, Cond.code yX5_suits cX5_suits 3 (some .boolean)]
def wsX5_bid_r2 : List Cond := [Cond.methodLink RX5 92 yX5_pe, Cond.instanceMethod yX5_pe, Cond.selects RX5 yX5_pe yX5_pe, Cond.code yX5_pe cX5_pe 3 (some .int), Cond.methodLink RX5 83 yX5_ro, Cond.instanceMethod yX5_ro, Cond.selects RX5 yX5_ro yX5_ro, Cond.code yX5_ro cX5_ro 3 (some .int), Cond.fieldLink RX5 9 "GhostInnModel" "house" "[I"]
def wsX5_bid : List Cond := .code yX5_bid cX5_bid 4 (some .boolean) :: ((wsX5_bid_r1 ++ wsX5_bid_r2) ++ wsX50)
def wsX5_withdraw : List Cond := .code yX5_withdraw cX5_withdraw 2 none :: ([.methodLink RX5 98 yX5_set, .instanceMethod yX5_set, .selects RX5 yX5_set yX5_set, .initialized RX5, .code yX5_set cX5_set 4 none, .fieldLink RX5 19 "GhostInnModel" "people" "[I"] ++ wsX50)
def wsX5_leave_r1 : List Cond := [Cond.fieldLink RX5 28 "GhostInnModel" "thrown" "I", Cond.methodLink RX5 95 yX5_isGuest, Cond.instanceMethod yX5_isGuest, Cond.selects RX5 yX5_isGuest yX5_isGuest, Cond.initialized RX5, Cond.code yX5_isGuest cX5_isGuest 2 (some .boolean), Cond.fieldLink RX5 42 "GhostInnModel" "guests" "I", Cond.methodLink RX5 35 yX5_isIn, Cond.static yX5_isIn, Cond.code yX5_isIn cX5_isIn 3 (some .boolean), Cond.methodLink RX5 45 yX5_fail, Cond.instanceMethod yX5_fail, Cond.selects RX5 yX5_fail yX5_fail, Cond.code yX5_fail cX5_fail 2 (some .int), Cond.methodLink RX5 92 yX5_pe, Cond.instanceMethod yX5_pe, Cond.selects RX5 yX5_pe yX5_pe, Cond.code yX5_pe cX5_pe 3 (some .int), Cond.fieldLink RX5 19 "GhostInnModel" "people" "[I", Cond.methodLink RX5 106 yX5_withdraw, Cond.instanceMethod yX5_withdraw, Cond.selects RX5 yX5_withdraw yX5_withdraw, Cond.code yX5_withdraw cX5_withdraw 2 none, Cond.methodLink RX5 98 yX5_set]
def wsX5_leave_r2 : List Cond := [Cond.instanceMethod yX5_set, Cond.selects RX5 yX5_set yX5_set, Cond.code yX5_set cX5_set 4 none]
def wsX5_leave : List Cond := .code yX5_leave cX5_leave 3 (some .int) :: ((wsX5_leave_r1 ++ wsX5_leave_r2) ++ wsX50)
def wsX5_guest : List Cond := .code yX5_guest cX5_guest 3 (some .int) :: ([.fieldLink RX5 28 "GhostInnModel" "thrown" "I", .methodLink RX5 95 yX5_isGuest, .instanceMethod yX5_isGuest, .selects RX5 yX5_isGuest yX5_isGuest, .initialized RX5, .code yX5_isGuest cX5_isGuest 2 (some .boolean), .fieldLink RX5 42 "GhostInnModel" "guests" "I", .methodLink RX5 35 yX5_isIn, .static yX5_isIn, .code yX5_isIn cX5_isIn 3 (some .boolean), .methodLink RX5 92 yX5_pe, .instanceMethod yX5_pe, .selects RX5 yX5_pe yX5_pe, .code yX5_pe cX5_pe 3 (some .int), .fieldLink RX5 19 "GhostInnModel" "people" "[I", .methodLink RX5 45 yX5_fail, .instanceMethod yX5_fail, .selects RX5 yX5_fail yX5_fail, .code yX5_fail cX5_fail 2 (some .int)] ++ wsX50)
def wsX5_counts : List Cond := .code yX5_counts cX5_counts 3 (some .boolean) :: ([.methodLink RX5 92 yX5_pe, .instanceMethod yX5_pe, .selects RX5 yX5_pe yX5_pe, .initialized RX5, .code yX5_pe cX5_pe 3 (some .int), .fieldLink RX5 19 "GhostInnModel" "people" "[I", .methodLink RX5 102 yX5_suits, .instanceMethod yX5_suits, .selects RX5 yX5_suits yX5_suits, .code yX5_suits cX5_suits 3 (some .boolean), .methodLink RX5 83 yX5_ro, .instanceMethod yX5_ro, .selects RX5 yX5_ro yX5_ro, .code yX5_ro cX5_ro 3 (some .int), .fieldLink RX5 9 "GhostInnModel" "house" "[I"] ++ wsX50)
def wsX5_winner : List Cond := .code yX5_winner cX5_winner 4 (some .int) :: ([.fieldLink RX5 42 "GhostInnModel" "guests" "I", .methodLink RX5 110 yX5_counts, .instanceMethod yX5_counts, .selects RX5 yX5_counts yX5_counts, .initialized RX5, .code yX5_counts cX5_counts 3 (some .boolean), .methodLink RX5 92 yX5_pe, .instanceMethod yX5_pe, .selects RX5 yX5_pe yX5_pe, .code yX5_pe cX5_pe 3 (some .int), .fieldLink RX5 19 "GhostInnModel" "people" "[I", .methodLink RX5 102 yX5_suits, .instanceMethod yX5_suits, .selects RX5 yX5_suits yX5_suits, .code yX5_suits cX5_suits 3 (some .boolean), .methodLink RX5 83 yX5_ro, .instanceMethod yX5_ro, .selects RX5 yX5_ro yX5_ro, .code yX5_ro cX5_ro 3 (some .int), .fieldLink RX5 9 "GhostInnModel" "house" "[I"] ++ wsX50)
def wsX5_pays_r1 : List Cond := [Cond.fieldLink RX5 42 "GhostInnModel" "guests" "I", Cond.methodLink RX5 116 Lib.Math.max.name, Cond.static Lib.Math.max.name, Cond.initialized "java/lang/Math", Cond.code Lib.Math.max.name Lib.Math.max.code 2 (some .int), Cond.methodLink RX5 113 yX5_winner, Cond.instanceMethod yX5_winner, Cond.selects RX5 yX5_winner yX5_winner, Cond.initialized RX5, Cond.code yX5_winner cX5_winner 4 (some .int), Cond.methodLink RX5 110 yX5_counts, Cond.instanceMethod yX5_counts, Cond.selects RX5 yX5_counts yX5_counts, Cond.code yX5_counts cX5_counts 3 (some .boolean), Cond.methodLink RX5 92 yX5_pe, Cond.instanceMethod yX5_pe, Cond.selects RX5 yX5_pe yX5_pe, Cond.code yX5_pe cX5_pe 3 (some .int), Cond.fieldLink RX5 19 "GhostInnModel" "people" "[I", Cond.methodLink RX5 102 yX5_suits, Cond.instanceMethod yX5_suits, Cond.selects RX5 yX5_suits yX5_suits, Cond.code yX5_suits cX5_suits 3 (some .boolean), Cond.methodLink RX5 83 yX5_ro]
def wsX5_pays_r2 : List Cond := [Cond.instanceMethod yX5_ro, Cond.selects RX5 yX5_ro yX5_ro, Cond.code yX5_ro cX5_ro 3 (some .int), Cond.fieldLink RX5 9 "GhostInnModel" "house" "[I"]
def wsX5_pays : List Cond := .code yX5_pays cX5_pays 5 (some .int) :: ((wsX5_pays_r1 ++ wsX5_pays_r2) ++ wsX50)
def wsX5_won_r1 : List Cond := [Cond.fieldLink RX5 42 "GhostInnModel" "guests" "I", Cond.methodLink RX5 113 yX5_winner, Cond.instanceMethod yX5_winner, Cond.selects RX5 yX5_winner yX5_winner, Cond.initialized RX5, Cond.code yX5_winner cX5_winner 4 (some .int), Cond.methodLink RX5 110 yX5_counts, Cond.instanceMethod yX5_counts, Cond.selects RX5 yX5_counts yX5_counts, Cond.code yX5_counts cX5_counts 3 (some .boolean), Cond.methodLink RX5 92 yX5_pe, Cond.instanceMethod yX5_pe, Cond.selects RX5 yX5_pe yX5_pe, Cond.code yX5_pe cX5_pe 3 (some .int), Cond.fieldLink RX5 19 "GhostInnModel" "people" "[I", Cond.methodLink RX5 102 yX5_suits, Cond.instanceMethod yX5_suits, Cond.selects RX5 yX5_suits yX5_suits, Cond.code yX5_suits cX5_suits 3 (some .boolean), Cond.methodLink RX5 83 yX5_ro, Cond.instanceMethod yX5_ro, Cond.selects RX5 yX5_ro yX5_ro, Cond.code yX5_ro cX5_ro 3 (some .int), Cond.fieldLink RX5 9 "GhostInnModel" "house" "[I"]
def wsX5_won_r2 : List Cond := [Cond.methodLink RX5 121 yX5_pays, Cond.instanceMethod yX5_pays, Cond.selects RX5 yX5_pays yX5_pays, Cond.code yX5_pays cX5_pays 5 (some .int), Cond.methodLink RX5 116 Lib.Math.max.name, Cond.static Lib.Math.max.name, Cond.initialized "java/lang/Math", Cond.code Lib.Math.max.name Lib.Math.max.code 2 (some .int)]
def wsX5_won : List Cond := .code yX5_won cX5_won 5 (some .int) :: ((wsX5_won_r1 ++ wsX5_won_r2) ++ wsX50)
def wsX5_wins_r1 : List Cond := [Cond.fieldLink RX5 28 "GhostInnModel" "thrown" "I", Cond.methodLink RX5 55 yX5_isRoom, Cond.instanceMethod yX5_isRoom, Cond.selects RX5 yX5_isRoom yX5_isRoom, Cond.initialized RX5, Cond.code yX5_isRoom cX5_isRoom 2 (some .boolean), Cond.fieldLink RX5 32 "GhostInnModel" "rooms" "I", Cond.methodLink RX5 35 yX5_isIn, Cond.static yX5_isIn, Cond.code yX5_isIn cX5_isIn 3 (some .boolean), Cond.methodLink RX5 124 yX5_won, Cond.instanceMethod yX5_won, Cond.selects RX5 yX5_won yX5_won, Cond.code yX5_won cX5_won 5 (some .int), Cond.fieldLink RX5 42 "GhostInnModel" "guests" "I", Cond.methodLink RX5 113 yX5_winner, Cond.instanceMethod yX5_winner, Cond.selects RX5 yX5_winner yX5_winner, Cond.code yX5_winner cX5_winner 4 (some .int), Cond.methodLink RX5 110 yX5_counts, Cond.instanceMethod yX5_counts, Cond.selects RX5 yX5_counts yX5_counts, Cond.code yX5_counts cX5_counts 3 (some .boolean), Cond.methodLink RX5 92 yX5_pe]
def wsX5_wins_r2 : List Cond := [Cond.instanceMethod yX5_pe, Cond.selects RX5 yX5_pe yX5_pe, Cond.code yX5_pe cX5_pe 3 (some .int), Cond.fieldLink RX5 19 "GhostInnModel" "people" "[I", Cond.methodLink RX5 102 yX5_suits, Cond.instanceMethod yX5_suits, Cond.selects RX5 yX5_suits yX5_suits, Cond.code yX5_suits cX5_suits 3 (some .boolean), Cond.methodLink RX5 83 yX5_ro, Cond.instanceMethod yX5_ro, Cond.selects RX5 yX5_ro yX5_ro, Cond.code yX5_ro cX5_ro 3 (some .int), Cond.fieldLink RX5 9 "GhostInnModel" "house" "[I", Cond.methodLink RX5 121 yX5_pays, Cond.instanceMethod yX5_pays, Cond.selects RX5 yX5_pays yX5_pays, Cond.code yX5_pays cX5_pays 5 (some .int), Cond.methodLink RX5 116 Lib.Math.max.name, Cond.static Lib.Math.max.name, Cond.initialized "java/lang/Math", Cond.code Lib.Math.max.name Lib.Math.max.code 2 (some .int), Cond.methodLink RX5 45 yX5_fail, Cond.instanceMethod yX5_fail, Cond.selects RX5 yX5_fail yX5_fail]
def wsX5_wins_r3 : List Cond := [Cond.code yX5_fail cX5_fail 2 (some .int)]
def wsX5_wins : List Cond := .code yX5_wins cX5_wins 3 (some .int) :: ((wsX5_wins_r1 ++ (wsX5_wins_r2 ++ wsX5_wins_r3)) ++ wsX50)
def wsX5_isBad : List Cond := .code yX5_isBad cX5_isBad 2 (some .boolean) :: ([])
def wsX5_night_r1 : List Cond := [Cond.fieldLink RX5 28 "GhostInnModel" "thrown" "I", Cond.fieldLink RX5 32 "GhostInnModel" "rooms" "I", Cond.methodLink RX5 116 Lib.Math.max.name, Cond.static Lib.Math.max.name, Cond.initialized "java/lang/Math", Cond.code Lib.Math.max.name Lib.Math.max.code 2 (some .int), Cond.methodLink RX5 130 Lib.Math.min.name, Cond.static Lib.Math.min.name, Cond.code Lib.Math.min.name Lib.Math.min.code 2 (some .int), Cond.fieldLink RX5 22 "GhostInnModel" "numbers" "[I", Cond.fieldLink RX5 42 "GhostInnModel" "guests" "I", Cond.methodLink RX5 113 yX5_winner, Cond.instanceMethod yX5_winner, Cond.selects RX5 yX5_winner yX5_winner, Cond.initialized RX5, Cond.code yX5_winner cX5_winner 4 (some .int), Cond.methodLink RX5 110 yX5_counts, Cond.instanceMethod yX5_counts, Cond.selects RX5 yX5_counts yX5_counts, Cond.code yX5_counts cX5_counts 3 (some .boolean), Cond.methodLink RX5 92 yX5_pe, Cond.instanceMethod yX5_pe, Cond.selects RX5 yX5_pe yX5_pe, Cond.code yX5_pe cX5_pe 3 (some .int)]
def wsX5_night_r2 : List Cond := [Cond.fieldLink RX5 19 "GhostInnModel" "people" "[I", Cond.methodLink RX5 102 yX5_suits, Cond.instanceMethod yX5_suits, Cond.selects RX5 yX5_suits yX5_suits, Cond.code yX5_suits cX5_suits 3 (some .boolean), Cond.methodLink RX5 83 yX5_ro, Cond.instanceMethod yX5_ro, Cond.selects RX5 yX5_ro yX5_ro, Cond.code yX5_ro cX5_ro 3 (some .int), Cond.fieldLink RX5 9 "GhostInnModel" "house" "[I", Cond.methodLink RX5 121 yX5_pays, Cond.instanceMethod yX5_pays, Cond.selects RX5 yX5_pays yX5_pays, Cond.code yX5_pays cX5_pays 5 (some .int), Cond.methodLink RX5 80 yX5_haunted, Cond.instanceMethod yX5_haunted, Cond.selects RX5 yX5_haunted yX5_haunted, Cond.code yX5_haunted cX5_haunted 6 (some .int), Cond.fieldLink RX5 39 "GhostInnModel" "ghosts" "I", Cond.methodLink RX5 77 yX5_place, Cond.instanceMethod yX5_place, Cond.selects RX5 yX5_place yX5_place, Cond.code yX5_place cX5_place 5 (some .int), Cond.methodLink RX5 67 yX5_sp]
def wsX5_night_r3 : List Cond := [Cond.instanceMethod yX5_sp, Cond.selects RX5 yX5_sp yX5_sp, Cond.code yX5_sp cX5_sp 3 (some .int), Cond.fieldLink RX5 16 "GhostInnModel" "spooks" "[I", Cond.methodLink RX5 71 yX5_next, Cond.instanceMethod yX5_next, Cond.selects RX5 yX5_next yX5_next, Cond.code yX5_next cX5_next 3 (some .int), Cond.fieldLink RX5 13 "GhostInnModel" "joined" "[I", Cond.methodLink RX5 62 yJ6_numberOfTrailingZeros_0f7a4, Cond.static yJ6_numberOfTrailingZeros_0f7a4, Cond.initialized RJ6, Cond.code yJ6_numberOfTrailingZeros_0f7a4 cJ6_numberOfTrailingZeros_0f7a4 2 (some .int), Cond.constant RJ6 264 (65536), Cond.methodLink RX5 127 yX5_isBad, Cond.static yX5_isBad, Cond.code yX5_isBad cX5_isBad 2 (some .boolean), Cond.methodLink RX5 106 yX5_withdraw, Cond.instanceMethod yX5_withdraw, Cond.selects RX5 yX5_withdraw yX5_withdraw, Cond.code yX5_withdraw cX5_withdraw 2 none, Cond.methodLink RX5 98 yX5_set, Cond.instanceMethod yX5_set, Cond.selects RX5 yX5_set yX5_set]
def wsX5_night_r4 : List Cond := [Cond.code yX5_set cX5_set 4 none, Cond.methodLink RX5 133 yX5_addRo, Cond.instanceMethod yX5_addRo, Cond.selects RX5 yX5_addRo yX5_addRo, Cond.code yX5_addRo cX5_addRo 4 none]
def wsX5_night : List Cond := .code yX5_night cX5_night 7 (some .int) :: ((wsX5_night_r1 ++ (wsX5_night_r2 ++ (wsX5_night_r3 ++ wsX5_night_r4))) ++ wsX50)
def wsX5_counted_r1 : List Cond := [Cond.fieldLink RX5 22 "GhostInnModel" "numbers" "[I", Cond.fieldLink RX5 32 "GhostInnModel" "rooms" "I", Cond.fieldLink RX5 59 "GhostInnModel" "doors" "I", Cond.fieldLink RX5 39 "GhostInnModel" "ghosts" "I", Cond.fieldLink RX5 42 "GhostInnModel" "guests" "I", Cond.methodLink RX5 92 yX5_pe, Cond.instanceMethod yX5_pe, Cond.selects RX5 yX5_pe yX5_pe, Cond.initialized RX5, Cond.code yX5_pe cX5_pe 3 (some .int), Cond.fieldLink RX5 19 "GhostInnModel" "people" "[I", Cond.methodLink RX5 113 yX5_winner, Cond.instanceMethod yX5_winner, Cond.selects RX5 yX5_winner yX5_winner, Cond.code yX5_winner cX5_winner 4 (some .int), Cond.methodLink RX5 110 yX5_counts, Cond.instanceMethod yX5_counts, Cond.selects RX5 yX5_counts yX5_counts, Cond.code yX5_counts cX5_counts 3 (some .boolean), Cond.methodLink RX5 102 yX5_suits, Cond.instanceMethod yX5_suits, Cond.selects RX5 yX5_suits yX5_suits, Cond.code yX5_suits cX5_suits 3 (some .boolean), Cond.methodLink RX5 83 yX5_ro]
def wsX5_counted_r2 : List Cond := [Cond.instanceMethod yX5_ro, Cond.selects RX5 yX5_ro yX5_ro, Cond.code yX5_ro cX5_ro 3 (some .int), Cond.fieldLink RX5 9 "GhostInnModel" "house" "[I"]
def wsX5_counted : List Cond := .code yX5_counted cX5_counted 4 (some .int) :: ((wsX5_counted_r1 ++ wsX5_counted_r2) ++ wsX50)
def wsX5_count_r1 : List Cond := [Cond.fieldLink RX5 28 "GhostInnModel" "thrown" "I", Cond.methodLink RX5 35 yX5_isIn, Cond.static yX5_isIn, Cond.initialized RX5, Cond.code yX5_isIn cX5_isIn 3 (some .boolean), Cond.methodLink RX5 136 yX5_counted, Cond.instanceMethod yX5_counted, Cond.selects RX5 yX5_counted yX5_counted, Cond.code yX5_counted cX5_counted 4 (some .int), Cond.fieldLink RX5 22 "GhostInnModel" "numbers" "[I", Cond.fieldLink RX5 32 "GhostInnModel" "rooms" "I", Cond.fieldLink RX5 59 "GhostInnModel" "doors" "I", Cond.fieldLink RX5 39 "GhostInnModel" "ghosts" "I", Cond.fieldLink RX5 42 "GhostInnModel" "guests" "I", Cond.methodLink RX5 92 yX5_pe, Cond.instanceMethod yX5_pe, Cond.selects RX5 yX5_pe yX5_pe, Cond.code yX5_pe cX5_pe 3 (some .int), Cond.fieldLink RX5 19 "GhostInnModel" "people" "[I", Cond.methodLink RX5 113 yX5_winner, Cond.instanceMethod yX5_winner, Cond.selects RX5 yX5_winner yX5_winner, Cond.code yX5_winner cX5_winner 4 (some .int), Cond.methodLink RX5 110 yX5_counts]
def wsX5_count_r2 : List Cond := [Cond.instanceMethod yX5_counts, Cond.selects RX5 yX5_counts yX5_counts, Cond.code yX5_counts cX5_counts 3 (some .boolean), Cond.methodLink RX5 102 yX5_suits, Cond.instanceMethod yX5_suits, Cond.selects RX5 yX5_suits yX5_suits, Cond.code yX5_suits cX5_suits 3 (some .boolean), Cond.methodLink RX5 83 yX5_ro, Cond.instanceMethod yX5_ro, Cond.selects RX5 yX5_ro yX5_ro, Cond.code yX5_ro cX5_ro 3 (some .int), Cond.fieldLink RX5 9 "GhostInnModel" "house" "[I", Cond.methodLink RX5 45 yX5_fail, Cond.instanceMethod yX5_fail, Cond.selects RX5 yX5_fail yX5_fail, Cond.code yX5_fail cX5_fail 2 (some .int)]
def wsX5_count : List Cond := .code yX5_count cX5_count 2 (some .int) :: ((wsX5_count_r1 ++ wsX5_count_r2) ++ wsX50)
def wsX5_best_r1 : List Cond := [Cond.fieldLink RX5 28 "GhostInnModel" "thrown" "I", Cond.fieldLink RX5 32 "GhostInnModel" "rooms" "I", Cond.methodLink RX5 95 yX5_isGuest, Cond.instanceMethod yX5_isGuest, Cond.selects RX5 yX5_isGuest yX5_isGuest, Cond.initialized RX5, Cond.code yX5_isGuest cX5_isGuest 2 (some .boolean), Cond.fieldLink RX5 42 "GhostInnModel" "guests" "I", Cond.methodLink RX5 35 yX5_isIn, Cond.static yX5_isIn, Cond.code yX5_isIn cX5_isIn 3 (some .boolean), Cond.methodLink RX5 45 yX5_fail, Cond.instanceMethod yX5_fail, Cond.selects RX5 yX5_fail yX5_fail, Cond.code yX5_fail cX5_fail 2 (some .int), Cond.methodLink RX5 83 yX5_ro, Cond.instanceMethod yX5_ro, Cond.selects RX5 yX5_ro yX5_ro, Cond.code yX5_ro cX5_ro 3 (some .int), Cond.fieldLink RX5 9 "GhostInnModel" "house" "[I", Cond.methodLink RX5 92 yX5_pe, Cond.instanceMethod yX5_pe, Cond.selects RX5 yX5_pe yX5_pe, Cond.code yX5_pe cX5_pe 3 (some .int)]
def wsX5_best_r2 : List Cond := [Cond.fieldLink RX5 19 "GhostInnModel" "people" "[I", Cond.methodLink RX5 80 yX5_haunted, Cond.instanceMethod yX5_haunted, Cond.selects RX5 yX5_haunted yX5_haunted, Cond.code yX5_haunted cX5_haunted 6 (some .int), Cond.fieldLink RX5 39 "GhostInnModel" "ghosts" "I", Cond.methodLink RX5 77 yX5_place, Cond.instanceMethod yX5_place, Cond.selects RX5 yX5_place yX5_place, Cond.code yX5_place cX5_place 5 (some .int), Cond.methodLink RX5 67 yX5_sp, Cond.instanceMethod yX5_sp, Cond.selects RX5 yX5_sp yX5_sp, Cond.code yX5_sp cX5_sp 3 (some .int), Cond.fieldLink RX5 16 "GhostInnModel" "spooks" "[I", Cond.methodLink RX5 71 yX5_next, Cond.instanceMethod yX5_next, Cond.selects RX5 yX5_next yX5_next, Cond.code yX5_next cX5_next 3 (some .int), Cond.fieldLink RX5 13 "GhostInnModel" "joined" "[I", Cond.methodLink RX5 62 yJ6_numberOfTrailingZeros_0f7a4, Cond.static yJ6_numberOfTrailingZeros_0f7a4, Cond.initialized RJ6, Cond.code yJ6_numberOfTrailingZeros_0f7a4 cJ6_numberOfTrailingZeros_0f7a4 2 (some .int)]
def wsX5_best_r3 : List Cond := [Cond.constant RJ6 264 (65536), Cond.methodLink RX5 127 yX5_isBad, Cond.static yX5_isBad, Cond.code yX5_isBad cX5_isBad 2 (some .boolean)]
def wsX5_best : List Cond := .code yX5_best cX5_best 4 (some .int) :: ((wsX5_best_r1 ++ (wsX5_best_r2 ++ wsX5_best_r3)) ++ wsX50)
def wsX5_most : List Cond := .code yX5_most cX5_most 6 (some .int) :: ([.fieldLink RX5 28 "GhostInnModel" "thrown" "I", .fieldLink RX5 32 "GhostInnModel" "rooms" "I", .fieldLink RX5 25 "GhostInnModel" "taken" "[I", .fieldLink RX5 42 "GhostInnModel" "guests" "I", .methodLink RX5 116 Lib.Math.max.name, .static Lib.Math.max.name, .initialized "java/lang/Math", .code Lib.Math.max.name Lib.Math.max.code 2 (some .int), .methodLink RX5 92 yX5_pe, .instanceMethod yX5_pe, .selects RX5 yX5_pe yX5_pe, .initialized RX5, .code yX5_pe cX5_pe 3 (some .int), .fieldLink RX5 19 "GhostInnModel" "people" "[I", .methodLink RX5 102 yX5_suits, .instanceMethod yX5_suits, .selects RX5 yX5_suits yX5_suits, .code yX5_suits cX5_suits 3 (some .boolean), .methodLink RX5 83 yX5_ro, .instanceMethod yX5_ro, .selects RX5 yX5_ro yX5_ro, .code yX5_ro cX5_ro 3 (some .int), .fieldLink RX5 9 "GhostInnModel" "house" "[I"] ++ wsX50)
def wsX5_givenBack_r1 : List Cond := [Cond.fieldLink RX5 32 "GhostInnModel" "rooms" "I", Cond.methodLink RX5 113 yX5_winner, Cond.instanceMethod yX5_winner, Cond.selects RX5 yX5_winner yX5_winner, Cond.initialized RX5, Cond.code yX5_winner cX5_winner 4 (some .int), Cond.fieldLink RX5 42 "GhostInnModel" "guests" "I", Cond.methodLink RX5 110 yX5_counts, Cond.instanceMethod yX5_counts, Cond.selects RX5 yX5_counts yX5_counts, Cond.code yX5_counts cX5_counts 3 (some .boolean), Cond.methodLink RX5 92 yX5_pe, Cond.instanceMethod yX5_pe, Cond.selects RX5 yX5_pe yX5_pe, Cond.code yX5_pe cX5_pe 3 (some .int), Cond.fieldLink RX5 19 "GhostInnModel" "people" "[I", Cond.methodLink RX5 102 yX5_suits, Cond.instanceMethod yX5_suits, Cond.selects RX5 yX5_suits yX5_suits, Cond.code yX5_suits cX5_suits 3 (some .boolean), Cond.methodLink RX5 83 yX5_ro, Cond.instanceMethod yX5_ro, Cond.selects RX5 yX5_ro yX5_ro, Cond.code yX5_ro cX5_ro 3 (some .int)]
def wsX5_givenBack_r2 : List Cond := [Cond.fieldLink RX5 9 "GhostInnModel" "house" "[I", Cond.methodLink RX5 80 yX5_haunted, Cond.instanceMethod yX5_haunted, Cond.selects RX5 yX5_haunted yX5_haunted, Cond.code yX5_haunted cX5_haunted 6 (some .int), Cond.fieldLink RX5 39 "GhostInnModel" "ghosts" "I", Cond.methodLink RX5 77 yX5_place, Cond.instanceMethod yX5_place, Cond.selects RX5 yX5_place yX5_place, Cond.code yX5_place cX5_place 5 (some .int), Cond.methodLink RX5 67 yX5_sp, Cond.instanceMethod yX5_sp, Cond.selects RX5 yX5_sp yX5_sp, Cond.code yX5_sp cX5_sp 3 (some .int), Cond.fieldLink RX5 16 "GhostInnModel" "spooks" "[I", Cond.methodLink RX5 71 yX5_next, Cond.instanceMethod yX5_next, Cond.selects RX5 yX5_next yX5_next, Cond.code yX5_next cX5_next 3 (some .int), Cond.fieldLink RX5 13 "GhostInnModel" "joined" "[I", Cond.methodLink RX5 62 yJ6_numberOfTrailingZeros_0f7a4, Cond.static yJ6_numberOfTrailingZeros_0f7a4, Cond.initialized RJ6, Cond.code yJ6_numberOfTrailingZeros_0f7a4 cJ6_numberOfTrailingZeros_0f7a4 2 (some .int)]
def wsX5_givenBack_r3 : List Cond := [Cond.constant RJ6 264 (65536), Cond.methodLink RX5 127 yX5_isBad, Cond.static yX5_isBad, Cond.code yX5_isBad cX5_isBad 2 (some .boolean), Cond.methodLink RX5 121 yX5_pays, Cond.instanceMethod yX5_pays, Cond.selects RX5 yX5_pays yX5_pays, Cond.code yX5_pays cX5_pays 5 (some .int), Cond.methodLink RX5 116 Lib.Math.max.name, Cond.static Lib.Math.max.name, Cond.initialized "java/lang/Math", Cond.code Lib.Math.max.name Lib.Math.max.code 2 (some .int)]
def wsX5_givenBack : List Cond := .code yX5_givenBack cX5_givenBack 4 (some .int) :: ((wsX5_givenBack_r1 ++ (wsX5_givenBack_r2 ++ wsX5_givenBack_r3)) ++ wsX50)
def wsX5_scares_r1 : List Cond := [Cond.fieldLink RX5 28 "GhostInnModel" "thrown" "I", Cond.methodLink RX5 74 yX5_isGhost, Cond.instanceMethod yX5_isGhost, Cond.selects RX5 yX5_isGhost yX5_isGhost, Cond.initialized RX5, Cond.code yX5_isGhost cX5_isGhost 2 (some .boolean), Cond.fieldLink RX5 39 "GhostInnModel" "ghosts" "I", Cond.methodLink RX5 35 yX5_isIn, Cond.static yX5_isIn, Cond.code yX5_isIn cX5_isIn 3 (some .boolean), Cond.methodLink RX5 139 yX5_givenBack, Cond.instanceMethod yX5_givenBack, Cond.selects RX5 yX5_givenBack yX5_givenBack, Cond.code yX5_givenBack cX5_givenBack 4 (some .int), Cond.fieldLink RX5 32 "GhostInnModel" "rooms" "I", Cond.methodLink RX5 113 yX5_winner, Cond.instanceMethod yX5_winner, Cond.selects RX5 yX5_winner yX5_winner, Cond.code yX5_winner cX5_winner 4 (some .int), Cond.fieldLink RX5 42 "GhostInnModel" "guests" "I", Cond.methodLink RX5 110 yX5_counts, Cond.instanceMethod yX5_counts, Cond.selects RX5 yX5_counts yX5_counts, Cond.code yX5_counts cX5_counts 3 (some .boolean)]
def wsX5_scares_r2 : List Cond := [Cond.methodLink RX5 92 yX5_pe, Cond.instanceMethod yX5_pe, Cond.selects RX5 yX5_pe yX5_pe, Cond.code yX5_pe cX5_pe 3 (some .int), Cond.fieldLink RX5 19 "GhostInnModel" "people" "[I", Cond.methodLink RX5 102 yX5_suits, Cond.instanceMethod yX5_suits, Cond.selects RX5 yX5_suits yX5_suits, Cond.code yX5_suits cX5_suits 3 (some .boolean), Cond.methodLink RX5 83 yX5_ro, Cond.instanceMethod yX5_ro, Cond.selects RX5 yX5_ro yX5_ro, Cond.code yX5_ro cX5_ro 3 (some .int), Cond.fieldLink RX5 9 "GhostInnModel" "house" "[I", Cond.methodLink RX5 80 yX5_haunted, Cond.instanceMethod yX5_haunted, Cond.selects RX5 yX5_haunted yX5_haunted, Cond.code yX5_haunted cX5_haunted 6 (some .int), Cond.methodLink RX5 77 yX5_place, Cond.instanceMethod yX5_place, Cond.selects RX5 yX5_place yX5_place, Cond.code yX5_place cX5_place 5 (some .int), Cond.methodLink RX5 67 yX5_sp, Cond.instanceMethod yX5_sp]
def wsX5_scares_r3 : List Cond := [Cond.selects RX5 yX5_sp yX5_sp, Cond.code yX5_sp cX5_sp 3 (some .int), Cond.fieldLink RX5 16 "GhostInnModel" "spooks" "[I", Cond.methodLink RX5 71 yX5_next, Cond.instanceMethod yX5_next, Cond.selects RX5 yX5_next yX5_next, Cond.code yX5_next cX5_next 3 (some .int), Cond.fieldLink RX5 13 "GhostInnModel" "joined" "[I", Cond.methodLink RX5 62 yJ6_numberOfTrailingZeros_0f7a4, Cond.static yJ6_numberOfTrailingZeros_0f7a4, Cond.initialized RJ6, Cond.code yJ6_numberOfTrailingZeros_0f7a4 cJ6_numberOfTrailingZeros_0f7a4 2 (some .int), Cond.constant RJ6 264 (65536), Cond.methodLink RX5 127 yX5_isBad, Cond.static yX5_isBad, Cond.code yX5_isBad cX5_isBad 2 (some .boolean), Cond.methodLink RX5 121 yX5_pays, Cond.instanceMethod yX5_pays, Cond.selects RX5 yX5_pays yX5_pays, Cond.code yX5_pays cX5_pays 5 (some .int), Cond.methodLink RX5 116 Lib.Math.max.name, Cond.static Lib.Math.max.name, Cond.initialized "java/lang/Math", Cond.code Lib.Math.max.name Lib.Math.max.code 2 (some .int)]
def wsX5_scares_r4 : List Cond := [Cond.methodLink RX5 45 yX5_fail, Cond.instanceMethod yX5_fail, Cond.selects RX5 yX5_fail yX5_fail, Cond.code yX5_fail cX5_fail 2 (some .int)]
def wsX5_scares : List Cond := .code yX5_scares cX5_scares 2 (some .int) :: ((wsX5_scares_r1 ++ (wsX5_scares_r2 ++ (wsX5_scares_r3 ++ wsX5_scares_r4))) ++ wsX50)
def wsX5_mean : List Cond := .code yX5_mean cX5_mean 3 (some .double) :: ([.fieldLink RX5 28 "GhostInnModel" "thrown" "I", .fieldLink RX5 32 "GhostInnModel" "rooms" "I", .fieldLink RX5 22 "GhostInnModel" "numbers" "[I", .methodLink RX5 83 yX5_ro, .instanceMethod yX5_ro, .selects RX5 yX5_ro yX5_ro, .initialized RX5, .code yX5_ro cX5_ro 3 (some .int), .fieldLink RX5 9 "GhostInnModel" "house" "[I"] ++ wsX50)
def wsX5_digest_r1 : List Cond := [Cond.fieldLink RX5 28 "GhostInnModel" "thrown" "I", Cond.constantLong RX5 142 (773), Cond.constantLong RX5 144 (31), Cond.fieldLink RX5 32 "GhostInnModel" "rooms" "I", Cond.fieldLink RX5 39 "GhostInnModel" "ghosts" "I", Cond.fieldLink RX5 42 "GhostInnModel" "guests" "I", Cond.methodLink RX5 136 yX5_counted, Cond.instanceMethod yX5_counted, Cond.selects RX5 yX5_counted yX5_counted, Cond.initialized RX5, Cond.code yX5_counted cX5_counted 4 (some .int), Cond.fieldLink RX5 22 "GhostInnModel" "numbers" "[I", Cond.fieldLink RX5 59 "GhostInnModel" "doors" "I", Cond.methodLink RX5 92 yX5_pe, Cond.instanceMethod yX5_pe, Cond.selects RX5 yX5_pe yX5_pe, Cond.code yX5_pe cX5_pe 3 (some .int), Cond.fieldLink RX5 19 "GhostInnModel" "people" "[I", Cond.methodLink RX5 113 yX5_winner, Cond.instanceMethod yX5_winner, Cond.selects RX5 yX5_winner yX5_winner, Cond.code yX5_winner cX5_winner 4 (some .int), Cond.methodLink RX5 110 yX5_counts, Cond.instanceMethod yX5_counts]
def wsX5_digest_r2 : List Cond := [Cond.selects RX5 yX5_counts yX5_counts, Cond.code yX5_counts cX5_counts 3 (some .boolean), Cond.methodLink RX5 102 yX5_suits, Cond.instanceMethod yX5_suits, Cond.selects RX5 yX5_suits yX5_suits, Cond.code yX5_suits cX5_suits 3 (some .boolean), Cond.methodLink RX5 83 yX5_ro, Cond.instanceMethod yX5_ro, Cond.selects RX5 yX5_ro yX5_ro, Cond.code yX5_ro cX5_ro 3 (some .int), Cond.fieldLink RX5 9 "GhostInnModel" "house" "[I", Cond.methodLink RX5 89 yX5_roomTold, Cond.instanceMethod yX5_roomTold, Cond.selects RX5 yX5_roomTold yX5_roomTold, Cond.code yX5_roomTold cX5_roomTold 3 (some .int), Cond.fieldLink RX5 13 "GhostInnModel" "joined" "[I", Cond.methodLink RX5 86 yJ6_bitCount_0f7a4, Cond.static yJ6_bitCount_0f7a4, Cond.initialized RJ6, Cond.code yJ6_bitCount_0f7a4 cJ6_bitCount_0f7a4 1 (some .int), Cond.constant RJ6 265 (1431655765), Cond.constant RJ6 266 (858993459), Cond.constant RJ6 267 (252645135), Cond.methodLink RX5 124 yX5_won]
def wsX5_digest_r3 : List Cond := [Cond.instanceMethod yX5_won, Cond.selects RX5 yX5_won yX5_won, Cond.code yX5_won cX5_won 5 (some .int), Cond.methodLink RX5 121 yX5_pays, Cond.instanceMethod yX5_pays, Cond.selects RX5 yX5_pays yX5_pays, Cond.code yX5_pays cX5_pays 5 (some .int), Cond.methodLink RX5 116 Lib.Math.max.name, Cond.static Lib.Math.max.name, Cond.initialized "java/lang/Math", Cond.code Lib.Math.max.name Lib.Math.max.code 2 (some .int), Cond.methodLink RX5 80 yX5_haunted, Cond.instanceMethod yX5_haunted, Cond.selects RX5 yX5_haunted yX5_haunted, Cond.code yX5_haunted cX5_haunted 6 (some .int), Cond.methodLink RX5 77 yX5_place, Cond.instanceMethod yX5_place, Cond.selects RX5 yX5_place yX5_place, Cond.code yX5_place cX5_place 5 (some .int), Cond.methodLink RX5 67 yX5_sp, Cond.instanceMethod yX5_sp, Cond.selects RX5 yX5_sp yX5_sp, Cond.code yX5_sp cX5_sp 3 (some .int), Cond.fieldLink RX5 16 "GhostInnModel" "spooks" "[I"]
def wsX5_digest_r4 : List Cond := [Cond.methodLink RX5 71 yX5_next, Cond.instanceMethod yX5_next, Cond.selects RX5 yX5_next yX5_next, Cond.code yX5_next cX5_next 3 (some .int), Cond.methodLink RX5 62 yJ6_numberOfTrailingZeros_0f7a4, Cond.static yJ6_numberOfTrailingZeros_0f7a4, Cond.code yJ6_numberOfTrailingZeros_0f7a4 cJ6_numberOfTrailingZeros_0f7a4 2 (some .int), Cond.constant RJ6 264 (65536)]
def wsX5_digest : List Cond := .code yX5_digest cX5_digest 5 (some .long) :: ((wsX5_digest_r1 ++ (wsX5_digest_r2 ++ (wsX5_digest_r3 ++ wsX5_digest_r4))) ++ wsX50)
def wsJ9_max_7cf53 : List Cond := .code yJ9_max_7cf53 cJ9_max_7cf53 2 (some .int) :: ([])
def wsJ9_min_7cf53 : List Cond := .code yJ9_min_7cf53 cJ9_min_7cf53 2 (some .int) :: ([])
def wsL_furnish_r1 : List Cond := [Cond.classLink RL 13 "java/lang/IllegalArgumentException", Cond.classLink RL 15 "java/lang/IllegalStateException", Cond.methodLink RL 7 yX4_furnish, Cond.instanceMethod yX4_furnish, Cond.selects RX4 yX4_furnish yX4_furnish, Cond.initialized RX4, Cond.code yX4_furnish cX4_furnish 4 (some .int), Cond.classLink RX4 33 "java/lang/IllegalArgumentException", Cond.initialized "java/lang/IllegalArgumentException", Cond.classLink RX4 44 "java/lang/IllegalStateException", Cond.initialized "java/lang/IllegalStateException", Cond.fieldLink RX4 10 "GhostInn" "rooms" "Ljava/util/ArrayList;", Cond.classLink RX4 49 RX2, Cond.instantiable RX2 6, Cond.initialized RX2, Cond.methodLink RX4 29 yX4_within, Cond.static yX4_within, Cond.code yX4_within cX4_within 3 (some .boolean), Cond.methodLink RX4 40 yJx4a65c_size_8abf5, Cond.instanceMethod yJx4a65c_size_8abf5, Cond.selects RJx4a65c yJx4a65c_size_8abf5 yJx4a65c_size_8abf5, Cond.initialized RJx4a65c, Cond.code yJx4a65c_size_8abf5 cJx4a65c_size_8abf5 1 (some .int), Cond.fieldLink RJx4a65c 48 "java/util/ArrayList" "size" "I"]
def wsL_furnish_r2 : List Cond := [Cond.methodLink RX4 51 yX2_init, Cond.instanceMethod yX2_init, Cond.code yX2_init cX2_init 4 none, Cond.methodLink RX2 1 objectInit, Cond.instanceMethod objectInit, Cond.code objectInit ⟨#[0xb1]⟩ 1 none, Cond.fieldLink RX2 7 "GhostInn$Room" "beds" "I", Cond.fieldLink RX2 13 "GhostInn$Room" "comfort" "I", Cond.fieldLink RX2 16 "GhostInn$Room" "least" "I", Cond.methodLink RX4 54 yJx4a65c_add_9ea2d, Cond.instanceMethod yJx4a65c_add_9ea2d, Cond.selects RJx4a65c yJx4a65c_add_9ea2d yJx4a65c_add_9ea2d, Cond.code yJx4a65c_add_9ea2d cJx4a65c_add_9ea2d 2 (some .boolean), Cond.fieldLink RJx4a65c 63 "java/util/ArrayList" "modCount" "I", Cond.sameField "java/util/ArrayList" "java/util/AbstractList" "modCount" "I", Cond.fieldLink RJx4a65c 9 "java/util/ArrayList" "elementData" "[Ljava/lang/Object;", Cond.methodLink RJx4a65c 131 yJx4a65c_add_72be8, Cond.instanceMethod yJx4a65c_add_72be8, Cond.selects RJx4a65c yJx4a65c_add_72be8 yJx4a65c_add_72be8, Cond.code yJx4a65c_add_72be8 cJx4a65c_add_72be8 4 none, Cond.methodLink RJx4a65c 129 yJx4a65c_grow_d5877, Cond.instanceMethod yJx4a65c_grow_d5877, Cond.selects RJx4a65c yJx4a65c_grow_d5877 yJx4a65c_grow_d5877, Cond.code yJx4a65c_grow_d5877 cJx4a65c_grow_d5877 1 (some (.array (.object "java/lang/Object")))]
def wsL_furnish_r3 : List Cond := [Cond.methodLink RJx4a65c 69 yJx4a65c_grow_92f84, Cond.instanceMethod yJx4a65c_grow_92f84, Cond.selects RJx4a65c yJx4a65c_grow_92f84 yJx4a65c_grow_92f84, Cond.code yJx4a65c_grow_92f84 cJx4a65c_grow_92f84 4 (some (.array (.object "java/lang/Object"))), Cond.fieldLink RJx4a65c 39 "java/util/ArrayList" "DEFAULTCAPACITY_EMPTY_ELEMENTDATA" "[Ljava/lang/Object;", Cond.methodLink RJx4a65c 79 Lib.Math.max.name, Cond.static Lib.Math.max.name, Cond.initialized "java/lang/Math", Cond.code Lib.Math.max.name Lib.Math.max.code 2 (some .int), Cond.classLink RJx4a65c 7 "java/lang/Object", Cond.methodLink RJx4a65c 73 yJ8_newLength_cabcc, Cond.static yJ8_newLength_cabcc, Cond.initialized RJ8, Cond.code yJ8_newLength_cabcc cJ8_newLength_cabcc 4 (some .int), Cond.methodLink RJ8 194 Lib.Math.max.name, Cond.constant RJ8 200 (2147483639), Cond.methodLink RJ8 201 yJ8_hugeLength_7cf53, Cond.static yJ8_hugeLength_7cf53, Cond.code yJ8_hugeLength_7cf53 cJ8_hugeLength_7cf53 3 (some .int), Cond.methodLink RJx4a65c 66 yJ7_copyOf_1904c, Cond.static yJ7_copyOf_1904c, Cond.initialized RJ7, Cond.code yJ7_copyOf_1904c cJ7_copyOf_1904c 2 (some (.array (.object "java/lang/Object"))), Cond.methodLink RJ7 86 ⟨"java/lang/Object", "getClass", "()Ljava/lang/Class;"⟩]
def wsL_furnish_r4 : List Cond := [Cond.selects "[Ljava/lang/Object;" ⟨"java/lang/Object", "getClass", "()Ljava/lang/Class;"⟩ ⟨"java/lang/Object", "getClass", "()Ljava/lang/Class;"⟩, Cond.instanceMethod ⟨"java/lang/Object", "getClass", "()Ljava/lang/Class;"⟩, Cond.native ⟨"java/lang/Object", "getClass", "()Ljava/lang/Class;"⟩, Cond.methodLink RJ7 300 yJ7_copyOf_6403c, Cond.static yJ7_copyOf_6403c, Cond.code yJ7_copyOf_6403c cJ7_copyOf_6403c 4 (some (.array (.object "java/lang/Object"))), Cond.classLink RJ7 110 "[Ljava/lang/Object;", Cond.classLink RJ7 2 "java/lang/Object", Cond.methodLink RJ7 304 Lib.Math.min.name, Cond.static Lib.Math.min.name, Cond.code Lib.Math.min.name Lib.Math.min.code 2 (some .int), Cond.methodLink RJ7 150 arraycopyName, Cond.native arraycopyName, Cond.static arraycopyName, Cond.initialized "java/lang/System"]
def wsL_furnish : List Cond := .codeWith yL_furnish cL_furnish 6 (some .int) [(0, 12, 15, 13), (0, 12, 19, 15)] :: ((wsL_furnish_r1 ++ (wsL_furnish_r2 ++ (wsL_furnish_r3 ++ wsL_furnish_r4))) ++ wsX40 ++ wsX20 ++ wsJx4a65c0 ++ (vx_atS RX4 37 "java/lang/IllegalArgumentException" ["java/lang/RuntimeException", "java/lang/Exception"]).filter goodWord ++ (vx_atS RX4 48 "java/lang/IllegalStateException" ["java/lang/RuntimeException", "java/lang/Exception"]).filter goodWord)
def wsL_door_r1 : List Cond := [Cond.classLink RL 21 "java/lang/IndexOutOfBoundsException", Cond.classLink RL 13 "java/lang/IllegalArgumentException", Cond.classLink RL 15 "java/lang/IllegalStateException", Cond.methodLink RL 17 yX4_door, Cond.instanceMethod yX4_door, Cond.selects RX4 yX4_door yX4_door, Cond.initialized RX4, Cond.code yX4_door cX4_door 5 (some .int), Cond.classLink RX4 62 "java/lang/IndexOutOfBoundsException", Cond.initialized "java/lang/IndexOutOfBoundsException", Cond.classLink RX4 33 "java/lang/IllegalArgumentException", Cond.initialized "java/lang/IllegalArgumentException", Cond.classLink RX4 44 "java/lang/IllegalStateException", Cond.initialized "java/lang/IllegalStateException", Cond.fieldLink RX4 10 "GhostInn" "rooms" "Ljava/util/ArrayList;", Cond.classLink RX4 49 "GhostInn$Room", Cond.fieldLink RX4 76 "GhostInn" "doors" "I", Cond.methodLink RX4 58 yX4_isRoom, Cond.instanceMethod yX4_isRoom, Cond.selects RX4 yX4_isRoom yX4_isRoom, Cond.code yX4_isRoom cX4_isRoom 2 (some .boolean), Cond.methodLink RX4 40 yJx4a65c_size_8abf5, Cond.instanceMethod yJx4a65c_size_8abf5, Cond.selects RJx4a65c yJx4a65c_size_8abf5 yJx4a65c_size_8abf5]
def wsL_door_r2 : List Cond := [Cond.initialized RJx4a65c, Cond.code yJx4a65c_size_8abf5 cJx4a65c_size_8abf5 1 (some .int), Cond.fieldLink RJx4a65c 48 "java/util/ArrayList" "size" "I", Cond.methodLink RX4 69 yJx4a65c_get_915e3, Cond.instanceMethod yJx4a65c_get_915e3, Cond.selects RJx4a65c yJx4a65c_get_915e3 yJx4a65c_get_915e3, Cond.code yJx4a65c_get_915e3 cJx4a65c_get_915e3 2 (some (.object "java/lang/Object")), Cond.methodLink RJx4a65c 118 yJ15_checkIndex_7cf53, Cond.static yJ15_checkIndex_7cf53, Cond.initialized RJ15, Cond.code yJ15_checkIndex_7cf53 cJ15_checkIndex_7cf53 2 (some .int), Cond.methodLink RJ15 105 yJ3_checkIndex_8e157, Cond.static yJ3_checkIndex_8e157, Cond.initialized RJ3, Cond.code yJ3_checkIndex_8e157 cJ3_checkIndex_8e157 3 (some .int), Cond.methodLink RJx4a65c 123 yJx4a65c_elementData_915e3, Cond.instanceMethod yJx4a65c_elementData_915e3, Cond.selects RJx4a65c yJx4a65c_elementData_915e3 yJx4a65c_elementData_915e3, Cond.code yJx4a65c_elementData_915e3 cJx4a65c_elementData_915e3 2 (some (.object "java/lang/Object")), Cond.fieldLink RJx4a65c 9 "java/util/ArrayList" "elementData" "[Ljava/lang/Object;", Cond.methodLink RX4 73 yX2_leadsTo, Cond.instanceMethod yX2_leadsTo, Cond.selects RX2 yX2_leadsTo yX2_leadsTo, Cond.initialized RX2]
def wsL_door_r3 : List Cond := [Cond.code yX2_leadsTo cX2_leadsTo 2 (some .boolean), Cond.fieldLink RX2 19 "GhostInn$Room" "doorBits" "I", Cond.methodLink RX4 82 yX2_openTo, Cond.instanceMethod yX2_openTo, Cond.selects RX2 yX2_openTo yX2_openTo, Cond.code yX2_openTo cX2_openTo 2 none, Cond.methodLink RX4 86 yX4_planAllWays, Cond.instanceMethod yX4_planAllWays, Cond.selects RX4 yX4_planAllWays yX4_planAllWays, Cond.code yX4_planAllWays cX4_planAllWays 2 none, Cond.fieldLink RX4 16 "GhostInn" "ghosts" "Ljava/util/ArrayList;", Cond.classLink RX4 93 "GhostInn$Ghost", Cond.methodLink RX4 98 yX4_planWay, Cond.instanceMethod yX4_planWay, Cond.selects RX4 yX4_planWay yX4_planWay, Cond.code yX4_planWay cX4_planWay 4 none, Cond.fieldLink RX4 260 "GhostInn$Ghost" "home" "I", Cond.fieldLink RX4 263 "GhostInn$Ghost" "wakes" "I", Cond.methodLink RX4 266 yX4_nextRoom, Cond.instanceMethod yX4_nextRoom, Cond.selects RX4 yX4_nextRoom yX4_nextRoom, Cond.code yX4_nextRoom cX4_nextRoom 5 (some .int), Cond.methodLink RX4 269 yX0_isAwakeIn, Cond.instanceMethod yX0_isAwakeIn]
def wsL_door_r4 : List Cond := [Cond.selects RX0 yX0_isAwakeIn yX0_isAwakeIn, Cond.initialized RX0, Cond.code yX0_isAwakeIn cX0_isAwakeIn 2 (some .boolean), Cond.fieldLink RX0 22 "GhostInn$Ghost" "wakes" "I", Cond.fieldLink RX0 25 "GhostInn$Ghost" "bed" "I", Cond.methodLink RX4 272 yX0_setPlace, Cond.instanceMethod yX0_setPlace, Cond.selects RX0 yX0_setPlace yX0_setPlace, Cond.code yX0_setPlace cX0_setPlace 3 none, Cond.fieldLink RX0 9 "GhostInn$Ghost" "places" "[I"]
def wsL_door : List Cond := .codeWith yL_door cL_door 5 (some .int) [(0, 10, 13, 21), (0, 10, 17, 13), (0, 10, 21, 15)] :: ((wsL_door_r1 ++ (wsL_door_r2 ++ (wsL_door_r3 ++ wsL_door_r4))) ++ wsX40 ++ wsJx4a65c0 ++ wsX20 ++ wsX00 ++ (vx_atS RX4 66 "java/lang/IndexOutOfBoundsException" ["java/lang/RuntimeException", "java/lang/Exception"]).filter goodWord ++ (vx_atS RX4 37 "java/lang/IllegalArgumentException" ["java/lang/RuntimeException", "java/lang/Exception"]).filter goodWord ++ (vx_atS RX4 48 "java/lang/IllegalStateException" ["java/lang/RuntimeException", "java/lang/Exception"]).filter goodWord)
def wsL_haunt_r1 : List Cond := [Cond.classLink RL 21 "java/lang/IndexOutOfBoundsException", Cond.classLink RL 13 "java/lang/IllegalArgumentException", Cond.classLink RL 15 "java/lang/IllegalStateException", Cond.methodLink RL 23 yX4_haunt, Cond.instanceMethod yX4_haunt, Cond.selects RX4 yX4_haunt yX4_haunt, Cond.initialized RX4, Cond.code yX4_haunt cX4_haunt 6 (some .int), Cond.classLink RX4 62 "java/lang/IndexOutOfBoundsException", Cond.initialized "java/lang/IndexOutOfBoundsException", Cond.classLink RX4 33 "java/lang/IllegalArgumentException", Cond.initialized "java/lang/IllegalArgumentException", Cond.classLink RX4 44 "java/lang/IllegalStateException", Cond.initialized "java/lang/IllegalStateException", Cond.fieldLink RX4 16 "GhostInn" "ghosts" "Ljava/util/ArrayList;", Cond.classLink RX4 93 RX0, Cond.instantiable RX0 5, Cond.initialized RX0, Cond.methodLink RX4 58 yX4_isRoom, Cond.instanceMethod yX4_isRoom, Cond.selects RX4 yX4_isRoom yX4_isRoom, Cond.code yX4_isRoom cX4_isRoom 2 (some .boolean), Cond.fieldLink RX4 10 "GhostInn" "rooms" "Ljava/util/ArrayList;", Cond.methodLink RX4 40 yJx4a65c_size_8abf5]
def wsL_haunt_r2 : List Cond := [Cond.instanceMethod yJx4a65c_size_8abf5, Cond.selects RJx4a65c yJx4a65c_size_8abf5 yJx4a65c_size_8abf5, Cond.initialized RJx4a65c, Cond.code yJx4a65c_size_8abf5 cJx4a65c_size_8abf5 1 (some .int), Cond.fieldLink RJx4a65c 48 "java/util/ArrayList" "size" "I", Cond.methodLink RX4 29 yX4_within, Cond.static yX4_within, Cond.code yX4_within cX4_within 3 (some .boolean), Cond.methodLink RX4 95 yX0_init, Cond.instanceMethod yX0_init, Cond.code yX0_init cX0_init 5 none, Cond.methodLink RX0 3 objectInit, Cond.instanceMethod objectInit, Cond.code objectInit ⟨#[0xb1]⟩ 1 none, Cond.arrayClass .int, Cond.fieldLink RX0 9 "GhostInn$Ghost" "places" "[I", Cond.fieldLink RX0 15 "GhostInn$Ghost" "home" "I", Cond.fieldLink RX0 19 "GhostInn$Ghost" "fright" "I", Cond.fieldLink RX0 22 "GhostInn$Ghost" "wakes" "I", Cond.fieldLink RX0 25 "GhostInn$Ghost" "bed" "I", Cond.methodLink RX4 98 yX4_planWay, Cond.instanceMethod yX4_planWay, Cond.selects RX4 yX4_planWay yX4_planWay, Cond.code yX4_planWay cX4_planWay 4 none]
def wsL_haunt_r3 : List Cond := [Cond.fieldLink RX4 260 "GhostInn$Ghost" "home" "I", Cond.fieldLink RX4 263 "GhostInn$Ghost" "wakes" "I", Cond.methodLink RX4 266 yX4_nextRoom, Cond.instanceMethod yX4_nextRoom, Cond.selects RX4 yX4_nextRoom yX4_nextRoom, Cond.code yX4_nextRoom cX4_nextRoom 5 (some .int), Cond.classLink RX4 49 "GhostInn$Room", Cond.methodLink RX4 69 yJx4a65c_get_915e3, Cond.instanceMethod yJx4a65c_get_915e3, Cond.selects RJx4a65c yJx4a65c_get_915e3 yJx4a65c_get_915e3, Cond.code yJx4a65c_get_915e3 cJx4a65c_get_915e3 2 (some (.object "java/lang/Object")), Cond.methodLink RJx4a65c 118 yJ15_checkIndex_7cf53, Cond.static yJ15_checkIndex_7cf53, Cond.initialized RJ15, Cond.code yJ15_checkIndex_7cf53 cJ15_checkIndex_7cf53 2 (some .int), Cond.methodLink RJ15 105 yJ3_checkIndex_8e157, Cond.static yJ3_checkIndex_8e157, Cond.initialized RJ3, Cond.code yJ3_checkIndex_8e157 cJ3_checkIndex_8e157 3 (some .int), Cond.methodLink RJx4a65c 123 yJx4a65c_elementData_915e3, Cond.instanceMethod yJx4a65c_elementData_915e3, Cond.selects RJx4a65c yJx4a65c_elementData_915e3 yJx4a65c_elementData_915e3, Cond.code yJx4a65c_elementData_915e3 cJx4a65c_elementData_915e3 2 (some (.object "java/lang/Object")), Cond.fieldLink RJx4a65c 9 "java/util/ArrayList" "elementData" "[Ljava/lang/Object;"]
def wsL_haunt_r4 : List Cond := [Cond.methodLink RX4 73 yX2_leadsTo, Cond.instanceMethod yX2_leadsTo, Cond.selects RX2 yX2_leadsTo yX2_leadsTo, Cond.initialized RX2, Cond.code yX2_leadsTo cX2_leadsTo 2 (some .boolean), Cond.fieldLink RX2 19 "GhostInn$Room" "doorBits" "I", Cond.methodLink RX4 269 yX0_isAwakeIn, Cond.instanceMethod yX0_isAwakeIn, Cond.selects RX0 yX0_isAwakeIn yX0_isAwakeIn, Cond.code yX0_isAwakeIn cX0_isAwakeIn 2 (some .boolean), Cond.methodLink RX4 272 yX0_setPlace, Cond.instanceMethod yX0_setPlace, Cond.selects RX0 yX0_setPlace yX0_setPlace, Cond.code yX0_setPlace cX0_setPlace 3 none, Cond.methodLink RX4 54 yJx4a65c_add_9ea2d, Cond.instanceMethod yJx4a65c_add_9ea2d, Cond.selects RJx4a65c yJx4a65c_add_9ea2d yJx4a65c_add_9ea2d, Cond.code yJx4a65c_add_9ea2d cJx4a65c_add_9ea2d 2 (some .boolean), Cond.fieldLink RJx4a65c 63 "java/util/ArrayList" "modCount" "I", Cond.sameField "java/util/ArrayList" "java/util/AbstractList" "modCount" "I", Cond.methodLink RJx4a65c 131 yJx4a65c_add_72be8, Cond.instanceMethod yJx4a65c_add_72be8, Cond.selects RJx4a65c yJx4a65c_add_72be8 yJx4a65c_add_72be8, Cond.code yJx4a65c_add_72be8 cJx4a65c_add_72be8 4 none]
def wsL_haunt_r5 : List Cond := [Cond.methodLink RJx4a65c 129 yJx4a65c_grow_d5877, Cond.instanceMethod yJx4a65c_grow_d5877, Cond.selects RJx4a65c yJx4a65c_grow_d5877 yJx4a65c_grow_d5877, Cond.code yJx4a65c_grow_d5877 cJx4a65c_grow_d5877 1 (some (.array (.object "java/lang/Object"))), Cond.methodLink RJx4a65c 69 yJx4a65c_grow_92f84, Cond.instanceMethod yJx4a65c_grow_92f84, Cond.selects RJx4a65c yJx4a65c_grow_92f84 yJx4a65c_grow_92f84, Cond.code yJx4a65c_grow_92f84 cJx4a65c_grow_92f84 4 (some (.array (.object "java/lang/Object"))), Cond.fieldLink RJx4a65c 39 "java/util/ArrayList" "DEFAULTCAPACITY_EMPTY_ELEMENTDATA" "[Ljava/lang/Object;", Cond.methodLink RJx4a65c 79 Lib.Math.max.name, Cond.static Lib.Math.max.name, Cond.initialized "java/lang/Math", Cond.code Lib.Math.max.name Lib.Math.max.code 2 (some .int), Cond.classLink RJx4a65c 7 "java/lang/Object", Cond.methodLink RJx4a65c 73 yJ8_newLength_cabcc, Cond.static yJ8_newLength_cabcc, Cond.initialized RJ8, Cond.code yJ8_newLength_cabcc cJ8_newLength_cabcc 4 (some .int), Cond.methodLink RJ8 194 Lib.Math.max.name, Cond.constant RJ8 200 (2147483639), Cond.methodLink RJ8 201 yJ8_hugeLength_7cf53, Cond.static yJ8_hugeLength_7cf53, Cond.code yJ8_hugeLength_7cf53 cJ8_hugeLength_7cf53 3 (some .int), Cond.methodLink RJx4a65c 66 yJ7_copyOf_1904c]
def wsL_haunt_r6 : List Cond := [Cond.static yJ7_copyOf_1904c, Cond.initialized RJ7, Cond.code yJ7_copyOf_1904c cJ7_copyOf_1904c 2 (some (.array (.object "java/lang/Object"))), Cond.methodLink RJ7 86 ⟨"java/lang/Object", "getClass", "()Ljava/lang/Class;"⟩, Cond.selects "[Ljava/lang/Object;" ⟨"java/lang/Object", "getClass", "()Ljava/lang/Class;"⟩ ⟨"java/lang/Object", "getClass", "()Ljava/lang/Class;"⟩, Cond.instanceMethod ⟨"java/lang/Object", "getClass", "()Ljava/lang/Class;"⟩, Cond.native ⟨"java/lang/Object", "getClass", "()Ljava/lang/Class;"⟩, Cond.methodLink RJ7 300 yJ7_copyOf_6403c, Cond.static yJ7_copyOf_6403c, Cond.code yJ7_copyOf_6403c cJ7_copyOf_6403c 4 (some (.array (.object "java/lang/Object"))), Cond.classLink RJ7 110 "[Ljava/lang/Object;", Cond.classLink RJ7 2 "java/lang/Object", Cond.methodLink RJ7 304 Lib.Math.min.name, Cond.static Lib.Math.min.name, Cond.code Lib.Math.min.name Lib.Math.min.code 2 (some .int), Cond.methodLink RJ7 150 arraycopyName, Cond.native arraycopyName, Cond.static arraycopyName, Cond.initialized "java/lang/System"]
def wsL_haunt : List Cond := .codeWith yL_haunt cL_haunt 7 (some .int) [(0, 14, 17, 21), (0, 14, 21, 13), (0, 14, 25, 15)] :: ((wsL_haunt_r1 ++ (wsL_haunt_r2 ++ (wsL_haunt_r3 ++ (wsL_haunt_r4 ++ (wsL_haunt_r5 ++ wsL_haunt_r6))))) ++ wsX40 ++ wsX00 ++ wsJx4a65c0 ++ wsX20 ++ (vx_atS RX4 66 "java/lang/IndexOutOfBoundsException" ["java/lang/RuntimeException", "java/lang/Exception"]).filter goodWord ++ (vx_atS RX4 37 "java/lang/IllegalArgumentException" ["java/lang/RuntimeException", "java/lang/Exception"]).filter goodWord ++ (vx_atS RX4 48 "java/lang/IllegalStateException" ["java/lang/RuntimeException", "java/lang/Exception"]).filter goodWord)
def wsL_at_r1 : List Cond := [Cond.classLink RL 21 "java/lang/IndexOutOfBoundsException", Cond.methodLink RL 27 yX4_at, Cond.instanceMethod yX4_at, Cond.selects RX4 yX4_at yX4_at, Cond.initialized RX4, Cond.code yX4_at cX4_at 3 (some .int), Cond.classLink RX4 62 "java/lang/IndexOutOfBoundsException", Cond.initialized "java/lang/IndexOutOfBoundsException", Cond.fieldLink RX4 16 "GhostInn" "ghosts" "Ljava/util/ArrayList;", Cond.classLink RX4 93 "GhostInn$Ghost", Cond.methodLink RX4 102 yX4_isGhost, Cond.instanceMethod yX4_isGhost, Cond.selects RX4 yX4_isGhost yX4_isGhost, Cond.code yX4_isGhost cX4_isGhost 2 (some .boolean), Cond.methodLink RX4 40 yJx4a65c_size_8abf5, Cond.instanceMethod yJx4a65c_size_8abf5, Cond.selects RJx4a65c yJx4a65c_size_8abf5 yJx4a65c_size_8abf5, Cond.initialized RJx4a65c, Cond.code yJx4a65c_size_8abf5 cJx4a65c_size_8abf5 1 (some .int), Cond.fieldLink RJx4a65c 48 "java/util/ArrayList" "size" "I", Cond.methodLink RX4 29 yX4_within, Cond.static yX4_within, Cond.code yX4_within cX4_within 3 (some .boolean), Cond.methodLink RX4 69 yJx4a65c_get_915e3]
def wsL_at_r2 : List Cond := [Cond.instanceMethod yJx4a65c_get_915e3, Cond.selects RJx4a65c yJx4a65c_get_915e3 yJx4a65c_get_915e3, Cond.code yJx4a65c_get_915e3 cJx4a65c_get_915e3 2 (some (.object "java/lang/Object")), Cond.methodLink RJx4a65c 118 yJ15_checkIndex_7cf53, Cond.static yJ15_checkIndex_7cf53, Cond.initialized RJ15, Cond.code yJ15_checkIndex_7cf53 cJ15_checkIndex_7cf53 2 (some .int), Cond.methodLink RJ15 105 yJ3_checkIndex_8e157, Cond.static yJ3_checkIndex_8e157, Cond.initialized RJ3, Cond.code yJ3_checkIndex_8e157 cJ3_checkIndex_8e157 3 (some .int), Cond.methodLink RJx4a65c 123 yJx4a65c_elementData_915e3, Cond.instanceMethod yJx4a65c_elementData_915e3, Cond.selects RJx4a65c yJx4a65c_elementData_915e3 yJx4a65c_elementData_915e3, Cond.code yJx4a65c_elementData_915e3 cJx4a65c_elementData_915e3 2 (some (.object "java/lang/Object")), Cond.fieldLink RJx4a65c 9 "java/util/ArrayList" "elementData" "[Ljava/lang/Object;", Cond.methodLink RX4 109 yX0_placeIn, Cond.instanceMethod yX0_placeIn, Cond.selects RX0 yX0_placeIn yX0_placeIn, Cond.initialized RX0, Cond.code yX0_placeIn cX0_placeIn 2 (some .int), Cond.fieldLink RX0 9 "GhostInn$Ghost" "places" "[I"]
def wsL_at : List Cond := .codeWith yL_at cL_at 5 (some .int) [(0, 10, 13, 21)] :: ((wsL_at_r1 ++ wsL_at_r2) ++ wsX40 ++ wsJx4a65c0 ++ wsX00 ++ (vx_atS RX4 66 "java/lang/IndexOutOfBoundsException" ["java/lang/RuntimeException", "java/lang/Exception"]).filter goodWord)
def wsL_haunting_r1 : List Cond := [Cond.classLink RL 21 "java/lang/IndexOutOfBoundsException", Cond.methodLink RL 30 yX4_haunting, Cond.instanceMethod yX4_haunting, Cond.selects RX4 yX4_haunting yX4_haunting, Cond.initialized RX4, Cond.code yX4_haunting cX4_haunting 3 (some .int), Cond.classLink RX4 62 "java/lang/IndexOutOfBoundsException", Cond.initialized "java/lang/IndexOutOfBoundsException", Cond.methodLink RX4 58 yX4_isRoom, Cond.instanceMethod yX4_isRoom, Cond.selects RX4 yX4_isRoom yX4_isRoom, Cond.code yX4_isRoom cX4_isRoom 2 (some .boolean), Cond.fieldLink RX4 10 "GhostInn" "rooms" "Ljava/util/ArrayList;", Cond.methodLink RX4 40 yJx4a65c_size_8abf5, Cond.instanceMethod yJx4a65c_size_8abf5, Cond.selects RJx4a65c yJx4a65c_size_8abf5 yJx4a65c_size_8abf5, Cond.initialized RJx4a65c, Cond.code yJx4a65c_size_8abf5 cJx4a65c_size_8abf5 1 (some .int), Cond.fieldLink RJx4a65c 48 "java/util/ArrayList" "size" "I", Cond.methodLink RX4 29 yX4_within, Cond.static yX4_within, Cond.code yX4_within cX4_within 3 (some .boolean), Cond.methodLink RX4 113 yX4_hauntingOfNight, Cond.instanceMethod yX4_hauntingOfNight]
def wsL_haunting_r2 : List Cond := [Cond.selects RX4 yX4_hauntingOfNight yX4_hauntingOfNight, Cond.code yX4_hauntingOfNight cX4_hauntingOfNight 5 (some .int), Cond.methodLink RX4 117 yX4_hauntingInHour, Cond.instanceMethod yX4_hauntingInHour, Cond.selects RX4 yX4_hauntingInHour yX4_hauntingInHour, Cond.code yX4_hauntingInHour cX4_hauntingInHour 7 (some .int), Cond.fieldLink RX4 16 "GhostInn" "ghosts" "Ljava/util/ArrayList;", Cond.classLink RX4 93 "GhostInn$Ghost", Cond.fieldLink RX4 275 "GhostInn$Ghost" "fright" "I", Cond.methodLink RX4 69 yJx4a65c_get_915e3, Cond.instanceMethod yJx4a65c_get_915e3, Cond.selects RJx4a65c yJx4a65c_get_915e3 yJx4a65c_get_915e3, Cond.code yJx4a65c_get_915e3 cJx4a65c_get_915e3 2 (some (.object "java/lang/Object")), Cond.methodLink RJx4a65c 118 yJ15_checkIndex_7cf53, Cond.static yJ15_checkIndex_7cf53, Cond.initialized RJ15, Cond.code yJ15_checkIndex_7cf53 cJ15_checkIndex_7cf53 2 (some .int), Cond.methodLink RJ15 105 yJ3_checkIndex_8e157, Cond.static yJ3_checkIndex_8e157, Cond.initialized RJ3, Cond.code yJ3_checkIndex_8e157 cJ3_checkIndex_8e157 3 (some .int), Cond.methodLink RJx4a65c 123 yJx4a65c_elementData_915e3, Cond.instanceMethod yJx4a65c_elementData_915e3, Cond.selects RJx4a65c yJx4a65c_elementData_915e3 yJx4a65c_elementData_915e3]
def wsL_haunting_r3 : List Cond := [Cond.code yJx4a65c_elementData_915e3 cJx4a65c_elementData_915e3 2 (some (.object "java/lang/Object")), Cond.fieldLink RJx4a65c 9 "java/util/ArrayList" "elementData" "[Ljava/lang/Object;", Cond.methodLink RX4 109 yX0_placeIn, Cond.instanceMethod yX0_placeIn, Cond.selects RX0 yX0_placeIn yX0_placeIn, Cond.initialized RX0, Cond.code yX0_placeIn cX0_placeIn 2 (some .int), Cond.fieldLink RX0 9 "GhostInn$Ghost" "places" "[I"]
def wsL_haunting : List Cond := .codeWith yL_haunting cL_haunting 5 (some .int) [(0, 10, 13, 21)] :: ((wsL_haunting_r1 ++ (wsL_haunting_r2 ++ wsL_haunting_r3)) ++ wsX40 ++ wsJx4a65c0 ++ wsX00 ++ (vx_atS RX4 66 "java/lang/IndexOutOfBoundsException" ["java/lang/RuntimeException", "java/lang/Exception"]).filter goodWord)
def wsL_room_r1 : List Cond := [Cond.classLink RL 21 "java/lang/IndexOutOfBoundsException", Cond.methodLink RL 33 yX4_room, Cond.instanceMethod yX4_room, Cond.selects RX4 yX4_room yX4_room, Cond.initialized RX4, Cond.code yX4_room cX4_room 4 (some .int), Cond.classLink RX4 62 "java/lang/IndexOutOfBoundsException", Cond.initialized "java/lang/IndexOutOfBoundsException", Cond.fieldLink RX4 10 "GhostInn" "rooms" "Ljava/util/ArrayList;", Cond.classLink RX4 49 "GhostInn$Room", Cond.fieldLink RX4 121 "GhostInn$Room" "beds" "I", Cond.fieldLink RX4 124 "GhostInn$Room" "comfort" "I", Cond.fieldLink RX4 127 "GhostInn$Room" "least" "I", Cond.fieldLink RX4 133 "GhostInn$Room" "nightsLet" "I", Cond.fieldLink RX4 136 "GhostInn$Room" "earned" "I", Cond.methodLink RX4 58 yX4_isRoom, Cond.instanceMethod yX4_isRoom, Cond.selects RX4 yX4_isRoom yX4_isRoom, Cond.code yX4_isRoom cX4_isRoom 2 (some .boolean), Cond.methodLink RX4 40 yJx4a65c_size_8abf5, Cond.instanceMethod yJx4a65c_size_8abf5, Cond.selects RJx4a65c yJx4a65c_size_8abf5 yJx4a65c_size_8abf5, Cond.initialized RJx4a65c, Cond.code yJx4a65c_size_8abf5 cJx4a65c_size_8abf5 1 (some .int)]
def wsL_room_r2 : List Cond := [Cond.fieldLink RJx4a65c 48 "java/util/ArrayList" "size" "I", Cond.methodLink RX4 69 yJx4a65c_get_915e3, Cond.instanceMethod yJx4a65c_get_915e3, Cond.selects RJx4a65c yJx4a65c_get_915e3 yJx4a65c_get_915e3, Cond.code yJx4a65c_get_915e3 cJx4a65c_get_915e3 2 (some (.object "java/lang/Object")), Cond.methodLink RJx4a65c 118 yJ15_checkIndex_7cf53, Cond.static yJ15_checkIndex_7cf53, Cond.initialized RJ15, Cond.code yJ15_checkIndex_7cf53 cJ15_checkIndex_7cf53 2 (some .int), Cond.methodLink RJ15 105 yJ3_checkIndex_8e157, Cond.static yJ3_checkIndex_8e157, Cond.initialized RJ3, Cond.code yJ3_checkIndex_8e157 cJ3_checkIndex_8e157 3 (some .int), Cond.methodLink RJx4a65c 123 yJx4a65c_elementData_915e3, Cond.instanceMethod yJx4a65c_elementData_915e3, Cond.selects RJx4a65c yJx4a65c_elementData_915e3 yJx4a65c_elementData_915e3, Cond.code yJx4a65c_elementData_915e3 cJx4a65c_elementData_915e3 2 (some (.object "java/lang/Object")), Cond.fieldLink RJx4a65c 9 "java/util/ArrayList" "elementData" "[Ljava/lang/Object;", Cond.methodLink RX4 130 yX2_doorsThere, Cond.instanceMethod yX2_doorsThere, Cond.selects RX2 yX2_doorsThere yX2_doorsThere, Cond.initialized RX2, Cond.code yX2_doorsThere cX2_doorsThere 1 (some .int), Cond.fieldLink RX2 19 "GhostInn$Room" "doorBits" "I"]
def wsL_room_r3 : List Cond := [Cond.methodLink RX2 22 yJ6_bitCount_0f7a4, Cond.static yJ6_bitCount_0f7a4, Cond.initialized RJ6, Cond.code yJ6_bitCount_0f7a4 cJ6_bitCount_0f7a4 1 (some .int), Cond.constant RJ6 265 (1431655765), Cond.constant RJ6 266 (858993459), Cond.constant RJ6 267 (252645135)]
def wsL_room : List Cond := .codeWith yL_room cL_room 5 (some .int) [(0, 10, 13, 21)] :: ((wsL_room_r1 ++ (wsL_room_r2 ++ wsL_room_r3)) ++ wsX40 ++ wsX20 ++ wsJx4a65c0 ++ (vx_atS RX4 66 "java/lang/IndexOutOfBoundsException" ["java/lang/RuntimeException", "java/lang/Exception"]).filter goodWord)
def wsL_come_r1 : List Cond := [Cond.classLink RL 13 "java/lang/IllegalArgumentException", Cond.classLink RL 15 "java/lang/IllegalStateException", Cond.methodLink RL 36 yX4_come, Cond.instanceMethod yX4_come, Cond.selects RX4 yX4_come yX4_come, Cond.initialized RX4, Cond.code yX4_come cX4_come 4 (some .int), Cond.classLink RX4 33 "java/lang/IllegalArgumentException", Cond.initialized "java/lang/IllegalArgumentException", Cond.classLink RX4 44 "java/lang/IllegalStateException", Cond.initialized "java/lang/IllegalStateException", Cond.fieldLink RX4 19 "GhostInn" "guests" "Ljava/util/ArrayList;", Cond.classLink RX4 145 RX1, Cond.instantiable RX1 7, Cond.initialized RX1, Cond.methodLink RX4 29 yX4_within, Cond.static yX4_within, Cond.code yX4_within cX4_within 3 (some .boolean), Cond.methodLink RX4 40 yJx4a65c_size_8abf5, Cond.instanceMethod yJx4a65c_size_8abf5, Cond.selects RJx4a65c yJx4a65c_size_8abf5 yJx4a65c_size_8abf5, Cond.initialized RJx4a65c, Cond.code yJx4a65c_size_8abf5 cJx4a65c_size_8abf5 1 (some .int), Cond.fieldLink RJx4a65c 48 "java/util/ArrayList" "size" "I"]
def wsL_come_r2 : List Cond := [Cond.methodLink RX4 147 yX1_init, Cond.instanceMethod yX1_init, Cond.code yX1_init cX1_init 4 none, Cond.methodLink RX1 3 objectInit, Cond.instanceMethod objectInit, Cond.code objectInit ⟨#[0xb1]⟩ 1 none, Cond.fieldLink RX1 9 "GhostInn$Guest" "bidRoom" "I", Cond.fieldLink RX1 15 "GhostInn$Guest" "coins" "I", Cond.fieldLink RX1 18 "GhostInn$Guest" "beds" "I", Cond.fieldLink RX1 21 "GhostInn$Guest" "nerve" "I", Cond.methodLink RX4 54 yJx4a65c_add_9ea2d, Cond.instanceMethod yJx4a65c_add_9ea2d, Cond.selects RJx4a65c yJx4a65c_add_9ea2d yJx4a65c_add_9ea2d, Cond.code yJx4a65c_add_9ea2d cJx4a65c_add_9ea2d 2 (some .boolean), Cond.fieldLink RJx4a65c 63 "java/util/ArrayList" "modCount" "I", Cond.sameField "java/util/ArrayList" "java/util/AbstractList" "modCount" "I", Cond.fieldLink RJx4a65c 9 "java/util/ArrayList" "elementData" "[Ljava/lang/Object;", Cond.methodLink RJx4a65c 131 yJx4a65c_add_72be8, Cond.instanceMethod yJx4a65c_add_72be8, Cond.selects RJx4a65c yJx4a65c_add_72be8 yJx4a65c_add_72be8, Cond.code yJx4a65c_add_72be8 cJx4a65c_add_72be8 4 none, Cond.methodLink RJx4a65c 129 yJx4a65c_grow_d5877, Cond.instanceMethod yJx4a65c_grow_d5877, Cond.selects RJx4a65c yJx4a65c_grow_d5877 yJx4a65c_grow_d5877]
def wsL_come_r3 : List Cond := [Cond.code yJx4a65c_grow_d5877 cJx4a65c_grow_d5877 1 (some (.array (.object "java/lang/Object"))), Cond.methodLink RJx4a65c 69 yJx4a65c_grow_92f84, Cond.instanceMethod yJx4a65c_grow_92f84, Cond.selects RJx4a65c yJx4a65c_grow_92f84 yJx4a65c_grow_92f84, Cond.code yJx4a65c_grow_92f84 cJx4a65c_grow_92f84 4 (some (.array (.object "java/lang/Object"))), Cond.fieldLink RJx4a65c 39 "java/util/ArrayList" "DEFAULTCAPACITY_EMPTY_ELEMENTDATA" "[Ljava/lang/Object;", Cond.methodLink RJx4a65c 79 Lib.Math.max.name, Cond.static Lib.Math.max.name, Cond.initialized "java/lang/Math", Cond.code Lib.Math.max.name Lib.Math.max.code 2 (some .int), Cond.classLink RJx4a65c 7 "java/lang/Object", Cond.methodLink RJx4a65c 73 yJ8_newLength_cabcc, Cond.static yJ8_newLength_cabcc, Cond.initialized RJ8, Cond.code yJ8_newLength_cabcc cJ8_newLength_cabcc 4 (some .int), Cond.methodLink RJ8 194 Lib.Math.max.name, Cond.constant RJ8 200 (2147483639), Cond.methodLink RJ8 201 yJ8_hugeLength_7cf53, Cond.static yJ8_hugeLength_7cf53, Cond.code yJ8_hugeLength_7cf53 cJ8_hugeLength_7cf53 3 (some .int), Cond.methodLink RJx4a65c 66 yJ7_copyOf_1904c, Cond.static yJ7_copyOf_1904c, Cond.initialized RJ7, Cond.code yJ7_copyOf_1904c cJ7_copyOf_1904c 2 (some (.array (.object "java/lang/Object")))]
def wsL_come_r4 : List Cond := [Cond.methodLink RJ7 86 ⟨"java/lang/Object", "getClass", "()Ljava/lang/Class;"⟩, Cond.selects "[Ljava/lang/Object;" ⟨"java/lang/Object", "getClass", "()Ljava/lang/Class;"⟩ ⟨"java/lang/Object", "getClass", "()Ljava/lang/Class;"⟩, Cond.instanceMethod ⟨"java/lang/Object", "getClass", "()Ljava/lang/Class;"⟩, Cond.native ⟨"java/lang/Object", "getClass", "()Ljava/lang/Class;"⟩, Cond.methodLink RJ7 300 yJ7_copyOf_6403c, Cond.static yJ7_copyOf_6403c, Cond.code yJ7_copyOf_6403c cJ7_copyOf_6403c 4 (some (.array (.object "java/lang/Object"))), Cond.classLink RJ7 110 "[Ljava/lang/Object;", Cond.classLink RJ7 2 "java/lang/Object", Cond.methodLink RJ7 304 Lib.Math.min.name, Cond.static Lib.Math.min.name, Cond.code Lib.Math.min.name Lib.Math.min.code 2 (some .int), Cond.methodLink RJ7 150 arraycopyName, Cond.native arraycopyName, Cond.static arraycopyName, Cond.initialized "java/lang/System"]
def wsL_come : List Cond := .codeWith yL_come cL_come 6 (some .int) [(0, 12, 15, 13), (0, 12, 19, 15)] :: ((wsL_come_r1 ++ (wsL_come_r2 ++ (wsL_come_r3 ++ wsL_come_r4))) ++ wsX40 ++ wsX10 ++ wsJx4a65c0 ++ (vx_atS RX4 37 "java/lang/IllegalArgumentException" ["java/lang/RuntimeException", "java/lang/Exception"]).filter goodWord ++ (vx_atS RX4 48 "java/lang/IllegalStateException" ["java/lang/RuntimeException", "java/lang/Exception"]).filter goodWord)
def wsL_bid_r1 : List Cond := [Cond.classLink RL 21 "java/lang/IndexOutOfBoundsException", Cond.classLink RL 13 "java/lang/IllegalArgumentException", Cond.methodLink RL 39 yX4_bid, Cond.instanceMethod yX4_bid, Cond.selects RX4 yX4_bid yX4_bid, Cond.initialized RX4, Cond.code yX4_bid cX4_bid 5 (some .boolean), Cond.classLink RX4 62 "java/lang/IndexOutOfBoundsException", Cond.initialized "java/lang/IndexOutOfBoundsException", Cond.classLink RX4 33 "java/lang/IllegalArgumentException", Cond.initialized "java/lang/IllegalArgumentException", Cond.fieldLink RX4 19 "GhostInn" "guests" "Ljava/util/ArrayList;", Cond.classLink RX4 145 "GhostInn$Guest", Cond.fieldLink RX4 10 "GhostInn" "rooms" "Ljava/util/ArrayList;", Cond.classLink RX4 49 "GhostInn$Room", Cond.methodLink RX4 148 yX4_isGuest, Cond.instanceMethod yX4_isGuest, Cond.selects RX4 yX4_isGuest yX4_isGuest, Cond.code yX4_isGuest cX4_isGuest 2 (some .boolean), Cond.methodLink RX4 40 yJx4a65c_size_8abf5, Cond.instanceMethod yJx4a65c_size_8abf5, Cond.selects RJx4a65c yJx4a65c_size_8abf5 yJx4a65c_size_8abf5, Cond.initialized RJx4a65c, Cond.code yJx4a65c_size_8abf5 cJx4a65c_size_8abf5 1 (some .int)]
def wsL_bid_r2 : List Cond := [Cond.fieldLink RJx4a65c 48 "java/util/ArrayList" "size" "I", Cond.methodLink RX4 58 yX4_isRoom, Cond.instanceMethod yX4_isRoom, Cond.selects RX4 yX4_isRoom yX4_isRoom, Cond.code yX4_isRoom cX4_isRoom 2 (some .boolean), Cond.methodLink RX4 29 yX4_within, Cond.static yX4_within, Cond.code yX4_within cX4_within 3 (some .boolean), Cond.methodLink RX4 69 yJx4a65c_get_915e3, Cond.instanceMethod yJx4a65c_get_915e3, Cond.selects RJx4a65c yJx4a65c_get_915e3 yJx4a65c_get_915e3, Cond.code yJx4a65c_get_915e3 cJx4a65c_get_915e3 2 (some (.object "java/lang/Object")), Cond.methodLink RJx4a65c 118 yJ15_checkIndex_7cf53, Cond.static yJ15_checkIndex_7cf53, Cond.initialized RJ15, Cond.code yJ15_checkIndex_7cf53 cJ15_checkIndex_7cf53 2 (some .int), Cond.methodLink RJ15 105 yJ3_checkIndex_8e157, Cond.static yJ3_checkIndex_8e157, Cond.initialized RJ3, Cond.code yJ3_checkIndex_8e157 cJ3_checkIndex_8e157 3 (some .int), Cond.methodLink RJx4a65c 123 yJx4a65c_elementData_915e3, Cond.instanceMethod yJx4a65c_elementData_915e3, Cond.selects RJx4a65c yJx4a65c_elementData_915e3 yJx4a65c_elementData_915e3, Cond.code yJx4a65c_elementData_915e3 cJx4a65c_elementData_915e3 2 (some (.object "java/lang/Object"))]
def wsL_bid_r3 : List Cond := [Cond.fieldLink RJx4a65c 9 "java/util/ArrayList" "elementData" "[Ljava/lang/Object;", Cond.methodLink RX4 155 yX1_writeBid, Cond.instanceMethod yX1_writeBid, Cond.selects RX1 yX1_writeBid yX1_writeBid, Cond.initialized RX1, Cond.code yX1_writeBid cX1_writeBid 3 none, Cond.fieldLink RX1 9 "GhostInn$Guest" "bidRoom" "I", Cond.fieldLink RX1 24 "GhostInn$Guest" "bidPrice" "I", Cond.methodLink RX4 159 yX1_couldBidFor, Cond.instanceMethod yX1_couldBidFor, Cond.selects RX1 yX1_couldBidFor yX1_couldBidFor, Cond.code yX1_couldBidFor cX1_couldBidFor 2 (some .boolean), Cond.fieldLink RX1 15 "GhostInn$Guest" "coins" "I", Cond.fieldLink RX1 27 "GhostInn$Room" "beds" "I", Cond.fieldLink RX1 18 "GhostInn$Guest" "beds" "I", Cond.fieldLink RX1 30 "GhostInn$Room" "least" "I"]
def wsL_bid : List Cond := .codeWith yL_bid cL_bid 6 (some .int) [(0, 19, 22, 21), (0, 19, 26, 13)] :: ((wsL_bid_r1 ++ (wsL_bid_r2 ++ wsL_bid_r3)) ++ wsX40 ++ wsJx4a65c0 ++ wsX10 ++ wsX20 ++ (vx_atS RX4 66 "java/lang/IndexOutOfBoundsException" ["java/lang/RuntimeException", "java/lang/Exception"]).filter goodWord ++ (vx_atS RX4 37 "java/lang/IllegalArgumentException" ["java/lang/RuntimeException", "java/lang/Exception"]).filter goodWord)
def wsL_leave_r1 : List Cond := [Cond.classLink RL 21 "java/lang/IndexOutOfBoundsException", Cond.methodLink RL 43 yX4_leave, Cond.instanceMethod yX4_leave, Cond.selects RX4 yX4_leave yX4_leave, Cond.initialized RX4, Cond.code yX4_leave cX4_leave 4 (some .int), Cond.classLink RX4 62 "java/lang/IndexOutOfBoundsException", Cond.initialized "java/lang/IndexOutOfBoundsException", Cond.fieldLink RX4 19 "GhostInn" "guests" "Ljava/util/ArrayList;", Cond.classLink RX4 145 "GhostInn$Guest", Cond.fieldLink RX4 163 "GhostInn$Guest" "bidRoom" "I", Cond.methodLink RX4 148 yX4_isGuest, Cond.instanceMethod yX4_isGuest, Cond.selects RX4 yX4_isGuest yX4_isGuest, Cond.code yX4_isGuest cX4_isGuest 2 (some .boolean), Cond.methodLink RX4 40 yJx4a65c_size_8abf5, Cond.instanceMethod yJx4a65c_size_8abf5, Cond.selects RJx4a65c yJx4a65c_size_8abf5 yJx4a65c_size_8abf5, Cond.initialized RJx4a65c, Cond.code yJx4a65c_size_8abf5 cJx4a65c_size_8abf5 1 (some .int), Cond.fieldLink RJx4a65c 48 "java/util/ArrayList" "size" "I", Cond.methodLink RX4 69 yJx4a65c_get_915e3, Cond.instanceMethod yJx4a65c_get_915e3, Cond.selects RJx4a65c yJx4a65c_get_915e3 yJx4a65c_get_915e3]
def wsL_leave_r2 : List Cond := [Cond.code yJx4a65c_get_915e3 cJx4a65c_get_915e3 2 (some (.object "java/lang/Object")), Cond.methodLink RJx4a65c 118 yJ15_checkIndex_7cf53, Cond.static yJ15_checkIndex_7cf53, Cond.initialized RJ15, Cond.code yJ15_checkIndex_7cf53 cJ15_checkIndex_7cf53 2 (some .int), Cond.methodLink RJ15 105 yJ3_checkIndex_8e157, Cond.static yJ3_checkIndex_8e157, Cond.initialized RJ3, Cond.code yJ3_checkIndex_8e157 cJ3_checkIndex_8e157 3 (some .int), Cond.methodLink RJx4a65c 123 yJx4a65c_elementData_915e3, Cond.instanceMethod yJx4a65c_elementData_915e3, Cond.selects RJx4a65c yJx4a65c_elementData_915e3 yJx4a65c_elementData_915e3, Cond.code yJx4a65c_elementData_915e3 cJx4a65c_elementData_915e3 2 (some (.object "java/lang/Object")), Cond.fieldLink RJx4a65c 9 "java/util/ArrayList" "elementData" "[Ljava/lang/Object;", Cond.methodLink RX4 166 yX1_dropBid, Cond.instanceMethod yX1_dropBid, Cond.selects RX1 yX1_dropBid yX1_dropBid, Cond.initialized RX1, Cond.code yX1_dropBid cX1_dropBid 1 none, Cond.fieldLink RX1 9 "GhostInn$Guest" "bidRoom" "I", Cond.fieldLink RX1 24 "GhostInn$Guest" "bidPrice" "I"]
def wsL_leave : List Cond := .codeWith yL_leave cL_leave 4 (some .int) [(0, 9, 12, 21)] :: ((wsL_leave_r1 ++ wsL_leave_r2) ++ wsX40 ++ wsX10 ++ wsJx4a65c0 ++ (vx_atS RX4 66 "java/lang/IndexOutOfBoundsException" ["java/lang/RuntimeException", "java/lang/Exception"]).filter goodWord)
def wsL_guest_r1 : List Cond := [Cond.classLink RL 21 "java/lang/IndexOutOfBoundsException", Cond.methodLink RL 47 yX4_guest, Cond.instanceMethod yX4_guest, Cond.selects RX4 yX4_guest yX4_guest, Cond.initialized RX4, Cond.code yX4_guest cX4_guest 4 (some .int), Cond.classLink RX4 62 "java/lang/IndexOutOfBoundsException", Cond.initialized "java/lang/IndexOutOfBoundsException", Cond.fieldLink RX4 19 "GhostInn" "guests" "Ljava/util/ArrayList;", Cond.classLink RX4 145 "GhostInn$Guest", Cond.fieldLink RX4 169 "GhostInn$Guest" "coins" "I", Cond.fieldLink RX4 172 "GhostInn$Guest" "beds" "I", Cond.fieldLink RX4 173 "GhostInn$Guest" "nerve" "I", Cond.fieldLink RX4 163 "GhostInn$Guest" "bidRoom" "I", Cond.fieldLink RX4 176 "GhostInn$Guest" "bidPrice" "I", Cond.fieldLink RX4 179 "GhostInn$Guest" "nightsStayed" "I", Cond.fieldLink RX4 182 "GhostInn$Guest" "nightsUpset" "I", Cond.methodLink RX4 148 yX4_isGuest, Cond.instanceMethod yX4_isGuest, Cond.selects RX4 yX4_isGuest yX4_isGuest, Cond.code yX4_isGuest cX4_isGuest 2 (some .boolean), Cond.methodLink RX4 40 yJx4a65c_size_8abf5, Cond.instanceMethod yJx4a65c_size_8abf5, Cond.selects RJx4a65c yJx4a65c_size_8abf5 yJx4a65c_size_8abf5]
def wsL_guest_r2 : List Cond := [Cond.initialized RJx4a65c, Cond.code yJx4a65c_size_8abf5 cJx4a65c_size_8abf5 1 (some .int), Cond.fieldLink RJx4a65c 48 "java/util/ArrayList" "size" "I", Cond.methodLink RX4 69 yJx4a65c_get_915e3, Cond.instanceMethod yJx4a65c_get_915e3, Cond.selects RJx4a65c yJx4a65c_get_915e3 yJx4a65c_get_915e3, Cond.code yJx4a65c_get_915e3 cJx4a65c_get_915e3 2 (some (.object "java/lang/Object")), Cond.methodLink RJx4a65c 118 yJ15_checkIndex_7cf53, Cond.static yJ15_checkIndex_7cf53, Cond.initialized RJ15, Cond.code yJ15_checkIndex_7cf53 cJ15_checkIndex_7cf53 2 (some .int), Cond.methodLink RJ15 105 yJ3_checkIndex_8e157, Cond.static yJ3_checkIndex_8e157, Cond.initialized RJ3, Cond.code yJ3_checkIndex_8e157 cJ3_checkIndex_8e157 3 (some .int), Cond.methodLink RJx4a65c 123 yJx4a65c_elementData_915e3, Cond.instanceMethod yJx4a65c_elementData_915e3, Cond.selects RJx4a65c yJx4a65c_elementData_915e3 yJx4a65c_elementData_915e3, Cond.code yJx4a65c_elementData_915e3 cJx4a65c_elementData_915e3 2 (some (.object "java/lang/Object")), Cond.fieldLink RJx4a65c 9 "java/util/ArrayList" "elementData" "[Ljava/lang/Object;"]
def wsL_guest : List Cond := .codeWith yL_guest cL_guest 5 (some .int) [(0, 10, 13, 21)] :: ((wsL_guest_r1 ++ wsL_guest_r2) ++ wsX40 ++ wsX10 ++ wsJx4a65c0 ++ (vx_atS RX4 66 "java/lang/IndexOutOfBoundsException" ["java/lang/RuntimeException", "java/lang/Exception"]).filter goodWord)
def wsL_wins_r1 : List Cond := [Cond.classLink RL 21 "java/lang/IndexOutOfBoundsException", Cond.methodLink RL 50 yX4_wins, Cond.instanceMethod yX4_wins, Cond.selects RX4 yX4_wins yX4_wins, Cond.initialized RX4, Cond.code yX4_wins cX4_wins 3 (some .int), Cond.classLink RX4 62 "java/lang/IndexOutOfBoundsException", Cond.initialized "java/lang/IndexOutOfBoundsException", Cond.methodLink RX4 58 yX4_isRoom, Cond.instanceMethod yX4_isRoom, Cond.selects RX4 yX4_isRoom yX4_isRoom, Cond.code yX4_isRoom cX4_isRoom 2 (some .boolean), Cond.fieldLink RX4 10 "GhostInn" "rooms" "Ljava/util/ArrayList;", Cond.methodLink RX4 40 yJx4a65c_size_8abf5, Cond.instanceMethod yJx4a65c_size_8abf5, Cond.selects RJx4a65c yJx4a65c_size_8abf5 yJx4a65c_size_8abf5, Cond.initialized RJx4a65c, Cond.code yJx4a65c_size_8abf5 cJx4a65c_size_8abf5 1 (some .int), Cond.fieldLink RJx4a65c 48 "java/util/ArrayList" "size" "I", Cond.methodLink RX4 187 yX4_winnerOf, Cond.instanceMethod yX4_winnerOf, Cond.selects RX4 yX4_winnerOf yX4_winnerOf, Cond.code yX4_winnerOf cX4_winnerOf 6 (some .int), Cond.fieldLink RX4 19 "GhostInn" "guests" "Ljava/util/ArrayList;"]
def wsL_wins_r2 : List Cond := [Cond.classLink RX4 145 "GhostInn$Guest", Cond.fieldLink RX4 176 "GhostInn$Guest" "bidPrice" "I", Cond.methodLink RX4 69 yJx4a65c_get_915e3, Cond.instanceMethod yJx4a65c_get_915e3, Cond.selects RJx4a65c yJx4a65c_get_915e3 yJx4a65c_get_915e3, Cond.code yJx4a65c_get_915e3 cJx4a65c_get_915e3 2 (some (.object "java/lang/Object")), Cond.methodLink RJx4a65c 118 yJ15_checkIndex_7cf53, Cond.static yJ15_checkIndex_7cf53, Cond.initialized RJ15, Cond.code yJ15_checkIndex_7cf53 cJ15_checkIndex_7cf53 2 (some .int), Cond.methodLink RJ15 105 yJ3_checkIndex_8e157, Cond.static yJ3_checkIndex_8e157, Cond.initialized RJ3, Cond.code yJ3_checkIndex_8e157 cJ3_checkIndex_8e157 3 (some .int), Cond.methodLink RJx4a65c 123 yJx4a65c_elementData_915e3, Cond.instanceMethod yJx4a65c_elementData_915e3, Cond.selects RJx4a65c yJx4a65c_elementData_915e3 yJx4a65c_elementData_915e3, Cond.code yJx4a65c_elementData_915e3 cJx4a65c_elementData_915e3 2 (some (.object "java/lang/Object")), Cond.fieldLink RJx4a65c 9 "java/util/ArrayList" "elementData" "[Ljava/lang/Object;", Cond.methodLink RX4 278 yX4_countsFor, Cond.instanceMethod yX4_countsFor, Cond.selects RX4 yX4_countsFor yX4_countsFor, Cond.code yX4_countsFor cX4_countsFor 3 (some .boolean), Cond.fieldLink RX4 163 "GhostInn$Guest" "bidRoom" "I"]
def wsL_wins_r3 : List Cond := [Cond.classLink RX4 49 "GhostInn$Room", Cond.methodLink RX4 159 yX1_couldBidFor, Cond.instanceMethod yX1_couldBidFor, Cond.selects RX1 yX1_couldBidFor yX1_couldBidFor, Cond.initialized RX1, Cond.code yX1_couldBidFor cX1_couldBidFor 2 (some .boolean), Cond.fieldLink RX1 15 "GhostInn$Guest" "coins" "I", Cond.fieldLink RX1 24 "GhostInn$Guest" "bidPrice" "I", Cond.fieldLink RX1 27 "GhostInn$Room" "beds" "I", Cond.fieldLink RX1 18 "GhostInn$Guest" "beds" "I", Cond.fieldLink RX1 30 "GhostInn$Room" "least" "I", Cond.methodLink RX4 190 yX4_dueFor, Cond.instanceMethod yX4_dueFor, Cond.selects RX4 yX4_dueFor yX4_dueFor, Cond.code yX4_dueFor cX4_dueFor 6 (some .int), Cond.fieldLink RX4 127 "GhostInn$Room" "least" "I", Cond.methodLink RX4 282 Lib.Math.max.name, Cond.static Lib.Math.max.name, Cond.initialized "java/lang/Math", Cond.code Lib.Math.max.name Lib.Math.max.code 2 (some .int), Cond.methodLink RX4 193 yX4_bidsThatCount, Cond.instanceMethod yX4_bidsThatCount, Cond.selects RX4 yX4_bidsThatCount yX4_bidsThatCount, Cond.code yX4_bidsThatCount cX4_bidsThatCount 4 (some .int)]
def wsL_wins : List Cond := .codeWith yL_wins cL_wins 5 (some .int) [(0, 10, 13, 21)] :: ((wsL_wins_r1 ++ (wsL_wins_r2 ++ wsL_wins_r3)) ++ wsX40 ++ wsJx4a65c0 ++ wsX10 ++ wsX20 ++ (vx_atS RX4 66 "java/lang/IndexOutOfBoundsException" ["java/lang/RuntimeException", "java/lang/Exception"]).filter goodWord)
def wsL_count_r1 : List Cond := [Cond.classLink RL 21 "java/lang/IndexOutOfBoundsException", Cond.methodLink RL 53 yX4_count, Cond.instanceMethod yX4_count, Cond.selects RX4 yX4_count yX4_count, Cond.initialized RX4, Cond.code yX4_count cX4_count 2 (some .int), Cond.classLink RX4 62 "java/lang/IndexOutOfBoundsException", Cond.initialized "java/lang/IndexOutOfBoundsException", Cond.fieldLink RX4 201 "GhostInn" "nightsGone" "I", Cond.fieldLink RX4 10 "GhostInn" "rooms" "Ljava/util/ArrayList;", Cond.fieldLink RX4 76 "GhostInn" "doors" "I", Cond.fieldLink RX4 16 "GhostInn" "ghosts" "Ljava/util/ArrayList;", Cond.fieldLink RX4 19 "GhostInn" "guests" "Ljava/util/ArrayList;", Cond.fieldLink RX4 204 "GhostInn" "coins" "I", Cond.fieldLink RX4 208 "GhostInn" "givenBack" "I", Cond.methodLink RX4 40 yJx4a65c_size_8abf5, Cond.instanceMethod yJx4a65c_size_8abf5, Cond.selects RJx4a65c yJx4a65c_size_8abf5 yJx4a65c_size_8abf5, Cond.initialized RJx4a65c, Cond.code yJx4a65c_size_8abf5 cJx4a65c_size_8abf5 1 (some .int), Cond.fieldLink RJx4a65c 48 "java/util/ArrayList" "size" "I", Cond.methodLink RX4 205 yX4_bidsWritten, Cond.instanceMethod yX4_bidsWritten, Cond.selects RX4 yX4_bidsWritten yX4_bidsWritten]
def wsL_count_r2 : List Cond := [Cond.code yX4_bidsWritten cX4_bidsWritten 3 (some .int), Cond.classLink RX4 145 "GhostInn$Guest", Cond.methodLink RX4 69 yJx4a65c_get_915e3, Cond.instanceMethod yJx4a65c_get_915e3, Cond.selects RJx4a65c yJx4a65c_get_915e3 yJx4a65c_get_915e3, Cond.code yJx4a65c_get_915e3 cJx4a65c_get_915e3 2 (some (.object "java/lang/Object")), Cond.methodLink RJx4a65c 118 yJ15_checkIndex_7cf53, Cond.static yJ15_checkIndex_7cf53, Cond.initialized RJ15, Cond.code yJ15_checkIndex_7cf53 cJ15_checkIndex_7cf53 2 (some .int), Cond.methodLink RJ15 105 yJ3_checkIndex_8e157, Cond.static yJ3_checkIndex_8e157, Cond.initialized RJ3, Cond.code yJ3_checkIndex_8e157 cJ3_checkIndex_8e157 3 (some .int), Cond.methodLink RJx4a65c 123 yJx4a65c_elementData_915e3, Cond.instanceMethod yJx4a65c_elementData_915e3, Cond.selects RJx4a65c yJx4a65c_elementData_915e3 yJx4a65c_elementData_915e3, Cond.code yJx4a65c_elementData_915e3 cJx4a65c_elementData_915e3 2 (some (.object "java/lang/Object")), Cond.fieldLink RJx4a65c 9 "java/util/ArrayList" "elementData" "[Ljava/lang/Object;", Cond.methodLink RX4 287 yX1_hasBid, Cond.instanceMethod yX1_hasBid, Cond.selects RX1 yX1_hasBid yX1_hasBid, Cond.initialized RX1, Cond.code yX1_hasBid cX1_hasBid 1 (some .boolean)]
def wsL_count_r3 : List Cond := [Cond.fieldLink RX1 9 "GhostInn$Guest" "bidRoom" "I", Cond.methodLink RX4 211 yX4_roomsToLet, Cond.instanceMethod yX4_roomsToLet, Cond.selects RX4 yX4_roomsToLet yX4_roomsToLet, Cond.code yX4_roomsToLet cX4_roomsToLet 3 (some .int), Cond.methodLink RX4 187 yX4_winnerOf, Cond.instanceMethod yX4_winnerOf, Cond.selects RX4 yX4_winnerOf yX4_winnerOf, Cond.code yX4_winnerOf cX4_winnerOf 6 (some .int), Cond.fieldLink RX4 176 "GhostInn$Guest" "bidPrice" "I", Cond.methodLink RX4 278 yX4_countsFor, Cond.instanceMethod yX4_countsFor, Cond.selects RX4 yX4_countsFor yX4_countsFor, Cond.code yX4_countsFor cX4_countsFor 3 (some .boolean), Cond.fieldLink RX4 163 "GhostInn$Guest" "bidRoom" "I", Cond.classLink RX4 49 "GhostInn$Room", Cond.methodLink RX4 58 yX4_isRoom, Cond.instanceMethod yX4_isRoom, Cond.selects RX4 yX4_isRoom yX4_isRoom, Cond.code yX4_isRoom cX4_isRoom 2 (some .boolean), Cond.methodLink RX4 159 yX1_couldBidFor, Cond.instanceMethod yX1_couldBidFor, Cond.selects RX1 yX1_couldBidFor yX1_couldBidFor, Cond.code yX1_couldBidFor cX1_couldBidFor 2 (some .boolean)]
def wsL_count_r4 : List Cond := [Cond.fieldLink RX1 15 "GhostInn$Guest" "coins" "I", Cond.fieldLink RX1 24 "GhostInn$Guest" "bidPrice" "I", Cond.fieldLink RX1 27 "GhostInn$Room" "beds" "I", Cond.fieldLink RX1 18 "GhostInn$Guest" "beds" "I", Cond.fieldLink RX1 30 "GhostInn$Room" "least" "I"]
def wsL_count : List Cond := .codeWith yL_count cL_count 4 (some .int) [(0, 9, 12, 21)] :: ((wsL_count_r1 ++ (wsL_count_r2 ++ (wsL_count_r3 ++ wsL_count_r4))) ++ wsX40 ++ wsJx4a65c0 ++ wsX10 ++ wsX20 ++ (vx_atS RX4 66 "java/lang/IndexOutOfBoundsException" ["java/lang/RuntimeException", "java/lang/Exception"]).filter goodWord)
def wsL_best_r1 : List Cond := [Cond.classLink RL 21 "java/lang/IndexOutOfBoundsException", Cond.methodLink RL 56 yX4_best, Cond.instanceMethod yX4_best, Cond.selects RX4 yX4_best yX4_best, Cond.initialized RX4, Cond.code yX4_best cX4_best 7 (some .int), Cond.classLink RX4 62 "java/lang/IndexOutOfBoundsException", Cond.initialized "java/lang/IndexOutOfBoundsException", Cond.fieldLink RX4 19 "GhostInn" "guests" "Ljava/util/ArrayList;", Cond.classLink RX4 145 "GhostInn$Guest", Cond.fieldLink RX4 10 "GhostInn" "rooms" "Ljava/util/ArrayList;", Cond.classLink RX4 49 "GhostInn$Room", Cond.fieldLink RX4 124 "GhostInn$Room" "comfort" "I", Cond.fieldLink RX4 121 "GhostInn$Room" "beds" "I", Cond.fieldLink RX4 172 "GhostInn$Guest" "beds" "I", Cond.fieldLink RX4 127 "GhostInn$Room" "least" "I", Cond.fieldLink RX4 169 "GhostInn$Guest" "coins" "I", Cond.methodLink RX4 148 yX4_isGuest, Cond.instanceMethod yX4_isGuest, Cond.selects RX4 yX4_isGuest yX4_isGuest, Cond.code yX4_isGuest cX4_isGuest 2 (some .boolean), Cond.methodLink RX4 40 yJx4a65c_size_8abf5, Cond.instanceMethod yJx4a65c_size_8abf5, Cond.selects RJx4a65c yJx4a65c_size_8abf5 yJx4a65c_size_8abf5]
def wsL_best_r2 : List Cond := [Cond.initialized RJx4a65c, Cond.code yJx4a65c_size_8abf5 cJx4a65c_size_8abf5 1 (some .int), Cond.fieldLink RJx4a65c 48 "java/util/ArrayList" "size" "I", Cond.methodLink RX4 69 yJx4a65c_get_915e3, Cond.instanceMethod yJx4a65c_get_915e3, Cond.selects RJx4a65c yJx4a65c_get_915e3 yJx4a65c_get_915e3, Cond.code yJx4a65c_get_915e3 cJx4a65c_get_915e3 2 (some (.object "java/lang/Object")), Cond.methodLink RJx4a65c 118 yJ15_checkIndex_7cf53, Cond.static yJ15_checkIndex_7cf53, Cond.initialized RJ15, Cond.code yJ15_checkIndex_7cf53 cJ15_checkIndex_7cf53 2 (some .int), Cond.methodLink RJ15 105 yJ3_checkIndex_8e157, Cond.static yJ3_checkIndex_8e157, Cond.initialized RJ3, Cond.code yJ3_checkIndex_8e157 cJ3_checkIndex_8e157 3 (some .int), Cond.methodLink RJx4a65c 123 yJx4a65c_elementData_915e3, Cond.instanceMethod yJx4a65c_elementData_915e3, Cond.selects RJx4a65c yJx4a65c_elementData_915e3 yJx4a65c_elementData_915e3, Cond.code yJx4a65c_elementData_915e3 cJx4a65c_elementData_915e3 2 (some (.object "java/lang/Object")), Cond.fieldLink RJx4a65c 9 "java/util/ArrayList" "elementData" "[Ljava/lang/Object;", Cond.methodLink RX4 113 yX4_hauntingOfNight, Cond.instanceMethod yX4_hauntingOfNight, Cond.selects RX4 yX4_hauntingOfNight yX4_hauntingOfNight, Cond.code yX4_hauntingOfNight cX4_hauntingOfNight 5 (some .int)]
def wsL_best_r3 : List Cond := [Cond.methodLink RX4 117 yX4_hauntingInHour, Cond.instanceMethod yX4_hauntingInHour, Cond.selects RX4 yX4_hauntingInHour yX4_hauntingInHour, Cond.code yX4_hauntingInHour cX4_hauntingInHour 7 (some .int), Cond.fieldLink RX4 16 "GhostInn" "ghosts" "Ljava/util/ArrayList;", Cond.classLink RX4 93 "GhostInn$Ghost", Cond.fieldLink RX4 275 "GhostInn$Ghost" "fright" "I", Cond.methodLink RX4 109 yX0_placeIn, Cond.instanceMethod yX0_placeIn, Cond.selects RX0 yX0_placeIn yX0_placeIn, Cond.initialized RX0, Cond.code yX0_placeIn cX0_placeIn 2 (some .int), Cond.fieldLink RX0 9 "GhostInn$Ghost" "places" "[I", Cond.methodLink RX4 216 yX1_isUpsetBy, Cond.instanceMethod yX1_isUpsetBy, Cond.selects RX1 yX1_isUpsetBy yX1_isUpsetBy, Cond.initialized RX1, Cond.code yX1_isUpsetBy cX1_isUpsetBy 3 (some .boolean), Cond.fieldLink RX1 21 "GhostInn$Guest" "nerve" "I", Cond.methodLink RX1 33 yX1_isFrightenedBy, Cond.instanceMethod yX1_isFrightenedBy, Cond.selects RX1 yX1_isFrightenedBy yX1_isFrightenedBy, Cond.code yX1_isFrightenedBy cX1_isFrightenedBy 2 (some .boolean)]
def wsL_best : List Cond := .codeWith yL_best cL_best 4 (some .int) [(0, 9, 12, 21)] :: ((wsL_best_r1 ++ (wsL_best_r2 ++ wsL_best_r3)) ++ wsX40 ++ wsX20 ++ wsX10 ++ wsJx4a65c0 ++ wsX00 ++ (vx_atS RX4 66 "java/lang/IndexOutOfBoundsException" ["java/lang/RuntimeException", "java/lang/Exception"]).filter goodWord)
def wsL_scares_r1 : List Cond := [Cond.classLink RL 21 "java/lang/IndexOutOfBoundsException", Cond.methodLink RL 59 yX4_scares, Cond.instanceMethod yX4_scares, Cond.selects RX4 yX4_scares yX4_scares, Cond.initialized RX4, Cond.code yX4_scares cX4_scares 2 (some .int), Cond.classLink RX4 62 "java/lang/IndexOutOfBoundsException", Cond.initialized "java/lang/IndexOutOfBoundsException", Cond.methodLink RX4 102 yX4_isGhost, Cond.instanceMethod yX4_isGhost, Cond.selects RX4 yX4_isGhost yX4_isGhost, Cond.code yX4_isGhost cX4_isGhost 2 (some .boolean), Cond.fieldLink RX4 16 "GhostInn" "ghosts" "Ljava/util/ArrayList;", Cond.methodLink RX4 40 yJx4a65c_size_8abf5, Cond.instanceMethod yJx4a65c_size_8abf5, Cond.selects RJx4a65c yJx4a65c_size_8abf5 yJx4a65c_size_8abf5, Cond.initialized RJx4a65c, Cond.code yJx4a65c_size_8abf5 cJx4a65c_size_8abf5 1 (some .int), Cond.fieldLink RJx4a65c 48 "java/util/ArrayList" "size" "I", Cond.methodLink RX4 231 yX4_backTonight, Cond.instanceMethod yX4_backTonight, Cond.selects RX4 yX4_backTonight yX4_backTonight, Cond.code yX4_backTonight cX4_backTonight 5 (some .int), Cond.fieldLink RX4 10 "GhostInn" "rooms" "Ljava/util/ArrayList;"]
def wsL_scares_r2 : List Cond := [Cond.fieldLink RX4 19 "GhostInn" "guests" "Ljava/util/ArrayList;", Cond.classLink RX4 145 "GhostInn$Guest", Cond.methodLink RX4 187 yX4_winnerOf, Cond.instanceMethod yX4_winnerOf, Cond.selects RX4 yX4_winnerOf yX4_winnerOf, Cond.code yX4_winnerOf cX4_winnerOf 6 (some .int), Cond.fieldLink RX4 176 "GhostInn$Guest" "bidPrice" "I", Cond.methodLink RX4 69 yJx4a65c_get_915e3, Cond.instanceMethod yJx4a65c_get_915e3, Cond.selects RJx4a65c yJx4a65c_get_915e3 yJx4a65c_get_915e3, Cond.code yJx4a65c_get_915e3 cJx4a65c_get_915e3 2 (some (.object "java/lang/Object")), Cond.methodLink RJx4a65c 118 yJ15_checkIndex_7cf53, Cond.static yJ15_checkIndex_7cf53, Cond.initialized RJ15, Cond.code yJ15_checkIndex_7cf53 cJ15_checkIndex_7cf53 2 (some .int), Cond.methodLink RJ15 105 yJ3_checkIndex_8e157, Cond.static yJ3_checkIndex_8e157, Cond.initialized RJ3, Cond.code yJ3_checkIndex_8e157 cJ3_checkIndex_8e157 3 (some .int), Cond.methodLink RJx4a65c 123 yJx4a65c_elementData_915e3, Cond.instanceMethod yJx4a65c_elementData_915e3, Cond.selects RJx4a65c yJx4a65c_elementData_915e3 yJx4a65c_elementData_915e3, Cond.code yJx4a65c_elementData_915e3 cJx4a65c_elementData_915e3 2 (some (.object "java/lang/Object")), Cond.fieldLink RJx4a65c 9 "java/util/ArrayList" "elementData" "[Ljava/lang/Object;"]
def wsL_scares_r3 : List Cond := [Cond.methodLink RX4 278 yX4_countsFor, Cond.instanceMethod yX4_countsFor, Cond.selects RX4 yX4_countsFor yX4_countsFor, Cond.code yX4_countsFor cX4_countsFor 3 (some .boolean), Cond.fieldLink RX4 163 "GhostInn$Guest" "bidRoom" "I", Cond.classLink RX4 49 "GhostInn$Room", Cond.methodLink RX4 58 yX4_isRoom, Cond.instanceMethod yX4_isRoom, Cond.selects RX4 yX4_isRoom yX4_isRoom, Cond.code yX4_isRoom cX4_isRoom 2 (some .boolean), Cond.methodLink RX4 159 yX1_couldBidFor, Cond.instanceMethod yX1_couldBidFor, Cond.selects RX1 yX1_couldBidFor yX1_couldBidFor, Cond.initialized RX1, Cond.code yX1_couldBidFor cX1_couldBidFor 2 (some .boolean), Cond.fieldLink RX1 15 "GhostInn$Guest" "coins" "I", Cond.fieldLink RX1 24 "GhostInn$Guest" "bidPrice" "I", Cond.fieldLink RX1 27 "GhostInn$Room" "beds" "I", Cond.fieldLink RX1 18 "GhostInn$Guest" "beds" "I", Cond.fieldLink RX1 30 "GhostInn$Room" "least" "I", Cond.methodLink RX4 148 yX4_isGuest, Cond.instanceMethod yX4_isGuest, Cond.selects RX4 yX4_isGuest yX4_isGuest, Cond.code yX4_isGuest cX4_isGuest 2 (some .boolean)]
def wsL_scares_r4 : List Cond := [Cond.methodLink RX4 113 yX4_hauntingOfNight, Cond.instanceMethod yX4_hauntingOfNight, Cond.selects RX4 yX4_hauntingOfNight yX4_hauntingOfNight, Cond.code yX4_hauntingOfNight cX4_hauntingOfNight 5 (some .int), Cond.methodLink RX4 117 yX4_hauntingInHour, Cond.instanceMethod yX4_hauntingInHour, Cond.selects RX4 yX4_hauntingInHour yX4_hauntingInHour, Cond.code yX4_hauntingInHour cX4_hauntingInHour 7 (some .int), Cond.classLink RX4 93 "GhostInn$Ghost", Cond.fieldLink RX4 275 "GhostInn$Ghost" "fright" "I", Cond.methodLink RX4 109 yX0_placeIn, Cond.instanceMethod yX0_placeIn, Cond.selects RX0 yX0_placeIn yX0_placeIn, Cond.initialized RX0, Cond.code yX0_placeIn cX0_placeIn 2 (some .int), Cond.fieldLink RX0 9 "GhostInn$Ghost" "places" "[I", Cond.methodLink RX4 216 yX1_isUpsetBy, Cond.instanceMethod yX1_isUpsetBy, Cond.selects RX1 yX1_isUpsetBy yX1_isUpsetBy, Cond.code yX1_isUpsetBy cX1_isUpsetBy 3 (some .boolean), Cond.fieldLink RX1 21 "GhostInn$Guest" "nerve" "I", Cond.methodLink RX1 33 yX1_isFrightenedBy, Cond.instanceMethod yX1_isFrightenedBy, Cond.selects RX1 yX1_isFrightenedBy yX1_isFrightenedBy]
def wsL_scares_r5 : List Cond := [Cond.code yX1_isFrightenedBy cX1_isFrightenedBy 2 (some .boolean), Cond.methodLink RX4 190 yX4_dueFor, Cond.instanceMethod yX4_dueFor, Cond.selects RX4 yX4_dueFor yX4_dueFor, Cond.code yX4_dueFor cX4_dueFor 6 (some .int), Cond.fieldLink RX4 127 "GhostInn$Room" "least" "I", Cond.methodLink RX4 282 Lib.Math.max.name, Cond.static Lib.Math.max.name, Cond.initialized "java/lang/Math", Cond.code Lib.Math.max.name Lib.Math.max.code 2 (some .int)]
def wsL_scares : List Cond := .codeWith yL_scares cL_scares 4 (some .int) [(0, 9, 12, 21)] :: ((wsL_scares_r1 ++ (wsL_scares_r2 ++ (wsL_scares_r3 ++ (wsL_scares_r4 ++ wsL_scares_r5)))) ++ wsX40 ++ wsJx4a65c0 ++ wsX10 ++ wsX20 ++ wsX00 ++ (vx_atS RX4 66 "java/lang/IndexOutOfBoundsException" ["java/lang/RuntimeException", "java/lang/Exception"]).filter goodWord)
def wsL_law0_r1 : List Cond := [Cond.classLink RL 8 RX4, Cond.instantiable RX4 8, Cond.initialized RX4, Cond.classLink RL 63 RX5, Cond.instantiable RX5 11, Cond.initialized RX5, Cond.arrayClass .long, Cond.methodLink RL 62 yX4_init, Cond.instanceMethod yX4_init, Cond.code yX4_init cX4_init 1 none, Cond.methodLink RX4 1 objectInit, Cond.instanceMethod objectInit, Cond.code objectInit ⟨#[0xb1]⟩ 1 none, Cond.classLink RX4 7 RJx4a65c, Cond.instantiable RJx4a65c 3, Cond.initialized RJx4a65c, Cond.fieldLink RX4 10 "GhostInn" "rooms" "Ljava/util/ArrayList;", Cond.fieldLink RX4 16 "GhostInn" "ghosts" "Ljava/util/ArrayList;", Cond.fieldLink RX4 19 "GhostInn" "guests" "Ljava/util/ArrayList;", Cond.classLink RX4 22 RX3, Cond.instantiable RX3 3, Cond.initialized RX3, Cond.fieldLink RX4 25 "GhostInn" "seating" "LGhostInn$Seating;", Cond.methodLink RX4 9 yJx4a65c_init_da8c8]
def wsL_law0_r2 : List Cond := [Cond.instanceMethod yJx4a65c_init_da8c8, Cond.code yJx4a65c_init_da8c8 cJx4a65c_init_da8c8 1 none, Cond.fieldLink RJx4a65c 39 "java/util/ArrayList" "DEFAULTCAPACITY_EMPTY_ELEMENTDATA" "[Ljava/lang/Object;", Cond.fieldLink RJx4a65c 9 "java/util/ArrayList" "elementData" "[Ljava/lang/Object;", Cond.methodLink RJx4a65c 1 yJxc12de_init_da8c8, Cond.instanceMethod yJxc12de_init_da8c8, Cond.initialized RJxc12de, Cond.code yJxc12de_init_da8c8 cJxc12de_init_da8c8 1 none, Cond.fieldLink RJxc12de 7 "java/util/AbstractList" "modCount" "I", Cond.methodLink RJxc12de 1 yJxa1e45_init_da8c8, Cond.instanceMethod yJxa1e45_init_da8c8, Cond.initialized RJxa1e45, Cond.code yJxa1e45_init_da8c8 cJxa1e45_init_da8c8 1 none, Cond.methodLink RJxa1e45 1 objectInit, Cond.instanceMethod yX3_init, Cond.code yX3_init cX3_init 1 none, Cond.methodLink RX3 3 objectInit, Cond.arrayClass .int, Cond.fieldLink RX3 9 "GhostInn$Seating" "allowedBits" "[I", Cond.fieldLink RX3 15 "GhostInn$Seating" "holders" "[I", Cond.methodLink RL 65 yX5_init, Cond.instanceMethod yX5_init, Cond.code yX5_init cX5_init 1 none, Cond.methodLink RX5 1 objectInit]
def wsL_law0_r3 : List Cond := [Cond.fieldLink RX5 9 "GhostInnModel" "house" "[I", Cond.fieldLink RX5 13 "GhostInnModel" "joined" "[I", Cond.fieldLink RX5 16 "GhostInnModel" "spooks" "[I", Cond.fieldLink RX5 19 "GhostInnModel" "people" "[I", Cond.fieldLink RX5 22 "GhostInnModel" "numbers" "[I", Cond.fieldLink RX5 25 "GhostInnModel" "taken" "[I", Cond.methodLink RL 66 yL_furnish, Cond.static yL_furnish, Cond.initialized RL, Cond.codeWith yL_furnish cL_furnish 6 (some .int) [(0, 12, 15, 13), (0, 12, 19, 15)], Cond.classLink RL 13 "java/lang/IllegalArgumentException", Cond.classLink RL 15 "java/lang/IllegalStateException", Cond.methodLink RL 7 yX4_furnish, Cond.instanceMethod yX4_furnish, Cond.selects RX4 yX4_furnish yX4_furnish, Cond.code yX4_furnish cX4_furnish 4 (some .int), Cond.classLink RX4 33 "java/lang/IllegalArgumentException", Cond.initialized "java/lang/IllegalArgumentException", Cond.classLink RX4 44 "java/lang/IllegalStateException", Cond.initialized "java/lang/IllegalStateException", Cond.classLink RX4 49 RX2, Cond.instantiable RX2 6, Cond.initialized RX2, Cond.methodLink RX4 29 yX4_within]
def wsL_law0_r4 : List Cond := [Cond.static yX4_within, Cond.code yX4_within cX4_within 3 (some .boolean), Cond.methodLink RX4 40 yJx4a65c_size_8abf5, Cond.instanceMethod yJx4a65c_size_8abf5, Cond.selects RJx4a65c yJx4a65c_size_8abf5 yJx4a65c_size_8abf5, Cond.code yJx4a65c_size_8abf5 cJx4a65c_size_8abf5 1 (some .int), Cond.fieldLink RJx4a65c 48 "java/util/ArrayList" "size" "I", Cond.methodLink RX4 51 yX2_init, Cond.instanceMethod yX2_init, Cond.code yX2_init cX2_init 4 none, Cond.methodLink RX2 1 objectInit, Cond.fieldLink RX2 7 "GhostInn$Room" "beds" "I", Cond.fieldLink RX2 13 "GhostInn$Room" "comfort" "I", Cond.fieldLink RX2 16 "GhostInn$Room" "least" "I", Cond.methodLink RX4 54 yJx4a65c_add_9ea2d, Cond.instanceMethod yJx4a65c_add_9ea2d, Cond.selects RJx4a65c yJx4a65c_add_9ea2d yJx4a65c_add_9ea2d, Cond.code yJx4a65c_add_9ea2d cJx4a65c_add_9ea2d 2 (some .boolean), Cond.fieldLink RJx4a65c 63 "java/util/ArrayList" "modCount" "I", Cond.sameField "java/util/ArrayList" "java/util/AbstractList" "modCount" "I", Cond.methodLink RJx4a65c 131 yJx4a65c_add_72be8, Cond.instanceMethod yJx4a65c_add_72be8, Cond.selects RJx4a65c yJx4a65c_add_72be8 yJx4a65c_add_72be8, Cond.code yJx4a65c_add_72be8 cJx4a65c_add_72be8 4 none]
def wsL_law0_r5 : List Cond := [Cond.methodLink RJx4a65c 129 yJx4a65c_grow_d5877, Cond.instanceMethod yJx4a65c_grow_d5877, Cond.selects RJx4a65c yJx4a65c_grow_d5877 yJx4a65c_grow_d5877, Cond.code yJx4a65c_grow_d5877 cJx4a65c_grow_d5877 1 (some (.array (.object "java/lang/Object"))), Cond.methodLink RJx4a65c 69 yJx4a65c_grow_92f84, Cond.instanceMethod yJx4a65c_grow_92f84, Cond.selects RJx4a65c yJx4a65c_grow_92f84 yJx4a65c_grow_92f84, Cond.code yJx4a65c_grow_92f84 cJx4a65c_grow_92f84 4 (some (.array (.object "java/lang/Object"))), Cond.methodLink RJx4a65c 79 Lib.Math.max.name, Cond.static Lib.Math.max.name, Cond.initialized "java/lang/Math", Cond.code Lib.Math.max.name Lib.Math.max.code 2 (some .int), Cond.classLink RJx4a65c 7 "java/lang/Object", Cond.methodLink RJx4a65c 73 yJ8_newLength_cabcc, Cond.static yJ8_newLength_cabcc, Cond.initialized RJ8, Cond.code yJ8_newLength_cabcc cJ8_newLength_cabcc 4 (some .int), Cond.methodLink RJ8 194 Lib.Math.max.name, Cond.constant RJ8 200 (2147483639), Cond.methodLink RJ8 201 yJ8_hugeLength_7cf53, Cond.static yJ8_hugeLength_7cf53, Cond.code yJ8_hugeLength_7cf53 cJ8_hugeLength_7cf53 3 (some .int), Cond.methodLink RJx4a65c 66 yJ7_copyOf_1904c, Cond.static yJ7_copyOf_1904c]
def wsL_law0_r6 : List Cond := [Cond.initialized RJ7, Cond.code yJ7_copyOf_1904c cJ7_copyOf_1904c 2 (some (.array (.object "java/lang/Object"))), Cond.methodLink RJ7 86 ⟨"java/lang/Object", "getClass", "()Ljava/lang/Class;"⟩, Cond.selects "[Ljava/lang/Object;" ⟨"java/lang/Object", "getClass", "()Ljava/lang/Class;"⟩ ⟨"java/lang/Object", "getClass", "()Ljava/lang/Class;"⟩, Cond.instanceMethod ⟨"java/lang/Object", "getClass", "()Ljava/lang/Class;"⟩, Cond.native ⟨"java/lang/Object", "getClass", "()Ljava/lang/Class;"⟩, Cond.methodLink RJ7 300 yJ7_copyOf_6403c, Cond.static yJ7_copyOf_6403c, Cond.code yJ7_copyOf_6403c cJ7_copyOf_6403c 4 (some (.array (.object "java/lang/Object"))), Cond.classLink RJ7 110 "[Ljava/lang/Object;", Cond.classLink RJ7 2 "java/lang/Object", Cond.methodLink RJ7 304 Lib.Math.min.name, Cond.static Lib.Math.min.name, Cond.code Lib.Math.min.name Lib.Math.min.code 2 (some .int), Cond.methodLink RJ7 150 arraycopyName, Cond.native arraycopyName, Cond.static arraycopyName, Cond.initialized "java/lang/System", Cond.methodLink RL 71 yX5_furnish, Cond.instanceMethod yX5_furnish, Cond.selects RX5 yX5_furnish yX5_furnish, Cond.code yX5_furnish cX5_furnish 5 (some .int), Cond.fieldLink RX5 28 "GhostInnModel" "thrown" "I", Cond.fieldLink RX5 32 "GhostInnModel" "rooms" "I"]
def wsL_law0_r7 : List Cond := [Cond.methodLink RX5 49 arraycopyName, Cond.methodLink RX5 35 yX5_isIn, Cond.static yX5_isIn, Cond.code yX5_isIn cX5_isIn 3 (some .boolean), Cond.methodLink RX5 45 yX5_fail, Cond.instanceMethod yX5_fail, Cond.selects RX5 yX5_fail yX5_fail, Cond.code yX5_fail cX5_fail 2 (some .int), Cond.methodLink RL 72 yX5_thrown, Cond.instanceMethod yX5_thrown, Cond.selects RX5 yX5_thrown yX5_thrown, Cond.code yX5_thrown cX5_thrown 1 (some .int), Cond.methodLink RL 76 yL_door, Cond.static yL_door, Cond.codeWith yL_door cL_door 5 (some .int) [(0, 10, 13, 21), (0, 10, 17, 13), (0, 10, 21, 15)], Cond.classLink RL 21 "java/lang/IndexOutOfBoundsException", Cond.methodLink RL 17 yX4_door, Cond.instanceMethod yX4_door, Cond.selects RX4 yX4_door yX4_door, Cond.code yX4_door cX4_door 5 (some .int), Cond.classLink RX4 62 "java/lang/IndexOutOfBoundsException", Cond.initialized "java/lang/IndexOutOfBoundsException", Cond.classLink RX4 49 "GhostInn$Room", Cond.fieldLink RX4 76 "GhostInn" "doors" "I"]
def wsL_law0_r8 : List Cond := [Cond.methodLink RX4 58 yX4_isRoom, Cond.instanceMethod yX4_isRoom, Cond.selects RX4 yX4_isRoom yX4_isRoom, Cond.code yX4_isRoom cX4_isRoom 2 (some .boolean), Cond.methodLink RX4 69 yJx4a65c_get_915e3, Cond.instanceMethod yJx4a65c_get_915e3, Cond.selects RJx4a65c yJx4a65c_get_915e3 yJx4a65c_get_915e3, Cond.code yJx4a65c_get_915e3 cJx4a65c_get_915e3 2 (some (.object "java/lang/Object")), Cond.methodLink RJx4a65c 118 yJ15_checkIndex_7cf53, Cond.static yJ15_checkIndex_7cf53, Cond.initialized RJ15, Cond.code yJ15_checkIndex_7cf53 cJ15_checkIndex_7cf53 2 (some .int), Cond.methodLink RJ15 105 yJ3_checkIndex_8e157, Cond.static yJ3_checkIndex_8e157, Cond.initialized RJ3, Cond.code yJ3_checkIndex_8e157 cJ3_checkIndex_8e157 3 (some .int), Cond.methodLink RJx4a65c 123 yJx4a65c_elementData_915e3, Cond.instanceMethod yJx4a65c_elementData_915e3, Cond.selects RJx4a65c yJx4a65c_elementData_915e3 yJx4a65c_elementData_915e3, Cond.code yJx4a65c_elementData_915e3 cJx4a65c_elementData_915e3 2 (some (.object "java/lang/Object")), Cond.methodLink RX4 73 yX2_leadsTo, Cond.instanceMethod yX2_leadsTo, Cond.selects RX2 yX2_leadsTo yX2_leadsTo, Cond.code yX2_leadsTo cX2_leadsTo 2 (some .boolean)]
def wsL_law0_r9 : List Cond := [Cond.fieldLink RX2 19 "GhostInn$Room" "doorBits" "I", Cond.methodLink RX4 82 yX2_openTo, Cond.instanceMethod yX2_openTo, Cond.selects RX2 yX2_openTo yX2_openTo, Cond.code yX2_openTo cX2_openTo 2 none, Cond.methodLink RX4 86 yX4_planAllWays, Cond.instanceMethod yX4_planAllWays, Cond.selects RX4 yX4_planAllWays yX4_planAllWays, Cond.code yX4_planAllWays cX4_planAllWays 2 none, Cond.classLink RX4 93 "GhostInn$Ghost", Cond.methodLink RX4 98 yX4_planWay, Cond.instanceMethod yX4_planWay, Cond.selects RX4 yX4_planWay yX4_planWay, Cond.code yX4_planWay cX4_planWay 4 none, Cond.fieldLink RX4 260 "GhostInn$Ghost" "home" "I", Cond.fieldLink RX4 263 "GhostInn$Ghost" "wakes" "I", Cond.methodLink RX4 266 yX4_nextRoom, Cond.instanceMethod yX4_nextRoom, Cond.selects RX4 yX4_nextRoom yX4_nextRoom, Cond.code yX4_nextRoom cX4_nextRoom 5 (some .int), Cond.methodLink RX4 269 yX0_isAwakeIn, Cond.instanceMethod yX0_isAwakeIn, Cond.selects RX0 yX0_isAwakeIn yX0_isAwakeIn, Cond.initialized RX0]
def wsL_law0_r10 : List Cond := [Cond.code yX0_isAwakeIn cX0_isAwakeIn 2 (some .boolean), Cond.fieldLink RX0 22 "GhostInn$Ghost" "wakes" "I", Cond.fieldLink RX0 25 "GhostInn$Ghost" "bed" "I", Cond.methodLink RX4 272 yX0_setPlace, Cond.instanceMethod yX0_setPlace, Cond.selects RX0 yX0_setPlace yX0_setPlace, Cond.code yX0_setPlace cX0_setPlace 3 none, Cond.fieldLink RX0 9 "GhostInn$Ghost" "places" "[I", Cond.methodLink RL 79 yX5_door, Cond.instanceMethod yX5_door, Cond.selects RX5 yX5_door yX5_door, Cond.code yX5_door cX5_door 3 (some .int), Cond.fieldLink RX5 59 "GhostInnModel" "doors" "I", Cond.methodLink RX5 55 yX5_isRoom, Cond.instanceMethod yX5_isRoom, Cond.selects RX5 yX5_isRoom yX5_isRoom, Cond.code yX5_isRoom cX5_isRoom 2 (some .boolean), Cond.methodLink RL 80 yL_haunt, Cond.static yL_haunt, Cond.codeWith yL_haunt cL_haunt 7 (some .int) [(0, 14, 17, 21), (0, 14, 21, 13), (0, 14, 25, 15)], Cond.methodLink RL 23 yX4_haunt, Cond.instanceMethod yX4_haunt, Cond.selects RX4 yX4_haunt yX4_haunt, Cond.code yX4_haunt cX4_haunt 6 (some .int)]
def wsL_law0_r11 : List Cond := [Cond.classLink RX4 93 RX0, Cond.instantiable RX0 5, Cond.methodLink RX4 95 yX0_init, Cond.instanceMethod yX0_init, Cond.code yX0_init cX0_init 5 none, Cond.methodLink RX0 3 objectInit, Cond.fieldLink RX0 15 "GhostInn$Ghost" "home" "I", Cond.fieldLink RX0 19 "GhostInn$Ghost" "fright" "I", Cond.methodLink RL 83 yX5_haunt, Cond.instanceMethod yX5_haunt, Cond.selects RX5 yX5_haunt yX5_haunt, Cond.code yX5_haunt cX5_haunt 6 (some .int), Cond.fieldLink RX5 39 "GhostInnModel" "ghosts" "I", Cond.methodLink RL 84 yL_at, Cond.static yL_at, Cond.codeWith yL_at cL_at 5 (some .int) [(0, 10, 13, 21)], Cond.methodLink RL 27 yX4_at, Cond.instanceMethod yX4_at, Cond.selects RX4 yX4_at yX4_at, Cond.code yX4_at cX4_at 3 (some .int), Cond.methodLink RX4 102 yX4_isGhost, Cond.instanceMethod yX4_isGhost, Cond.selects RX4 yX4_isGhost yX4_isGhost, Cond.code yX4_isGhost cX4_isGhost 2 (some .boolean)]
def wsL_law0_r12 : List Cond := [Cond.methodLink RX4 109 yX0_placeIn, Cond.instanceMethod yX0_placeIn, Cond.selects RX0 yX0_placeIn yX0_placeIn, Cond.code yX0_placeIn cX0_placeIn 2 (some .int), Cond.methodLink RL 86 yX5_at, Cond.instanceMethod yX5_at, Cond.selects RX5 yX5_at yX5_at, Cond.code yX5_at cX5_at 3 (some .int), Cond.methodLink RX5 74 yX5_isGhost, Cond.instanceMethod yX5_isGhost, Cond.selects RX5 yX5_isGhost yX5_isGhost, Cond.code yX5_isGhost cX5_isGhost 2 (some .boolean), Cond.methodLink RX5 77 yX5_place, Cond.instanceMethod yX5_place, Cond.selects RX5 yX5_place yX5_place, Cond.code yX5_place cX5_place 5 (some .int), Cond.methodLink RX5 67 yX5_sp, Cond.instanceMethod yX5_sp, Cond.selects RX5 yX5_sp yX5_sp, Cond.code yX5_sp cX5_sp 3 (some .int), Cond.methodLink RX5 71 yX5_next, Cond.instanceMethod yX5_next, Cond.selects RX5 yX5_next yX5_next, Cond.code yX5_next cX5_next 3 (some .int)]
def wsL_law0_r13 : List Cond := [Cond.methodLink RX5 62 yJ6_numberOfTrailingZeros_0f7a4, Cond.static yJ6_numberOfTrailingZeros_0f7a4, Cond.initialized RJ6, Cond.code yJ6_numberOfTrailingZeros_0f7a4 cJ6_numberOfTrailingZeros_0f7a4 2 (some .int), Cond.constant RJ6 264 (65536), Cond.methodLink RL 87 yL_haunting, Cond.static yL_haunting, Cond.codeWith yL_haunting cL_haunting 5 (some .int) [(0, 10, 13, 21)], Cond.methodLink RL 30 yX4_haunting, Cond.instanceMethod yX4_haunting, Cond.selects RX4 yX4_haunting yX4_haunting, Cond.code yX4_haunting cX4_haunting 3 (some .int), Cond.methodLink RX4 113 yX4_hauntingOfNight, Cond.instanceMethod yX4_hauntingOfNight, Cond.selects RX4 yX4_hauntingOfNight yX4_hauntingOfNight, Cond.code yX4_hauntingOfNight cX4_hauntingOfNight 5 (some .int), Cond.methodLink RX4 117 yX4_hauntingInHour, Cond.instanceMethod yX4_hauntingInHour, Cond.selects RX4 yX4_hauntingInHour yX4_hauntingInHour, Cond.code yX4_hauntingInHour cX4_hauntingInHour 7 (some .int), Cond.fieldLink RX4 275 "GhostInn$Ghost" "fright" "I", Cond.methodLink RL 89 yX5_haunting, Cond.instanceMethod yX5_haunting, Cond.selects RX5 yX5_haunting yX5_haunting]
def wsL_law0_r14 : List Cond := [Cond.code yX5_haunting cX5_haunting 5 (some .int), Cond.methodLink RX5 80 yX5_haunted, Cond.instanceMethod yX5_haunted, Cond.selects RX5 yX5_haunted yX5_haunted, Cond.code yX5_haunted cX5_haunted 6 (some .int), Cond.methodLink RL 90 yL_room, Cond.static yL_room, Cond.codeWith yL_room cL_room 5 (some .int) [(0, 10, 13, 21)], Cond.methodLink RL 33 yX4_room, Cond.instanceMethod yX4_room, Cond.selects RX4 yX4_room yX4_room, Cond.code yX4_room cX4_room 4 (some .int), Cond.fieldLink RX4 121 "GhostInn$Room" "beds" "I", Cond.fieldLink RX4 124 "GhostInn$Room" "comfort" "I", Cond.fieldLink RX4 127 "GhostInn$Room" "least" "I", Cond.fieldLink RX4 133 "GhostInn$Room" "nightsLet" "I", Cond.fieldLink RX4 136 "GhostInn$Room" "earned" "I", Cond.methodLink RX4 130 yX2_doorsThere, Cond.instanceMethod yX2_doorsThere, Cond.selects RX2 yX2_doorsThere yX2_doorsThere, Cond.code yX2_doorsThere cX2_doorsThere 1 (some .int), Cond.methodLink RX2 22 yJ6_bitCount_0f7a4, Cond.static yJ6_bitCount_0f7a4, Cond.code yJ6_bitCount_0f7a4 cJ6_bitCount_0f7a4 1 (some .int)]
def wsL_law0_r15 : List Cond := [Cond.constant RJ6 265 (1431655765), Cond.constant RJ6 266 (858993459), Cond.constant RJ6 267 (252645135), Cond.methodLink RL 92 yX5_room, Cond.instanceMethod yX5_room, Cond.selects RX5 yX5_room yX5_room, Cond.code yX5_room cX5_room 3 (some .int), Cond.methodLink RX5 89 yX5_roomTold, Cond.instanceMethod yX5_roomTold, Cond.selects RX5 yX5_roomTold yX5_roomTold, Cond.code yX5_roomTold cX5_roomTold 3 (some .int), Cond.methodLink RX5 83 yX5_ro, Cond.instanceMethod yX5_ro, Cond.selects RX5 yX5_ro yX5_ro, Cond.code yX5_ro cX5_ro 3 (some .int), Cond.methodLink RX5 86 yJ6_bitCount_0f7a4, Cond.methodLink RL 93 yL_come, Cond.static yL_come, Cond.codeWith yL_come cL_come 6 (some .int) [(0, 12, 15, 13), (0, 12, 19, 15)], Cond.methodLink RL 36 yX4_come, Cond.instanceMethod yX4_come, Cond.selects RX4 yX4_come yX4_come, Cond.code yX4_come cX4_come 4 (some .int), Cond.classLink RX4 145 RX1]
def wsL_law0_r16 : List Cond := [Cond.instantiable RX1 7, Cond.initialized RX1, Cond.methodLink RX4 147 yX1_init, Cond.instanceMethod yX1_init, Cond.code yX1_init cX1_init 4 none, Cond.methodLink RX1 3 objectInit, Cond.fieldLink RX1 9 "GhostInn$Guest" "bidRoom" "I", Cond.fieldLink RX1 15 "GhostInn$Guest" "coins" "I", Cond.fieldLink RX1 18 "GhostInn$Guest" "beds" "I", Cond.fieldLink RX1 21 "GhostInn$Guest" "nerve" "I", Cond.methodLink RL 95 yX5_come, Cond.instanceMethod yX5_come, Cond.selects RX5 yX5_come yX5_come, Cond.code yX5_come cX5_come 5 (some .int), Cond.fieldLink RX5 42 "GhostInnModel" "guests" "I", Cond.methodLink RL 96 yL_bid, Cond.static yL_bid, Cond.codeWith yL_bid cL_bid 6 (some .int) [(0, 19, 22, 21), (0, 19, 26, 13)], Cond.methodLink RL 39 yX4_bid, Cond.instanceMethod yX4_bid, Cond.selects RX4 yX4_bid yX4_bid, Cond.code yX4_bid cX4_bid 5 (some .boolean), Cond.classLink RX4 145 "GhostInn$Guest", Cond.methodLink RX4 148 yX4_isGuest]
def wsL_law0_r17 : List Cond := [Cond.instanceMethod yX4_isGuest, Cond.selects RX4 yX4_isGuest yX4_isGuest, Cond.code yX4_isGuest cX4_isGuest 2 (some .boolean), Cond.methodLink RX4 155 yX1_writeBid, Cond.instanceMethod yX1_writeBid, Cond.selects RX1 yX1_writeBid yX1_writeBid, Cond.code yX1_writeBid cX1_writeBid 3 none, Cond.fieldLink RX1 24 "GhostInn$Guest" "bidPrice" "I", Cond.methodLink RX4 159 yX1_couldBidFor, Cond.instanceMethod yX1_couldBidFor, Cond.selects RX1 yX1_couldBidFor yX1_couldBidFor, Cond.code yX1_couldBidFor cX1_couldBidFor 2 (some .boolean), Cond.fieldLink RX1 27 "GhostInn$Room" "beds" "I", Cond.fieldLink RX1 30 "GhostInn$Room" "least" "I", Cond.methodLink RL 98 yX5_bid, Cond.instanceMethod yX5_bid, Cond.selects RX5 yX5_bid yX5_bid, Cond.code yX5_bid cX5_bid 4 (some .boolean), Cond.methodLink RX5 95 yX5_isGuest, Cond.instanceMethod yX5_isGuest, Cond.selects RX5 yX5_isGuest yX5_isGuest, Cond.code yX5_isGuest cX5_isGuest 2 (some .boolean), Cond.methodLink RX5 98 yX5_set, Cond.instanceMethod yX5_set]
def wsL_law0_r18 : List Cond := [Cond.selects RX5 yX5_set yX5_set, Cond.code yX5_set cX5_set 4 none, Cond.methodLink RX5 102 yX5_suits, Cond.instanceMethod yX5_suits, Cond.selects RX5 yX5_suits yX5_suits, Cond.code yX5_suits cX5_suits 3 (some .boolean), Cond.methodLink RX5 92 yX5_pe, Cond.instanceMethod yX5_pe, Cond.selects RX5 yX5_pe yX5_pe, Cond.code yX5_pe cX5_pe 3 (some .int), Cond.methodLink RL 99 yL_leave, Cond.static yL_leave, Cond.codeWith yL_leave cL_leave 4 (some .int) [(0, 9, 12, 21)], Cond.methodLink RL 43 yX4_leave, Cond.instanceMethod yX4_leave, Cond.selects RX4 yX4_leave yX4_leave, Cond.code yX4_leave cX4_leave 4 (some .int), Cond.fieldLink RX4 163 "GhostInn$Guest" "bidRoom" "I", Cond.methodLink RX4 166 yX1_dropBid, Cond.instanceMethod yX1_dropBid, Cond.selects RX1 yX1_dropBid yX1_dropBid, Cond.code yX1_dropBid cX1_dropBid 1 none, Cond.methodLink RL 102 yX5_leave, Cond.instanceMethod yX5_leave]
def wsL_law0_r19 : List Cond := [Cond.selects RX5 yX5_leave yX5_leave, Cond.code yX5_leave cX5_leave 3 (some .int), Cond.methodLink RX5 106 yX5_withdraw, Cond.instanceMethod yX5_withdraw, Cond.selects RX5 yX5_withdraw yX5_withdraw, Cond.code yX5_withdraw cX5_withdraw 2 none, Cond.methodLink RL 103 yL_guest, Cond.static yL_guest, Cond.codeWith yL_guest cL_guest 5 (some .int) [(0, 10, 13, 21)], Cond.methodLink RL 47 yX4_guest, Cond.instanceMethod yX4_guest, Cond.selects RX4 yX4_guest yX4_guest, Cond.code yX4_guest cX4_guest 4 (some .int), Cond.fieldLink RX4 169 "GhostInn$Guest" "coins" "I", Cond.fieldLink RX4 172 "GhostInn$Guest" "beds" "I", Cond.fieldLink RX4 173 "GhostInn$Guest" "nerve" "I", Cond.fieldLink RX4 176 "GhostInn$Guest" "bidPrice" "I", Cond.fieldLink RX4 179 "GhostInn$Guest" "nightsStayed" "I", Cond.fieldLink RX4 182 "GhostInn$Guest" "nightsUpset" "I", Cond.methodLink RL 105 yX5_guest, Cond.instanceMethod yX5_guest, Cond.selects RX5 yX5_guest yX5_guest, Cond.code yX5_guest cX5_guest 3 (some .int), Cond.methodLink RL 106 yL_wins]
def wsL_law0_r20 : List Cond := [Cond.static yL_wins, Cond.codeWith yL_wins cL_wins 5 (some .int) [(0, 10, 13, 21)], Cond.methodLink RL 50 yX4_wins, Cond.instanceMethod yX4_wins, Cond.selects RX4 yX4_wins yX4_wins, Cond.code yX4_wins cX4_wins 3 (some .int), Cond.methodLink RX4 187 yX4_winnerOf, Cond.instanceMethod yX4_winnerOf, Cond.selects RX4 yX4_winnerOf yX4_winnerOf, Cond.code yX4_winnerOf cX4_winnerOf 6 (some .int), Cond.methodLink RX4 278 yX4_countsFor, Cond.instanceMethod yX4_countsFor, Cond.selects RX4 yX4_countsFor yX4_countsFor, Cond.code yX4_countsFor cX4_countsFor 3 (some .boolean), Cond.methodLink RX4 190 yX4_dueFor, Cond.instanceMethod yX4_dueFor, Cond.selects RX4 yX4_dueFor yX4_dueFor, Cond.code yX4_dueFor cX4_dueFor 6 (some .int), Cond.methodLink RX4 282 Lib.Math.max.name, Cond.methodLink RX4 193 yX4_bidsThatCount, Cond.instanceMethod yX4_bidsThatCount, Cond.selects RX4 yX4_bidsThatCount yX4_bidsThatCount, Cond.code yX4_bidsThatCount cX4_bidsThatCount 4 (some .int), Cond.methodLink RL 108 yX5_wins]
def wsL_law0_r21 : List Cond := [Cond.instanceMethod yX5_wins, Cond.selects RX5 yX5_wins yX5_wins, Cond.code yX5_wins cX5_wins 3 (some .int), Cond.methodLink RX5 124 yX5_won, Cond.instanceMethod yX5_won, Cond.selects RX5 yX5_won yX5_won, Cond.code yX5_won cX5_won 5 (some .int), Cond.methodLink RX5 113 yX5_winner, Cond.instanceMethod yX5_winner, Cond.selects RX5 yX5_winner yX5_winner, Cond.code yX5_winner cX5_winner 4 (some .int), Cond.methodLink RX5 110 yX5_counts, Cond.instanceMethod yX5_counts, Cond.selects RX5 yX5_counts yX5_counts, Cond.code yX5_counts cX5_counts 3 (some .boolean), Cond.methodLink RX5 121 yX5_pays, Cond.instanceMethod yX5_pays, Cond.selects RX5 yX5_pays yX5_pays, Cond.code yX5_pays cX5_pays 5 (some .int), Cond.methodLink RX5 116 Lib.Math.max.name, Cond.methodLink RL 109 yX4_night, Cond.instanceMethod yX4_night, Cond.selects RX4 yX4_night yX4_night, Cond.code yX4_night cX4_night 2 (some .int)]
def wsL_law0_r22 : List Cond := [Cond.fieldLink RX4 201 "GhostInn" "nightsGone" "I", Cond.fieldLink RX4 204 "GhostInn" "coins" "I", Cond.methodLink RX4 198 yX4_letRoom, Cond.instanceMethod yX4_letRoom, Cond.selects RX4 yX4_letRoom yX4_letRoom, Cond.code yX4_letRoom cX4_letRoom 8 none, Cond.fieldLink RX4 208 "GhostInn" "givenBack" "I", Cond.methodLink RX4 216 yX1_isUpsetBy, Cond.instanceMethod yX1_isUpsetBy, Cond.selects RX1 yX1_isUpsetBy yX1_isUpsetBy, Cond.code yX1_isUpsetBy cX1_isUpsetBy 3 (some .boolean), Cond.methodLink RX1 33 yX1_isFrightenedBy, Cond.instanceMethod yX1_isFrightenedBy, Cond.selects RX1 yX1_isFrightenedBy yX1_isFrightenedBy, Cond.code yX1_isFrightenedBy cX1_isFrightenedBy 2 (some .boolean), Cond.methodLink RX4 291 yX1_isFrightenedBy, Cond.methodLink RX4 294 yX2_wasLet, Cond.instanceMethod yX2_wasLet, Cond.selects RX2 yX2_wasLet yX2_wasLet, Cond.code yX2_wasLet cX2_wasLet 3 none, Cond.fieldLink RX2 28 "GhostInn$Room" "nightsLet" "I", Cond.fieldLink RX2 31 "GhostInn$Room" "earned" "I", Cond.methodLink RX2 34 Lib.Math.max.name, Cond.methodLink RX4 298 yX1_stayed]
def wsL_law0_r23 : List Cond := [Cond.instanceMethod yX1_stayed, Cond.selects RX1 yX1_stayed yX1_stayed, Cond.code yX1_stayed cX1_stayed 3 none, Cond.fieldLink RX1 37 "GhostInn$Guest" "nightsStayed" "I", Cond.fieldLink RX1 43 "GhostInn$Guest" "nightsUpset" "I", Cond.methodLink RX1 46 Lib.Math.max.name, Cond.methodLink RX1 52 Lib.Math.min.name, Cond.methodLink RX1 40 yX1_isUpsetBy, Cond.methodLink RL 112 yX5_night, Cond.instanceMethod yX5_night, Cond.selects RX5 yX5_night yX5_night, Cond.code yX5_night cX5_night 7 (some .int), Cond.methodLink RX5 130 Lib.Math.min.name, Cond.methodLink RX5 127 yX5_isBad, Cond.static yX5_isBad, Cond.code yX5_isBad cX5_isBad 2 (some .boolean), Cond.methodLink RX5 133 yX5_addRo, Cond.instanceMethod yX5_addRo, Cond.selects RX5 yX5_addRo yX5_addRo, Cond.code yX5_addRo cX5_addRo 4 none, Cond.methodLink RL 113 yL_count, Cond.static yL_count, Cond.codeWith yL_count cL_count 4 (some .int) [(0, 9, 12, 21)], Cond.methodLink RL 53 yX4_count]
def wsL_law0_r24 : List Cond := [Cond.instanceMethod yX4_count, Cond.selects RX4 yX4_count yX4_count, Cond.code yX4_count cX4_count 2 (some .int), Cond.methodLink RX4 205 yX4_bidsWritten, Cond.instanceMethod yX4_bidsWritten, Cond.selects RX4 yX4_bidsWritten yX4_bidsWritten, Cond.code yX4_bidsWritten cX4_bidsWritten 3 (some .int), Cond.methodLink RX4 287 yX1_hasBid, Cond.instanceMethod yX1_hasBid, Cond.selects RX1 yX1_hasBid yX1_hasBid, Cond.code yX1_hasBid cX1_hasBid 1 (some .boolean), Cond.methodLink RX4 211 yX4_roomsToLet, Cond.instanceMethod yX4_roomsToLet, Cond.selects RX4 yX4_roomsToLet yX4_roomsToLet, Cond.code yX4_roomsToLet cX4_roomsToLet 3 (some .int), Cond.methodLink RL 115 yX5_count, Cond.instanceMethod yX5_count, Cond.selects RX5 yX5_count yX5_count, Cond.code yX5_count cX5_count 2 (some .int), Cond.methodLink RX5 136 yX5_counted, Cond.instanceMethod yX5_counted, Cond.selects RX5 yX5_counted yX5_counted, Cond.code yX5_counted cX5_counted 4 (some .int), Cond.methodLink RL 116 yL_best]
def wsL_law0_r25 : List Cond := [Cond.static yL_best, Cond.codeWith yL_best cL_best 4 (some .int) [(0, 9, 12, 21)], Cond.methodLink RL 56 yX4_best, Cond.instanceMethod yX4_best, Cond.selects RX4 yX4_best yX4_best, Cond.code yX4_best cX4_best 7 (some .int), Cond.methodLink RL 118 yX5_best, Cond.instanceMethod yX5_best, Cond.selects RX5 yX5_best yX5_best, Cond.code yX5_best cX5_best 4 (some .int), Cond.methodLink RL 119 yX4_most, Cond.instanceMethod yX4_most, Cond.selects RX4 yX4_most yX4_most, Cond.code yX4_most cX4_most 4 (some .int), Cond.methodLink RX4 219 yX3_clear, Cond.instanceMethod yX3_clear, Cond.selects RX3 yX3_clear yX3_clear, Cond.code yX3_clear cX3_clear 1 none, Cond.methodLink RX3 18 yJ7_fill_53178, Cond.static yJ7_fill_53178, Cond.code yJ7_fill_53178 cJ7_fill_53178 4 none, Cond.methodLink RX4 222 yX4_allowSeats, Cond.instanceMethod yX4_allowSeats, Cond.selects RX4 yX4_allowSeats yX4_allowSeats]
def wsL_law0_r26 : List Cond := [Cond.code yX4_allowSeats cX4_allowSeats 4 none, Cond.methodLink RX4 301 yX3_allow, Cond.instanceMethod yX3_allow, Cond.selects RX3 yX3_allow yX3_allow, Cond.code yX3_allow cX3_allow 3 none, Cond.methodLink RX4 225 yX4_nextDearest, Cond.instanceMethod yX4_nextDearest, Cond.selects RX4 yX4_nextDearest yX4_nextDearest, Cond.code yX4_nextDearest cX4_nextDearest 5 (some .int), Cond.methodLink RX4 304 yX4_isDearer, Cond.instanceMethod yX4_isDearer, Cond.selects RX4 yX4_isDearer yX4_isDearer, Cond.code yX4_isDearer cX4_isDearer 5 (some .boolean), Cond.methodLink RX4 228 yX3_seat, Cond.instanceMethod yX3_seat, Cond.selects RX3 yX3_seat yX3_seat, Cond.code yX3_seat cX3_seat 2 (some .boolean), Cond.fieldLink RX3 24 "GhostInn$Seating" "askedBits" "I", Cond.methodLink RX3 28 yX3_findRoom, Cond.static yX3_findRoom, Cond.code yX3_findRoom cX3_findRoom 6 (some .boolean), Cond.methodLink RL 122 yX5_most, Cond.instanceMethod yX5_most, Cond.selects RX5 yX5_most yX5_most]
def wsL_law0_r27 : List Cond := [Cond.code yX5_most cX5_most 6 (some .int), Cond.methodLink RL 123 yL_scares, Cond.static yL_scares, Cond.codeWith yL_scares cL_scares 4 (some .int) [(0, 9, 12, 21)], Cond.methodLink RL 59 yX4_scares, Cond.instanceMethod yX4_scares, Cond.selects RX4 yX4_scares yX4_scares, Cond.code yX4_scares cX4_scares 2 (some .int), Cond.methodLink RX4 231 yX4_backTonight, Cond.instanceMethod yX4_backTonight, Cond.selects RX4 yX4_backTonight yX4_backTonight, Cond.code yX4_backTonight cX4_backTonight 5 (some .int), Cond.methodLink RL 125 yX5_scares, Cond.instanceMethod yX5_scares, Cond.selects RX5 yX5_scares yX5_scares, Cond.code yX5_scares cX5_scares 2 (some .int), Cond.methodLink RX5 139 yX5_givenBack, Cond.instanceMethod yX5_givenBack, Cond.selects RX5 yX5_givenBack yX5_givenBack, Cond.code yX5_givenBack cX5_givenBack 4 (some .int), Cond.methodLink RL 126 yX4_mean, Cond.instanceMethod yX4_mean, Cond.selects RX4 yX4_mean yX4_mean, Cond.code yX4_mean cX4_mean 3 (some .double)]
def wsL_law0_r28 : List Cond := [Cond.methodLink RL 130 yX5_mean, Cond.instanceMethod yX5_mean, Cond.selects RX5 yX5_mean yX5_mean, Cond.code yX5_mean cX5_mean 3 (some .double), Cond.methodLink RL 131 yX4_digest, Cond.instanceMethod yX4_digest, Cond.selects RX4 yX4_digest yX4_digest, Cond.code yX4_digest cX4_digest 5 (some .long), Cond.constantLong RX4 234 (773), Cond.constantLong RX4 236 (31), Cond.methodLink RX4 238 yX4_count, Cond.methodLink RX4 241 yX4_digestRoom, Cond.instanceMethod yX4_digestRoom, Cond.selects RX4 yX4_digestRoom yX4_digestRoom, Cond.code yX4_digestRoom cX4_digestRoom 7 (some .long), Cond.methodLink RX4 251 yX4_room, Cond.methodLink RX4 254 yX4_wins, Cond.methodLink RX4 257 yX4_haunting, Cond.methodLink RX4 245 yX4_at, Cond.methodLink RX4 248 yX4_guest, Cond.methodLink RL 135 yX5_digest, Cond.instanceMethod yX5_digest, Cond.selects RX5 yX5_digest yX5_digest, Cond.code yX5_digest cX5_digest 5 (some .long)]
def wsL_law0_r29 : List Cond := [Cond.constantLong RX5 142 (773), Cond.constantLong RX5 144 (31)]
def wsL_law0 : List Cond := (wsL_law0_r1 ++ (wsL_law0_r2 ++ (wsL_law0_r3 ++ (wsL_law0_r4 ++ (wsL_law0_r5 ++ (wsL_law0_r6 ++ (wsL_law0_r7 ++ (wsL_law0_r8 ++ (wsL_law0_r9 ++ (wsL_law0_r10 ++ (wsL_law0_r11 ++ (wsL_law0_r12 ++ (wsL_law0_r13 ++ (wsL_law0_r14 ++ (wsL_law0_r15 ++ (wsL_law0_r16 ++ (wsL_law0_r17 ++ (wsL_law0_r18 ++ (wsL_law0_r19 ++ (wsL_law0_r20 ++ (wsL_law0_r21 ++ (wsL_law0_r22 ++ (wsL_law0_r23 ++ (wsL_law0_r24 ++ (wsL_law0_r25 ++ (wsL_law0_r26 ++ (wsL_law0_r27 ++ (wsL_law0_r28 ++ wsL_law0_r29)))))))))))))))))))))))))))) ++ wsX40 ++ wsX50 ++ wsJx4a65c0 ++ wsX30 ++ wsX20 ++ wsX00 ++ wsX10 ++ ([] : List Cond)
def wsL_law : List Cond := wsL_law0 ++ (vx_atS RX4 37 "java/lang/IllegalArgumentException" ["java/lang/RuntimeException", "java/lang/Exception"]).filter goodWord ++ (vx_atS RX4 48 "java/lang/IllegalStateException" ["java/lang/RuntimeException", "java/lang/Exception"]).filter goodWord ++ (vx_atS RX4 66 "java/lang/IndexOutOfBoundsException" ["java/lang/RuntimeException", "java/lang/Exception"]).filter goodWord
abbrev vwCl : List vw_C := [(RJx4a65c, TJx4a65c, 3), (RX0, TX0, 5), (RX1, TX1, 7), (RX2, TX2, 6), (RX3, TX3, 3), (RX4, TX4, 8), (RX5, TX5, 11)]
/-! ===== END ===== -/
end
section
theorem dX0_init_0 : decode cX0_init 0 = .ok (.aload_n 0, 1) := by decide +kernel
theorem dX0_init_1 : decode cX0_init 1 = .ok (.invokespecial 3, 3) := by decide +kernel
theorem dX0_init_4 : decode cX0_init 4 = .ok (.aload_n 0, 1) := by decide +kernel
theorem dX0_init_5 : decode cX0_init 5 = .ok (.bipush 12, 2) := by decide +kernel
theorem dX0_init_7 : decode cX0_init 7 = .ok (.newarray .int, 2) := by decide +kernel
theorem dX0_init_9 : decode cX0_init 9 = .ok (.putfield 9, 3) := by decide +kernel
theorem dX0_init_12 : decode cX0_init 12 = .ok (.aload_n 0, 1) := by decide +kernel
theorem dX0_init_13 : decode cX0_init 13 = .ok (.iload_n 1, 1) := by decide +kernel
theorem dX0_init_14 : decode cX0_init 14 = .ok (.putfield 15, 3) := by decide +kernel
theorem dX0_init_17 : decode cX0_init 17 = .ok (.aload_n 0, 1) := by decide +kernel
theorem dX0_init_18 : decode cX0_init 18 = .ok (.iload_n 2, 1) := by decide +kernel
theorem dX0_init_19 : decode cX0_init 19 = .ok (.putfield 19, 3) := by decide +kernel
theorem dX0_init_22 : decode cX0_init 22 = .ok (.aload_n 0, 1) := by decide +kernel
theorem dX0_init_23 : decode cX0_init 23 = .ok (.iload_n 3, 1) := by decide +kernel
theorem dX0_init_24 : decode cX0_init 24 = .ok (.putfield 22, 3) := by decide +kernel
theorem dX0_init_27 : decode cX0_init 27 = .ok (.aload_n 0, 1) := by decide +kernel
theorem dX0_init_28 : decode cX0_init 28 = .ok (.iload 4, 2) := by decide +kernel
theorem dX0_init_30 : decode cX0_init 30 = .ok (.putfield 25, 3) := by decide +kernel
theorem dX0_init_33 : decode cX0_init 33 = .ok (.return_, 1) := by decide +kernel
theorem dX0_isAwakeIn_0 : decode cX0_isAwakeIn 0 = .ok (.iload_n 1, 1) := by decide +kernel
theorem dX0_isAwakeIn_1 : decode cX0_isAwakeIn 1 = .ok (.aload_n 0, 1) := by decide +kernel
theorem dX0_isAwakeIn_2 : decode cX0_isAwakeIn 2 = .ok (.getfield 22, 3) := by decide +kernel
theorem dX0_isAwakeIn_5 : decode cX0_isAwakeIn 5 = .ok (.if_icmp .lt 15, 3) := by decide +kernel
theorem dX0_isAwakeIn_8 : decode cX0_isAwakeIn 8 = .ok (.iload_n 1, 1) := by decide +kernel
theorem dX0_isAwakeIn_9 : decode cX0_isAwakeIn 9 = .ok (.aload_n 0, 1) := by decide +kernel
theorem dX0_isAwakeIn_10 : decode cX0_isAwakeIn 10 = .ok (.getfield 25, 3) := by decide +kernel
theorem dX0_isAwakeIn_13 : decode cX0_isAwakeIn 13 = .ok (.if_icmp .ge 7, 3) := by decide +kernel
theorem dX0_isAwakeIn_16 : decode cX0_isAwakeIn 16 = .ok (.iconst 1, 1) := by decide +kernel
theorem dX0_isAwakeIn_17 : decode cX0_isAwakeIn 17 = .ok (.goto 4, 3) := by decide +kernel
theorem dX0_isAwakeIn_20 : decode cX0_isAwakeIn 20 = .ok (.iconst 0, 1) := by decide +kernel
theorem dX0_isAwakeIn_21 : decode cX0_isAwakeIn 21 = .ok (.ireturn, 1) := by decide +kernel
theorem dX0_setPlace_0 : decode cX0_setPlace 0 = .ok (.iload_n 1, 1) := by decide +kernel
theorem dX0_setPlace_1 : decode cX0_setPlace 1 = .ok (.ifCond .lt 19, 3) := by decide +kernel
theorem dX0_setPlace_4 : decode cX0_setPlace 4 = .ok (.iload_n 1, 1) := by decide +kernel
theorem dX0_setPlace_5 : decode cX0_setPlace 5 = .ok (.aload_n 0, 1) := by decide +kernel
theorem dX0_setPlace_6 : decode cX0_setPlace 6 = .ok (.getfield 9, 3) := by decide +kernel
theorem dX0_setPlace_9 : decode cX0_setPlace 9 = .ok (.arraylength, 1) := by decide +kernel
theorem dX0_setPlace_10 : decode cX0_setPlace 10 = .ok (.if_icmp .ge 10, 3) := by decide +kernel
theorem dX0_setPlace_13 : decode cX0_setPlace 13 = .ok (.aload_n 0, 1) := by decide +kernel
theorem dX0_setPlace_14 : decode cX0_setPlace 14 = .ok (.getfield 9, 3) := by decide +kernel
theorem dX0_setPlace_17 : decode cX0_setPlace 17 = .ok (.iload_n 1, 1) := by decide +kernel
theorem dX0_setPlace_18 : decode cX0_setPlace 18 = .ok (.iload_n 2, 1) := by decide +kernel
theorem dX0_setPlace_19 : decode cX0_setPlace 19 = .ok (.iastore, 1) := by decide +kernel
theorem dX0_setPlace_20 : decode cX0_setPlace 20 = .ok (.return_, 1) := by decide +kernel
theorem dX0_placeIn_0 : decode cX0_placeIn 0 = .ok (.iload_n 1, 1) := by decide +kernel
theorem dX0_placeIn_1 : decode cX0_placeIn 1 = .ok (.ifCond .lt 21, 3) := by decide +kernel
theorem dX0_placeIn_4 : decode cX0_placeIn 4 = .ok (.iload_n 1, 1) := by decide +kernel
theorem dX0_placeIn_5 : decode cX0_placeIn 5 = .ok (.aload_n 0, 1) := by decide +kernel
theorem dX0_placeIn_6 : decode cX0_placeIn 6 = .ok (.getfield 9, 3) := by decide +kernel
theorem dX0_placeIn_9 : decode cX0_placeIn 9 = .ok (.arraylength, 1) := by decide +kernel
theorem dX0_placeIn_10 : decode cX0_placeIn 10 = .ok (.if_icmp .ge 12, 3) := by decide +kernel
theorem dX0_placeIn_13 : decode cX0_placeIn 13 = .ok (.aload_n 0, 1) := by decide +kernel
theorem dX0_placeIn_14 : decode cX0_placeIn 14 = .ok (.getfield 9, 3) := by decide +kernel
theorem dX0_placeIn_17 : decode cX0_placeIn 17 = .ok (.iload_n 1, 1) := by decide +kernel
theorem dX0_placeIn_18 : decode cX0_placeIn 18 = .ok (.iaload, 1) := by decide +kernel
theorem dX0_placeIn_19 : decode cX0_placeIn 19 = .ok (.goto 4, 3) := by decide +kernel
theorem dX0_placeIn_22 : decode cX0_placeIn 22 = .ok (.iconst (-1), 1) := by decide +kernel
theorem dX0_placeIn_23 : decode cX0_placeIn 23 = .ok (.ireturn, 1) := by decide +kernel
theorem dX1_init_0 : decode cX1_init 0 = .ok (.aload_n 0, 1) := by decide +kernel
theorem dX1_init_1 : decode cX1_init 1 = .ok (.invokespecial 3, 3) := by decide +kernel
theorem dX1_init_4 : decode cX1_init 4 = .ok (.aload_n 0, 1) := by decide +kernel
theorem dX1_init_5 : decode cX1_init 5 = .ok (.iconst (-1), 1) := by decide +kernel
theorem dX1_init_6 : decode cX1_init 6 = .ok (.putfield 9, 3) := by decide +kernel
theorem dX1_init_9 : decode cX1_init 9 = .ok (.aload_n 0, 1) := by decide +kernel
theorem dX1_init_10 : decode cX1_init 10 = .ok (.iload_n 1, 1) := by decide +kernel
theorem dX1_init_11 : decode cX1_init 11 = .ok (.putfield 15, 3) := by decide +kernel
theorem dX1_init_14 : decode cX1_init 14 = .ok (.aload_n 0, 1) := by decide +kernel
theorem dX1_init_15 : decode cX1_init 15 = .ok (.iload_n 2, 1) := by decide +kernel
theorem dX1_init_16 : decode cX1_init 16 = .ok (.putfield 18, 3) := by decide +kernel
theorem dX1_init_19 : decode cX1_init 19 = .ok (.aload_n 0, 1) := by decide +kernel
theorem dX1_init_20 : decode cX1_init 20 = .ok (.iload_n 3, 1) := by decide +kernel
theorem dX1_init_21 : decode cX1_init 21 = .ok (.putfield 21, 3) := by decide +kernel
theorem dX1_init_24 : decode cX1_init 24 = .ok (.return_, 1) := by decide +kernel
theorem dX1_hasBid_0 : decode cX1_hasBid 0 = .ok (.aload_n 0, 1) := by decide +kernel
theorem dX1_hasBid_1 : decode cX1_hasBid 1 = .ok (.getfield 9, 3) := by decide +kernel
theorem dX1_hasBid_4 : decode cX1_hasBid 4 = .ok (.iconst (-1), 1) := by decide +kernel
theorem dX1_hasBid_5 : decode cX1_hasBid 5 = .ok (.if_icmp .eq 7, 3) := by decide +kernel
theorem dX1_hasBid_8 : decode cX1_hasBid 8 = .ok (.iconst 1, 1) := by decide +kernel
theorem dX1_hasBid_9 : decode cX1_hasBid 9 = .ok (.goto 4, 3) := by decide +kernel
theorem dX1_hasBid_12 : decode cX1_hasBid 12 = .ok (.iconst 0, 1) := by decide +kernel
theorem dX1_hasBid_13 : decode cX1_hasBid 13 = .ok (.ireturn, 1) := by decide +kernel
theorem dX1_writeBid_0 : decode cX1_writeBid 0 = .ok (.aload_n 0, 1) := by decide +kernel
theorem dX1_writeBid_1 : decode cX1_writeBid 1 = .ok (.iload_n 1, 1) := by decide +kernel
theorem dX1_writeBid_2 : decode cX1_writeBid 2 = .ok (.putfield 9, 3) := by decide +kernel
theorem dX1_writeBid_5 : decode cX1_writeBid 5 = .ok (.aload_n 0, 1) := by decide +kernel
theorem dX1_writeBid_6 : decode cX1_writeBid 6 = .ok (.iload_n 2, 1) := by decide +kernel
theorem dX1_writeBid_7 : decode cX1_writeBid 7 = .ok (.putfield 24, 3) := by decide +kernel
theorem dX1_writeBid_10 : decode cX1_writeBid 10 = .ok (.return_, 1) := by decide +kernel
theorem dX1_dropBid_0 : decode cX1_dropBid 0 = .ok (.aload_n 0, 1) := by decide +kernel
theorem dX1_dropBid_1 : decode cX1_dropBid 1 = .ok (.iconst (-1), 1) := by decide +kernel
theorem dX1_dropBid_2 : decode cX1_dropBid 2 = .ok (.putfield 9, 3) := by decide +kernel
theorem dX1_dropBid_5 : decode cX1_dropBid 5 = .ok (.aload_n 0, 1) := by decide +kernel
theorem dX1_dropBid_6 : decode cX1_dropBid 6 = .ok (.iconst 0, 1) := by decide +kernel
theorem dX1_dropBid_7 : decode cX1_dropBid 7 = .ok (.putfield 24, 3) := by decide +kernel
theorem dX1_dropBid_10 : decode cX1_dropBid 10 = .ok (.return_, 1) := by decide +kernel
theorem dX1_couldBidFor_0 : decode cX1_couldBidFor 0 = .ok (.aload_n 0, 1) := by decide +kernel
theorem dX1_couldBidFor_1 : decode cX1_couldBidFor 1 = .ok (.getfield 15, 3) := by decide +kernel
theorem dX1_couldBidFor_4 : decode cX1_couldBidFor 4 = .ok (.aload_n 0, 1) := by decide +kernel
theorem dX1_couldBidFor_5 : decode cX1_couldBidFor 5 = .ok (.getfield 24, 3) := by decide +kernel
theorem dX1_couldBidFor_8 : decode cX1_couldBidFor 8 = .ok (.if_icmp .lt 29, 3) := by decide +kernel
theorem dX1_couldBidFor_11 : decode cX1_couldBidFor 11 = .ok (.aload_n 1, 1) := by decide +kernel
theorem dX1_couldBidFor_12 : decode cX1_couldBidFor 12 = .ok (.getfield 27, 3) := by decide +kernel
theorem dX1_couldBidFor_15 : decode cX1_couldBidFor 15 = .ok (.aload_n 0, 1) := by decide +kernel
theorem dX1_couldBidFor_16 : decode cX1_couldBidFor 16 = .ok (.getfield 18, 3) := by decide +kernel
theorem dX1_couldBidFor_19 : decode cX1_couldBidFor 19 = .ok (.if_icmp .lt 18, 3) := by decide +kernel
theorem dX1_couldBidFor_22 : decode cX1_couldBidFor 22 = .ok (.aload_n 0, 1) := by decide +kernel
theorem dX1_couldBidFor_23 : decode cX1_couldBidFor 23 = .ok (.getfield 24, 3) := by decide +kernel
theorem dX1_couldBidFor_26 : decode cX1_couldBidFor 26 = .ok (.aload_n 1, 1) := by decide +kernel
theorem dX1_couldBidFor_27 : decode cX1_couldBidFor 27 = .ok (.getfield 30, 3) := by decide +kernel
theorem dX1_couldBidFor_30 : decode cX1_couldBidFor 30 = .ok (.if_icmp .lt 7, 3) := by decide +kernel
theorem dX1_couldBidFor_33 : decode cX1_couldBidFor 33 = .ok (.iconst 1, 1) := by decide +kernel
theorem dX1_couldBidFor_34 : decode cX1_couldBidFor 34 = .ok (.goto 4, 3) := by decide +kernel
theorem dX1_couldBidFor_37 : decode cX1_couldBidFor 37 = .ok (.iconst 0, 1) := by decide +kernel
theorem dX1_couldBidFor_38 : decode cX1_couldBidFor 38 = .ok (.ireturn, 1) := by decide +kernel
theorem dX1_isFrightenedBy_0 : decode cX1_isFrightenedBy 0 = .ok (.aload_n 0, 1) := by decide +kernel
theorem dX1_isFrightenedBy_1 : decode cX1_isFrightenedBy 1 = .ok (.getfield 21, 3) := by decide +kernel
theorem dX1_isFrightenedBy_4 : decode cX1_isFrightenedBy 4 = .ok (.ifCond .lt 15, 3) := by decide +kernel
theorem dX1_isFrightenedBy_7 : decode cX1_isFrightenedBy 7 = .ok (.iload_n 1, 1) := by decide +kernel
theorem dX1_isFrightenedBy_8 : decode cX1_isFrightenedBy 8 = .ok (.aload_n 0, 1) := by decide +kernel
theorem dX1_isFrightenedBy_9 : decode cX1_isFrightenedBy 9 = .ok (.getfield 21, 3) := by decide +kernel
theorem dX1_isFrightenedBy_12 : decode cX1_isFrightenedBy 12 = .ok (.if_icmp .le 7, 3) := by decide +kernel
theorem dX1_isFrightenedBy_15 : decode cX1_isFrightenedBy 15 = .ok (.iconst 1, 1) := by decide +kernel
theorem dX1_isFrightenedBy_16 : decode cX1_isFrightenedBy 16 = .ok (.goto 4, 3) := by decide +kernel
theorem dX1_isFrightenedBy_19 : decode cX1_isFrightenedBy 19 = .ok (.iconst 0, 1) := by decide +kernel
theorem dX1_isFrightenedBy_20 : decode cX1_isFrightenedBy 20 = .ok (.ireturn, 1) := by decide +kernel
set_option maxRecDepth 20000 in
theorem ggX1_isUpsetBy_X1_isFrightenedBy : GoodIn wsX1_isUpsetBy wsX1_isFrightenedBy := goodIn_r _ [6, 1, 7, 8, 9, 10, 11, 12, 13] (by decide +kernel) (by decide +kernel)
set_option maxRecDepth 20000 in
theorem gX1_isUpsetBy_X1_isFrightenedBy : GoodIn wsX1_isUpsetBy (wsV RX1 33 RX1 yX1_isFrightenedBy wsX1_isFrightenedBy) := goodIn_app (goodIn_of _ (by decide +kernel)) ggX1_isUpsetBy_X1_isFrightenedBy
theorem dX1_isUpsetBy_0 : decode cX1_isUpsetBy 0 = .ok (.aload_n 0, 1) := by decide +kernel
theorem dX1_isUpsetBy_1 : decode cX1_isUpsetBy 1 = .ok (.getfield 21, 3) := by decide +kernel
theorem dX1_isUpsetBy_4 : decode cX1_isUpsetBy 4 = .ok (.ifCond .ge 16, 3) := by decide +kernel
theorem dX1_isUpsetBy_7 : decode cX1_isUpsetBy 7 = .ok (.iload_n 1, 1) := by decide +kernel
theorem dX1_isUpsetBy_8 : decode cX1_isUpsetBy 8 = .ok (.aload_n 0, 1) := by decide +kernel
theorem dX1_isUpsetBy_9 : decode cX1_isUpsetBy 9 = .ok (.getfield 21, 3) := by decide +kernel
theorem dX1_isUpsetBy_12 : decode cX1_isUpsetBy 12 = .ok (.ineg, 1) := by decide +kernel
theorem dX1_isUpsetBy_13 : decode cX1_isUpsetBy 13 = .ok (.if_icmp .ge 7, 3) := by decide +kernel
theorem dX1_isUpsetBy_16 : decode cX1_isUpsetBy 16 = .ok (.iconst 1, 1) := by decide +kernel
theorem dX1_isUpsetBy_17 : decode cX1_isUpsetBy 17 = .ok (.goto 4, 3) := by decide +kernel
theorem dX1_isUpsetBy_20 : decode cX1_isUpsetBy 20 = .ok (.iconst 0, 1) := by decide +kernel
theorem dX1_isUpsetBy_21 : decode cX1_isUpsetBy 21 = .ok (.istore_n 2, 1) := by decide +kernel
theorem dX1_isUpsetBy_22 : decode cX1_isUpsetBy 22 = .ok (.iload_n 2, 1) := by decide +kernel
theorem dX1_isUpsetBy_23 : decode cX1_isUpsetBy 23 = .ok (.ifCond .ne 11, 3) := by decide +kernel
theorem dX1_isUpsetBy_26 : decode cX1_isUpsetBy 26 = .ok (.aload_n 0, 1) := by decide +kernel
theorem dX1_isUpsetBy_27 : decode cX1_isUpsetBy 27 = .ok (.iload_n 1, 1) := by decide +kernel
theorem dX1_isUpsetBy_28 : decode cX1_isUpsetBy 28 = .ok (.invokevirtual 33, 3) := by decide +kernel
theorem dX1_isUpsetBy_31 : decode cX1_isUpsetBy 31 = .ok (.ifCond .eq 7, 3) := by decide +kernel
theorem dX1_isUpsetBy_34 : decode cX1_isUpsetBy 34 = .ok (.iconst 1, 1) := by decide +kernel
theorem dX1_isUpsetBy_35 : decode cX1_isUpsetBy 35 = .ok (.goto 4, 3) := by decide +kernel
theorem dX1_isUpsetBy_38 : decode cX1_isUpsetBy 38 = .ok (.iconst 0, 1) := by decide +kernel
theorem dX1_isUpsetBy_39 : decode cX1_isUpsetBy 39 = .ok (.ireturn, 1) := by decide +kernel
set_option maxRecDepth 20000 in
theorem ggX1_stayed_X1_isUpsetBy : GoodIn wsX1_stayed wsX1_isUpsetBy := goodIn_r _ [16, 4, 17, 18, 19, 15, 20, 21, 22, 23, 24, 25, 26, 27] (by decide +kernel) (by decide +kernel)
set_option maxRecDepth 20000 in
theorem gX1_stayed_X1_isUpsetBy : GoodIn wsX1_stayed (wsV RX1 40 RX1 yX1_isUpsetBy wsX1_isUpsetBy) := goodIn_app (goodIn_of _ (by decide +kernel)) ggX1_stayed_X1_isUpsetBy
set_option maxRecDepth 20000 in
theorem ggX1_stayed_X1_isFrightenedBy : GoodIn wsX1_stayed wsX1_isFrightenedBy := goodIn_r _ [20, 4, 21, 22, 23, 24, 25, 26, 27] (by decide +kernel) (by decide +kernel)
set_option maxRecDepth 20000 in
theorem gX1_stayed_X1_isFrightenedBy : GoodIn wsX1_stayed (wsV RX1 33 RX1 yX1_isFrightenedBy wsX1_isFrightenedBy) := goodIn_app (goodIn_of _ (by decide +kernel)) ggX1_stayed_X1_isFrightenedBy
theorem dX1_stayed_0 : decode cX1_stayed 0 = .ok (.aload_n 0, 1) := by decide +kernel
theorem dX1_stayed_1 : decode cX1_stayed 1 = .ok (.dup, 1) := by decide +kernel
theorem dX1_stayed_2 : decode cX1_stayed 2 = .ok (.getfield 15, 3) := by decide +kernel
theorem dX1_stayed_5 : decode cX1_stayed 5 = .ok (.iload_n 1, 1) := by decide +kernel
theorem dX1_stayed_6 : decode cX1_stayed 6 = .ok (.isub, 1) := by decide +kernel
theorem dX1_stayed_7 : decode cX1_stayed 7 = .ok (.putfield 15, 3) := by decide +kernel
theorem dX1_stayed_10 : decode cX1_stayed 10 = .ok (.aload_n 0, 1) := by decide +kernel
theorem dX1_stayed_11 : decode cX1_stayed 11 = .ok (.dup, 1) := by decide +kernel
theorem dX1_stayed_12 : decode cX1_stayed 12 = .ok (.getfield 37, 3) := by decide +kernel
theorem dX1_stayed_15 : decode cX1_stayed 15 = .ok (.iconst 1, 1) := by decide +kernel
theorem dX1_stayed_16 : decode cX1_stayed 16 = .ok (.iadd, 1) := by decide +kernel
theorem dX1_stayed_17 : decode cX1_stayed 17 = .ok (.putfield 37, 3) := by decide +kernel
theorem dX1_stayed_20 : decode cX1_stayed 20 = .ok (.aload_n 0, 1) := by decide +kernel
theorem dX1_stayed_21 : decode cX1_stayed 21 = .ok (.iload_n 2, 1) := by decide +kernel
theorem dX1_stayed_22 : decode cX1_stayed 22 = .ok (.invokevirtual 40, 3) := by decide +kernel
theorem dX1_stayed_25 : decode cX1_stayed 25 = .ok (.ifCond .eq 13, 3) := by decide +kernel
theorem dX1_stayed_28 : decode cX1_stayed 28 = .ok (.aload_n 0, 1) := by decide +kernel
theorem dX1_stayed_29 : decode cX1_stayed 29 = .ok (.dup, 1) := by decide +kernel
theorem dX1_stayed_30 : decode cX1_stayed 30 = .ok (.getfield 43, 3) := by decide +kernel
theorem dX1_stayed_33 : decode cX1_stayed 33 = .ok (.iconst 1, 1) := by decide +kernel
theorem dX1_stayed_34 : decode cX1_stayed 34 = .ok (.iadd, 1) := by decide +kernel
theorem dX1_stayed_35 : decode cX1_stayed 35 = .ok (.putfield 43, 3) := by decide +kernel
theorem dX1_stayed_38 : decode cX1_stayed 38 = .ok (.aload_n 0, 1) := by decide +kernel
theorem dX1_stayed_39 : decode cX1_stayed 39 = .ok (.iload_n 2, 1) := by decide +kernel
theorem dX1_stayed_40 : decode cX1_stayed 40 = .ok (.invokevirtual 33, 3) := by decide +kernel
theorem dX1_stayed_43 : decode cX1_stayed 43 = .ok (.ifCond .eq 20, 3) := by decide +kernel
theorem dX1_stayed_46 : decode cX1_stayed 46 = .ok (.aload_n 0, 1) := by decide +kernel
theorem dX1_stayed_47 : decode cX1_stayed 47 = .ok (.aload_n 0, 1) := by decide +kernel
theorem dX1_stayed_48 : decode cX1_stayed 48 = .ok (.getfield 21, 3) := by decide +kernel
theorem dX1_stayed_51 : decode cX1_stayed 51 = .ok (.iconst 1, 1) := by decide +kernel
theorem dX1_stayed_52 : decode cX1_stayed 52 = .ok (.isub, 1) := by decide +kernel
theorem dX1_stayed_53 : decode cX1_stayed 53 = .ok (.iconst 0, 1) := by decide +kernel
theorem dX1_stayed_54 : decode cX1_stayed 54 = .ok (.invokestatic 46, 3) := by decide +kernel
theorem dX1_stayed_57 : decode cX1_stayed 57 = .ok (.putfield 21, 3) := by decide +kernel
theorem dX1_stayed_60 : decode cX1_stayed 60 = .ok (.goto 25, 3) := by decide +kernel
theorem dX1_stayed_63 : decode cX1_stayed 63 = .ok (.aload_n 0, 1) := by decide +kernel
theorem dX1_stayed_64 : decode cX1_stayed 64 = .ok (.getfield 21, 3) := by decide +kernel
theorem dX1_stayed_67 : decode cX1_stayed 67 = .ok (.ifCond .lt 18, 3) := by decide +kernel
theorem dX1_stayed_70 : decode cX1_stayed 70 = .ok (.aload_n 0, 1) := by decide +kernel
theorem dX1_stayed_71 : decode cX1_stayed 71 = .ok (.aload_n 0, 1) := by decide +kernel
theorem dX1_stayed_72 : decode cX1_stayed 72 = .ok (.getfield 21, 3) := by decide +kernel
theorem dX1_stayed_75 : decode cX1_stayed 75 = .ok (.iconst 1, 1) := by decide +kernel
theorem dX1_stayed_76 : decode cX1_stayed 76 = .ok (.iadd, 1) := by decide +kernel
theorem dX1_stayed_77 : decode cX1_stayed 77 = .ok (.bipush 90, 2) := by decide +kernel
theorem dX1_stayed_79 : decode cX1_stayed 79 = .ok (.invokestatic 52, 3) := by decide +kernel
theorem dX1_stayed_82 : decode cX1_stayed 82 = .ok (.putfield 21, 3) := by decide +kernel
theorem dX1_stayed_85 : decode cX1_stayed 85 = .ok (.return_, 1) := by decide +kernel
theorem dX2_init_0 : decode cX2_init 0 = .ok (.aload_n 0, 1) := by decide +kernel
theorem dX2_init_1 : decode cX2_init 1 = .ok (.invokespecial 1, 3) := by decide +kernel
theorem dX2_init_4 : decode cX2_init 4 = .ok (.aload_n 0, 1) := by decide +kernel
theorem dX2_init_5 : decode cX2_init 5 = .ok (.iload_n 1, 1) := by decide +kernel
theorem dX2_init_6 : decode cX2_init 6 = .ok (.putfield 7, 3) := by decide +kernel
theorem dX2_init_9 : decode cX2_init 9 = .ok (.aload_n 0, 1) := by decide +kernel
theorem dX2_init_10 : decode cX2_init 10 = .ok (.iload_n 2, 1) := by decide +kernel
theorem dX2_init_11 : decode cX2_init 11 = .ok (.putfield 13, 3) := by decide +kernel
theorem dX2_init_14 : decode cX2_init 14 = .ok (.aload_n 0, 1) := by decide +kernel
theorem dX2_init_15 : decode cX2_init 15 = .ok (.iload_n 3, 1) := by decide +kernel
theorem dX2_init_16 : decode cX2_init 16 = .ok (.putfield 16, 3) := by decide +kernel
theorem dX2_init_19 : decode cX2_init 19 = .ok (.return_, 1) := by decide +kernel
theorem dX2_leadsTo_0 : decode cX2_leadsTo 0 = .ok (.aload_n 0, 1) := by decide +kernel
theorem dX2_leadsTo_1 : decode cX2_leadsTo 1 = .ok (.getfield 19, 3) := by decide +kernel
theorem dX2_leadsTo_4 : decode cX2_leadsTo 4 = .ok (.iload_n 1, 1) := by decide +kernel
theorem dX2_leadsTo_5 : decode cX2_leadsTo 5 = .ok (.ishr, 1) := by decide +kernel
theorem dX2_leadsTo_6 : decode cX2_leadsTo 6 = .ok (.iconst 1, 1) := by decide +kernel
theorem dX2_leadsTo_7 : decode cX2_leadsTo 7 = .ok (.iand, 1) := by decide +kernel
theorem dX2_leadsTo_8 : decode cX2_leadsTo 8 = .ok (.iconst 1, 1) := by decide +kernel
theorem dX2_leadsTo_9 : decode cX2_leadsTo 9 = .ok (.if_icmp .ne 7, 3) := by decide +kernel
theorem dX2_leadsTo_12 : decode cX2_leadsTo 12 = .ok (.iconst 1, 1) := by decide +kernel
theorem dX2_leadsTo_13 : decode cX2_leadsTo 13 = .ok (.goto 4, 3) := by decide +kernel
theorem dX2_leadsTo_16 : decode cX2_leadsTo 16 = .ok (.iconst 0, 1) := by decide +kernel
theorem dX2_leadsTo_17 : decode cX2_leadsTo 17 = .ok (.ireturn, 1) := by decide +kernel
theorem dX2_openTo_0 : decode cX2_openTo 0 = .ok (.aload_n 0, 1) := by decide +kernel
theorem dX2_openTo_1 : decode cX2_openTo 1 = .ok (.dup, 1) := by decide +kernel
theorem dX2_openTo_2 : decode cX2_openTo 2 = .ok (.getfield 19, 3) := by decide +kernel
theorem dX2_openTo_5 : decode cX2_openTo 5 = .ok (.iconst 1, 1) := by decide +kernel
theorem dX2_openTo_6 : decode cX2_openTo 6 = .ok (.iload_n 1, 1) := by decide +kernel
theorem dX2_openTo_7 : decode cX2_openTo 7 = .ok (.ishl, 1) := by decide +kernel
theorem dX2_openTo_8 : decode cX2_openTo 8 = .ok (.ior, 1) := by decide +kernel
theorem dX2_openTo_9 : decode cX2_openTo 9 = .ok (.putfield 19, 3) := by decide +kernel
theorem dX2_openTo_12 : decode cX2_openTo 12 = .ok (.return_, 1) := by decide +kernel
set_option maxRecDepth 20000 in
theorem ggX2_doorsThere_J6_bitCount_0f7a4 : GoodIn wsX2_doorsThere wsJ6_bitCount_0f7a4 := goodIn_r _ [5, 6, 7, 8] (by decide +kernel) (by decide +kernel)
set_option maxRecDepth 20000 in
theorem gX2_doorsThere_J6_bitCount_0f7a4 : GoodIn wsX2_doorsThere (va_wsS RX2 22 yJ6_bitCount_0f7a4 wsJ6_bitCount_0f7a4) := goodIn_app (goodIn_of _ (by decide +kernel)) ggX2_doorsThere_J6_bitCount_0f7a4
theorem dX2_doorsThere_0 : decode cX2_doorsThere 0 = .ok (.aload_n 0, 1) := by decide +kernel
theorem dX2_doorsThere_1 : decode cX2_doorsThere 1 = .ok (.getfield 19, 3) := by decide +kernel
theorem dX2_doorsThere_4 : decode cX2_doorsThere 4 = .ok (.invokestatic 22, 3) := by decide +kernel
theorem dX2_doorsThere_7 : decode cX2_doorsThere 7 = .ok (.ireturn, 1) := by decide +kernel
theorem dX2_wasLet_0 : decode cX2_wasLet 0 = .ok (.aload_n 0, 1) := by decide +kernel
theorem dX2_wasLet_1 : decode cX2_wasLet 1 = .ok (.dup, 1) := by decide +kernel
theorem dX2_wasLet_2 : decode cX2_wasLet 2 = .ok (.getfield 28, 3) := by decide +kernel
theorem dX2_wasLet_5 : decode cX2_wasLet 5 = .ok (.iconst 1, 1) := by decide +kernel
theorem dX2_wasLet_6 : decode cX2_wasLet 6 = .ok (.iadd, 1) := by decide +kernel
theorem dX2_wasLet_7 : decode cX2_wasLet 7 = .ok (.putfield 28, 3) := by decide +kernel
theorem dX2_wasLet_10 : decode cX2_wasLet 10 = .ok (.aload_n 0, 1) := by decide +kernel
theorem dX2_wasLet_11 : decode cX2_wasLet 11 = .ok (.dup, 1) := by decide +kernel
theorem dX2_wasLet_12 : decode cX2_wasLet 12 = .ok (.getfield 31, 3) := by decide +kernel
theorem dX2_wasLet_15 : decode cX2_wasLet 15 = .ok (.iload_n 1, 1) := by decide +kernel
theorem dX2_wasLet_16 : decode cX2_wasLet 16 = .ok (.iadd, 1) := by decide +kernel
theorem dX2_wasLet_17 : decode cX2_wasLet 17 = .ok (.putfield 31, 3) := by decide +kernel
theorem dX2_wasLet_20 : decode cX2_wasLet 20 = .ok (.iload_n 2, 1) := by decide +kernel
theorem dX2_wasLet_21 : decode cX2_wasLet 21 = .ok (.ifCond .eq 17, 3) := by decide +kernel
theorem dX2_wasLet_24 : decode cX2_wasLet 24 = .ok (.aload_n 0, 1) := by decide +kernel
theorem dX2_wasLet_25 : decode cX2_wasLet 25 = .ok (.aload_n 0, 1) := by decide +kernel
theorem dX2_wasLet_26 : decode cX2_wasLet 26 = .ok (.getfield 13, 3) := by decide +kernel
theorem dX2_wasLet_29 : decode cX2_wasLet 29 = .ok (.iconst 1, 1) := by decide +kernel
theorem dX2_wasLet_30 : decode cX2_wasLet 30 = .ok (.isub, 1) := by decide +kernel
theorem dX2_wasLet_31 : decode cX2_wasLet 31 = .ok (.iconst 0, 1) := by decide +kernel
theorem dX2_wasLet_32 : decode cX2_wasLet 32 = .ok (.invokestatic 34, 3) := by decide +kernel
theorem dX2_wasLet_35 : decode cX2_wasLet 35 = .ok (.putfield 13, 3) := by decide +kernel
theorem dX2_wasLet_38 : decode cX2_wasLet 38 = .ok (.return_, 1) := by decide +kernel
theorem dX3_init_0 : decode cX3_init 0 = .ok (.aload_n 0, 1) := by decide +kernel
theorem dX3_init_1 : decode cX3_init 1 = .ok (.invokespecial 3, 3) := by decide +kernel
theorem dX3_init_4 : decode cX3_init 4 = .ok (.aload_n 0, 1) := by decide +kernel
theorem dX3_init_5 : decode cX3_init 5 = .ok (.bipush 12, 2) := by decide +kernel
theorem dX3_init_7 : decode cX3_init 7 = .ok (.newarray .int, 2) := by decide +kernel
theorem dX3_init_9 : decode cX3_init 9 = .ok (.putfield 9, 3) := by decide +kernel
theorem dX3_init_12 : decode cX3_init 12 = .ok (.aload_n 0, 1) := by decide +kernel
theorem dX3_init_13 : decode cX3_init 13 = .ok (.bipush 10, 2) := by decide +kernel
theorem dX3_init_15 : decode cX3_init 15 = .ok (.newarray .int, 2) := by decide +kernel
theorem dX3_init_17 : decode cX3_init 17 = .ok (.putfield 15, 3) := by decide +kernel
theorem dX3_init_20 : decode cX3_init 20 = .ok (.return_, 1) := by decide +kernel
set_option maxRecDepth 20000 in
theorem ggX3_clear_J7_fill_53178 : GoodIn wsX3_clear wsJ7_fill_53178 := goodIn_r _ [6] (by decide +kernel) (by decide +kernel)
set_option maxRecDepth 20000 in
theorem gX3_clear_J7_fill_53178 : GoodIn wsX3_clear (va_wsS RX3 18 yJ7_fill_53178 wsJ7_fill_53178) := goodIn_app (goodIn_of _ (by decide +kernel)) ggX3_clear_J7_fill_53178
theorem dX3_clear_0 : decode cX3_clear 0 = .ok (.aload_n 0, 1) := by decide +kernel
theorem dX3_clear_1 : decode cX3_clear 1 = .ok (.getfield 9, 3) := by decide +kernel
theorem dX3_clear_4 : decode cX3_clear 4 = .ok (.iconst 0, 1) := by decide +kernel
theorem dX3_clear_5 : decode cX3_clear 5 = .ok (.invokestatic 18, 3) := by decide +kernel
theorem dX3_clear_8 : decode cX3_clear 8 = .ok (.aload_n 0, 1) := by decide +kernel
theorem dX3_clear_9 : decode cX3_clear 9 = .ok (.getfield 15, 3) := by decide +kernel
theorem dX3_clear_12 : decode cX3_clear 12 = .ok (.iconst (-1), 1) := by decide +kernel
theorem dX3_clear_13 : decode cX3_clear 13 = .ok (.invokestatic 18, 3) := by decide +kernel
theorem dX3_clear_16 : decode cX3_clear 16 = .ok (.return_, 1) := by decide +kernel
theorem dX3_allow_0 : decode cX3_allow 0 = .ok (.iload_n 1, 1) := by decide +kernel
theorem dX3_allow_1 : decode cX3_allow 1 = .ok (.ifCond .lt 24, 3) := by decide +kernel
theorem dX3_allow_4 : decode cX3_allow 4 = .ok (.iload_n 1, 1) := by decide +kernel
theorem dX3_allow_5 : decode cX3_allow 5 = .ok (.aload_n 0, 1) := by decide +kernel
theorem dX3_allow_6 : decode cX3_allow 6 = .ok (.getfield 9, 3) := by decide +kernel
theorem dX3_allow_9 : decode cX3_allow 9 = .ok (.arraylength, 1) := by decide +kernel
theorem dX3_allow_10 : decode cX3_allow 10 = .ok (.if_icmp .ge 15, 3) := by decide +kernel
theorem dX3_allow_13 : decode cX3_allow 13 = .ok (.aload_n 0, 1) := by decide +kernel
theorem dX3_allow_14 : decode cX3_allow 14 = .ok (.getfield 9, 3) := by decide +kernel
theorem dX3_allow_17 : decode cX3_allow 17 = .ok (.iload_n 1, 1) := by decide +kernel
theorem dX3_allow_18 : decode cX3_allow 18 = .ok (.dup2, 1) := by decide +kernel
theorem dX3_allow_19 : decode cX3_allow 19 = .ok (.iaload, 1) := by decide +kernel
theorem dX3_allow_20 : decode cX3_allow 20 = .ok (.iconst 1, 1) := by decide +kernel
theorem dX3_allow_21 : decode cX3_allow 21 = .ok (.iload_n 2, 1) := by decide +kernel
theorem dX3_allow_22 : decode cX3_allow 22 = .ok (.ishl, 1) := by decide +kernel
theorem dX3_allow_23 : decode cX3_allow 23 = .ok (.ior, 1) := by decide +kernel
theorem dX3_allow_24 : decode cX3_allow 24 = .ok (.iastore, 1) := by decide +kernel
theorem dX3_allow_25 : decode cX3_allow 25 = .ok (.return_, 1) := by decide +kernel
set_option maxRecDepth 20000 in
theorem ggX3_seat_X3_findRoom : GoodIn wsX3_seat wsX3_findRoom := goodIn_r _ [5, 6, 7, 1, 2, 3, 4, 8, 9, 10] (by decide +kernel) (by decide +kernel)
set_option maxRecDepth 20000 in
theorem gX3_seat_X3_findRoom : GoodIn wsX3_seat (va_wsS RX3 28 yX3_findRoom wsX3_findRoom) := goodIn_app (goodIn_of _ (by decide +kernel)) ggX3_seat_X3_findRoom
theorem dX3_seat_0 : decode cX3_seat 0 = .ok (.aload_n 0, 1) := by decide +kernel
theorem dX3_seat_1 : decode cX3_seat 1 = .ok (.iconst 0, 1) := by decide +kernel
theorem dX3_seat_2 : decode cX3_seat 2 = .ok (.putfield 24, 3) := by decide +kernel
theorem dX3_seat_5 : decode cX3_seat 5 = .ok (.aload_n 0, 1) := by decide +kernel
theorem dX3_seat_6 : decode cX3_seat 6 = .ok (.iload_n 1, 1) := by decide +kernel
theorem dX3_seat_7 : decode cX3_seat 7 = .ok (.iconst 0, 1) := by decide +kernel
theorem dX3_seat_8 : decode cX3_seat 8 = .ok (.invokestatic 28, 3) := by decide +kernel
theorem dX3_seat_11 : decode cX3_seat 11 = .ok (.ireturn, 1) := by decide +kernel
set_option maxRecDepth 20000 in
theorem ggX3_findRoom_X3_findRoom : GoodIn wsX3_findRoom wsX3_findRoom := goodIn_r _ [0, 1, 2, 3, 4, 5, 6, 7, 8, 9] (by decide +kernel) (by decide +kernel)
set_option maxRecDepth 20000 in
theorem gX3_findRoom_X3_findRoom : GoodIn wsX3_findRoom (va_wsS RX3 28 yX3_findRoom wsX3_findRoom) := goodIn_app (goodIn_of _ (by decide +kernel)) ggX3_findRoom_X3_findRoom
theorem dX3_findRoom_0 : decode cX3_findRoom 0 = .ok (.iload_n 1, 1) := by decide +kernel
theorem dX3_findRoom_1 : decode cX3_findRoom 1 = .ok (.ifCond .lt 18, 3) := by decide +kernel
theorem dX3_findRoom_4 : decode cX3_findRoom 4 = .ok (.iload_n 1, 1) := by decide +kernel
theorem dX3_findRoom_5 : decode cX3_findRoom 5 = .ok (.aload_n 0, 1) := by decide +kernel
theorem dX3_findRoom_6 : decode cX3_findRoom 6 = .ok (.getfield 9, 3) := by decide +kernel
theorem dX3_findRoom_9 : decode cX3_findRoom 9 = .ok (.arraylength, 1) := by decide +kernel
theorem dX3_findRoom_10 : decode cX3_findRoom 10 = .ok (.if_icmp .ge 9, 3) := by decide +kernel
theorem dX3_findRoom_13 : decode cX3_findRoom 13 = .ok (.iload_n 2, 1) := by decide +kernel
theorem dX3_findRoom_14 : decode cX3_findRoom 14 = .ok (.bipush 10, 2) := by decide +kernel
theorem dX3_findRoom_16 : decode cX3_findRoom 16 = .ok (.if_icmp .le 5, 3) := by decide +kernel
theorem dX3_findRoom_19 : decode cX3_findRoom 19 = .ok (.iconst 0, 1) := by decide +kernel
theorem dX3_findRoom_20 : decode cX3_findRoom 20 = .ok (.ireturn, 1) := by decide +kernel
theorem dX3_findRoom_21 : decode cX3_findRoom 21 = .ok (.iconst 0, 1) := by decide +kernel
theorem dX3_findRoom_22 : decode cX3_findRoom 22 = .ok (.istore_n 3, 1) := by decide +kernel
theorem dX3_findRoom_23 : decode cX3_findRoom 23 = .ok (.iload_n 3, 1) := by decide +kernel
theorem dX3_findRoom_24 : decode cX3_findRoom 24 = .ok (.aload_n 0, 1) := by decide +kernel
theorem dX3_findRoom_25 : decode cX3_findRoom 25 = .ok (.getfield 15, 3) := by decide +kernel
theorem dX3_findRoom_28 : decode cX3_findRoom 28 = .ok (.arraylength, 1) := by decide +kernel
theorem dX3_findRoom_29 : decode cX3_findRoom 29 = .ok (.if_icmp .ge 82, 3) := by decide +kernel
theorem dX3_findRoom_32 : decode cX3_findRoom 32 = .ok (.iconst 1, 1) := by decide +kernel
theorem dX3_findRoom_33 : decode cX3_findRoom 33 = .ok (.iload_n 3, 1) := by decide +kernel
theorem dX3_findRoom_34 : decode cX3_findRoom 34 = .ok (.ishl, 1) := by decide +kernel
theorem dX3_findRoom_35 : decode cX3_findRoom 35 = .ok (.istore 4, 2) := by decide +kernel
theorem dX3_findRoom_37 : decode cX3_findRoom 37 = .ok (.aload_n 0, 1) := by decide +kernel
theorem dX3_findRoom_38 : decode cX3_findRoom 38 = .ok (.getfield 9, 3) := by decide +kernel
theorem dX3_findRoom_41 : decode cX3_findRoom 41 = .ok (.iload_n 1, 1) := by decide +kernel
theorem dX3_findRoom_42 : decode cX3_findRoom 42 = .ok (.iaload, 1) := by decide +kernel
theorem dX3_findRoom_43 : decode cX3_findRoom 43 = .ok (.iload 4, 2) := by decide +kernel
theorem dX3_findRoom_45 : decode cX3_findRoom 45 = .ok (.iand, 1) := by decide +kernel
theorem dX3_findRoom_46 : decode cX3_findRoom 46 = .ok (.ifCond .eq 59, 3) := by decide +kernel
theorem dX3_findRoom_49 : decode cX3_findRoom 49 = .ok (.aload_n 0, 1) := by decide +kernel
theorem dX3_findRoom_50 : decode cX3_findRoom 50 = .ok (.getfield 24, 3) := by decide +kernel
theorem dX3_findRoom_53 : decode cX3_findRoom 53 = .ok (.iload 4, 2) := by decide +kernel
theorem dX3_findRoom_55 : decode cX3_findRoom 55 = .ok (.iand, 1) := by decide +kernel
theorem dX3_findRoom_56 : decode cX3_findRoom 56 = .ok (.ifCond .ne 49, 3) := by decide +kernel
theorem dX3_findRoom_59 : decode cX3_findRoom 59 = .ok (.aload_n 0, 1) := by decide +kernel
theorem dX3_findRoom_60 : decode cX3_findRoom 60 = .ok (.dup, 1) := by decide +kernel
theorem dX3_findRoom_61 : decode cX3_findRoom 61 = .ok (.getfield 24, 3) := by decide +kernel
theorem dX3_findRoom_64 : decode cX3_findRoom 64 = .ok (.iload 4, 2) := by decide +kernel
theorem dX3_findRoom_66 : decode cX3_findRoom 66 = .ok (.ior, 1) := by decide +kernel
theorem dX3_findRoom_67 : decode cX3_findRoom 67 = .ok (.putfield 24, 3) := by decide +kernel
theorem dX3_findRoom_70 : decode cX3_findRoom 70 = .ok (.aload_n 0, 1) := by decide +kernel
theorem dX3_findRoom_71 : decode cX3_findRoom 71 = .ok (.getfield 15, 3) := by decide +kernel
theorem dX3_findRoom_74 : decode cX3_findRoom 74 = .ok (.iload_n 3, 1) := by decide +kernel
theorem dX3_findRoom_75 : decode cX3_findRoom 75 = .ok (.iaload, 1) := by decide +kernel
theorem dX3_findRoom_76 : decode cX3_findRoom 76 = .ok (.istore 5, 2) := by decide +kernel
theorem dX3_findRoom_78 : decode cX3_findRoom 78 = .ok (.iload 5, 2) := by decide +kernel
theorem dX3_findRoom_80 : decode cX3_findRoom 80 = .ok (.iconst (-1), 1) := by decide +kernel
theorem dX3_findRoom_81 : decode cX3_findRoom 81 = .ok (.if_icmp .eq 15, 3) := by decide +kernel
theorem dX3_findRoom_84 : decode cX3_findRoom 84 = .ok (.aload_n 0, 1) := by decide +kernel
theorem dX3_findRoom_85 : decode cX3_findRoom 85 = .ok (.iload 5, 2) := by decide +kernel
theorem dX3_findRoom_87 : decode cX3_findRoom 87 = .ok (.iload_n 2, 1) := by decide +kernel
theorem dX3_findRoom_88 : decode cX3_findRoom 88 = .ok (.iconst 1, 1) := by decide +kernel
theorem dX3_findRoom_89 : decode cX3_findRoom 89 = .ok (.iadd, 1) := by decide +kernel
theorem dX3_findRoom_90 : decode cX3_findRoom 90 = .ok (.invokestatic 28, 3) := by decide +kernel
theorem dX3_findRoom_93 : decode cX3_findRoom 93 = .ok (.ifCond .eq 12, 3) := by decide +kernel
theorem dX3_findRoom_96 : decode cX3_findRoom 96 = .ok (.aload_n 0, 1) := by decide +kernel
theorem dX3_findRoom_97 : decode cX3_findRoom 97 = .ok (.getfield 15, 3) := by decide +kernel
theorem dX3_findRoom_100 : decode cX3_findRoom 100 = .ok (.iload_n 3, 1) := by decide +kernel
theorem dX3_findRoom_101 : decode cX3_findRoom 101 = .ok (.iload_n 1, 1) := by decide +kernel
theorem dX3_findRoom_102 : decode cX3_findRoom 102 = .ok (.iastore, 1) := by decide +kernel
theorem dX3_findRoom_103 : decode cX3_findRoom 103 = .ok (.iconst 1, 1) := by decide +kernel
theorem dX3_findRoom_104 : decode cX3_findRoom 104 = .ok (.ireturn, 1) := by decide +kernel
theorem dX3_findRoom_105 : decode cX3_findRoom 105 = .ok (.iinc 3 1, 3) := by decide +kernel
theorem dX3_findRoom_108 : decode cX3_findRoom 108 = .ok (.goto (-85), 3) := by decide +kernel
theorem dX3_findRoom_111 : decode cX3_findRoom 111 = .ok (.iconst 0, 1) := by decide +kernel
theorem dX3_findRoom_112 : decode cX3_findRoom 112 = .ok (.ireturn, 1) := by decide +kernel
set_option maxRecDepth 20000 in
theorem ggX4_init_Jx4a65c_init_da8c8 : GoodIn wsX4_init wsJx4a65c_init_da8c8 := goodIn_r _ [16, 17, 18, 19, 20, 21, 22, 23, 24, 25, 26, 27, 28, 2, 3, 35, 36, 37] (by decide +kernel) (by decide +kernel)
set_option maxRecDepth 20000 in
theorem gX4_init_Jx4a65c_init_da8c8 : GoodIn wsX4_init (wsJx4a65c_init_da8c8) := ggX4_init_Jx4a65c_init_da8c8
set_option maxRecDepth 20000 in
theorem ggX4_init_X3_init : GoodIn wsX4_init wsX3_init := goodIn_r _ [30, 31, 2, 3, 32, 33, 34, 46, 47, 48] (by decide +kernel) (by decide +kernel)
set_option maxRecDepth 20000 in
theorem gX4_init_X3_init_n24 : GoodIn wsX4_init (wsX3_init) := ggX4_init_X3_init
theorem dX4_init_0 : decode cX4_init 0 = .ok (.aload_n 0, 1) := by decide +kernel
theorem dX4_init_1 : decode cX4_init 1 = .ok (.invokespecial 1, 3) := by decide +kernel
theorem dX4_init_4 : decode cX4_init 4 = .ok (.aload_n 0, 1) := by decide +kernel
theorem dX4_init_5 : decode cX4_init 5 = .ok (.new 7, 3) := by decide +kernel
theorem dX4_init_8 : decode cX4_init 8 = .ok (.dup, 1) := by decide +kernel
theorem dX4_init_9 : decode cX4_init 9 = .ok (.invokespecial 9, 3) := by decide +kernel
theorem dX4_init_12 : decode cX4_init 12 = .ok (.putfield 10, 3) := by decide +kernel
theorem dX4_init_15 : decode cX4_init 15 = .ok (.aload_n 0, 1) := by decide +kernel
theorem dX4_init_16 : decode cX4_init 16 = .ok (.new 7, 3) := by decide +kernel
theorem dX4_init_19 : decode cX4_init 19 = .ok (.dup, 1) := by decide +kernel
theorem dX4_init_20 : decode cX4_init 20 = .ok (.invokespecial 9, 3) := by decide +kernel
theorem dX4_init_23 : decode cX4_init 23 = .ok (.putfield 16, 3) := by decide +kernel
theorem dX4_init_26 : decode cX4_init 26 = .ok (.aload_n 0, 1) := by decide +kernel
theorem dX4_init_27 : decode cX4_init 27 = .ok (.new 7, 3) := by decide +kernel
theorem dX4_init_30 : decode cX4_init 30 = .ok (.dup, 1) := by decide +kernel
theorem dX4_init_31 : decode cX4_init 31 = .ok (.invokespecial 9, 3) := by decide +kernel
theorem dX4_init_34 : decode cX4_init 34 = .ok (.putfield 19, 3) := by decide +kernel
theorem dX4_init_37 : decode cX4_init 37 = .ok (.aload_n 0, 1) := by decide +kernel
theorem dX4_init_38 : decode cX4_init 38 = .ok (.new 22, 3) := by decide +kernel
theorem dX4_init_41 : decode cX4_init 41 = .ok (.dup, 1) := by decide +kernel
theorem dX4_init_42 : decode cX4_init 42 = .ok (.invokespecial 24, 3) := by decide +kernel
theorem dX4_init_45 : decode cX4_init 45 = .ok (.putfield 25, 3) := by decide +kernel
theorem dX4_init_48 : decode cX4_init 48 = .ok (.return_, 1) := by decide +kernel
set_option maxRecDepth 20000 in
theorem ggX4_furnish_X4_within : GoodIn wsX4_furnish wsX4_within := goodIn_r _ [12] (by decide +kernel) (by decide +kernel)
set_option maxRecDepth 20000 in
theorem gX4_furnish_X4_within : GoodIn wsX4_furnish (va_wsS RX4 29 yX4_within wsX4_within) := goodIn_app (goodIn_of _ (by decide +kernel)) ggX4_furnish_X4_within
set_option maxRecDepth 20000 in
theorem ggX4_furnish_Jx4a65c_size_8abf5 : GoodIn wsX4_furnish wsJx4a65c_size_8abf5 := goodIn_r _ [17, 18, 96, 97, 98] (by decide +kernel) (by decide +kernel)
set_option maxRecDepth 20000 in
theorem gX4_furnish_Jx4a65c_size_8abf5 : GoodIn wsX4_furnish (wsV RX4 40 RJx4a65c yJx4a65c_size_8abf5 wsJx4a65c_size_8abf5) := goodIn_app (goodIn_of _ (by decide +kernel)) ggX4_furnish_Jx4a65c_size_8abf5
set_option maxRecDepth 20000 in
theorem ggX4_furnish_X2_init : GoodIn wsX4_furnish wsX2_init := goodIn_r _ [21, 22, 23, 24, 25, 26, 27, 90, 91, 92, 93, 94, 95] (by decide +kernel) (by decide +kernel)
set_option maxRecDepth 20000 in
theorem gX4_furnish_X2_init : GoodIn wsX4_furnish (wsX2_init) := ggX4_furnish_X2_init
set_option maxRecDepth 20000 in
theorem ggX4_furnish_Jx4a65c_add_9ea2d : GoodIn wsX4_furnish wsJx4a65c_add_9ea2d := goodIn_r _ [31, 32, 33, 34, 18, 35, 36, 37, 16, 38, 39, 40, 41, 42, 43, 44, 45, 46, 47, 48, 49, 50, 51, 52, 53, 54, 55, 56, 57, 58, 59, 60, 61, 62, 63, 64, 65, 66, 67, 68, 69, 70, 71, 72, 73, 74, 75, 76, 77, 78, 79, 80, 81, 96, 97, 98] (by decide +kernel) (by decide +kernel)
set_option maxRecDepth 20000 in
theorem gX4_furnish_Jx4a65c_add_9ea2d : GoodIn wsX4_furnish (wsV RX4 54 RJx4a65c yJx4a65c_add_9ea2d wsJx4a65c_add_9ea2d) := goodIn_app (goodIn_of _ (by decide +kernel)) ggX4_furnish_Jx4a65c_add_9ea2d
theorem dX4_furnish_0 : decode cX4_furnish 0 = .ok (.iload_n 1, 1) := by decide +kernel
theorem dX4_furnish_1 : decode cX4_furnish 1 = .ok (.iconst 1, 1) := by decide +kernel
theorem dX4_furnish_2 : decode cX4_furnish 2 = .ok (.bipush 6, 2) := by decide +kernel
theorem dX4_furnish_4 : decode cX4_furnish 4 = .ok (.invokestatic 29, 3) := by decide +kernel
theorem dX4_furnish_7 : decode cX4_furnish 7 = .ok (.ifCond .eq 23, 3) := by decide +kernel
theorem dX4_furnish_10 : decode cX4_furnish 10 = .ok (.iload_n 2, 1) := by decide +kernel
theorem dX4_furnish_11 : decode cX4_furnish 11 = .ok (.iconst 0, 1) := by decide +kernel
theorem dX4_furnish_12 : decode cX4_furnish 12 = .ok (.bipush 9, 2) := by decide +kernel
theorem dX4_furnish_14 : decode cX4_furnish 14 = .ok (.invokestatic 29, 3) := by decide +kernel
theorem dX4_furnish_17 : decode cX4_furnish 17 = .ok (.ifCond .eq 13, 3) := by decide +kernel
theorem dX4_furnish_20 : decode cX4_furnish 20 = .ok (.iload_n 3, 1) := by decide +kernel
theorem dX4_furnish_21 : decode cX4_furnish 21 = .ok (.iconst 0, 1) := by decide +kernel
theorem dX4_furnish_22 : decode cX4_furnish 22 = .ok (.bipush 100, 2) := by decide +kernel
theorem dX4_furnish_24 : decode cX4_furnish 24 = .ok (.invokestatic 29, 3) := by decide +kernel
theorem dX4_furnish_27 : decode cX4_furnish 27 = .ok (.ifCond .ne 13, 3) := by decide +kernel
theorem dX4_furnish_30 : decode cX4_furnish 30 = .ok (.new 33, 3) := by decide +kernel
theorem dX4_furnish_33 : decode cX4_furnish 33 = .ok (.dup, 1) := by decide +kernel
theorem dX4_furnish_34 : decode cX4_furnish 34 = .ok (.ldc 35, 2) := by decide +kernel
theorem dX4_furnish_36 : decode cX4_furnish 36 = .ok (.invokespecial 37, 3) := by decide +kernel
theorem dX4_furnish_39 : decode cX4_furnish 39 = .ok (.athrow, 1) := by decide +kernel
theorem dX4_furnish_40 : decode cX4_furnish 40 = .ok (.aload_n 0, 1) := by decide +kernel
theorem dX4_furnish_41 : decode cX4_furnish 41 = .ok (.getfield 10, 3) := by decide +kernel
theorem dX4_furnish_44 : decode cX4_furnish 44 = .ok (.invokevirtual 40, 3) := by decide +kernel
theorem dX4_furnish_47 : decode cX4_furnish 47 = .ok (.bipush 10, 2) := by decide +kernel
theorem dX4_furnish_49 : decode cX4_furnish 49 = .ok (.if_icmp .lt 13, 3) := by decide +kernel
theorem dX4_furnish_52 : decode cX4_furnish 52 = .ok (.new 44, 3) := by decide +kernel
theorem dX4_furnish_55 : decode cX4_furnish 55 = .ok (.dup, 1) := by decide +kernel
theorem dX4_furnish_56 : decode cX4_furnish 56 = .ok (.ldc 46, 2) := by decide +kernel
theorem dX4_furnish_58 : decode cX4_furnish 58 = .ok (.invokespecial 48, 3) := by decide +kernel
theorem dX4_furnish_61 : decode cX4_furnish 61 = .ok (.athrow, 1) := by decide +kernel
theorem dX4_furnish_62 : decode cX4_furnish 62 = .ok (.aload_n 0, 1) := by decide +kernel
theorem dX4_furnish_63 : decode cX4_furnish 63 = .ok (.getfield 10, 3) := by decide +kernel
theorem dX4_furnish_66 : decode cX4_furnish 66 = .ok (.new 49, 3) := by decide +kernel
theorem dX4_furnish_69 : decode cX4_furnish 69 = .ok (.dup, 1) := by decide +kernel
theorem dX4_furnish_70 : decode cX4_furnish 70 = .ok (.iload_n 1, 1) := by decide +kernel
theorem dX4_furnish_71 : decode cX4_furnish 71 = .ok (.iload_n 2, 1) := by decide +kernel
theorem dX4_furnish_72 : decode cX4_furnish 72 = .ok (.iload_n 3, 1) := by decide +kernel
theorem dX4_furnish_73 : decode cX4_furnish 73 = .ok (.invokespecial 51, 3) := by decide +kernel
theorem dX4_furnish_76 : decode cX4_furnish 76 = .ok (.invokevirtual 54, 3) := by decide +kernel
theorem dX4_furnish_79 : decode cX4_furnish 79 = .ok (.pop, 1) := by decide +kernel
theorem dX4_furnish_80 : decode cX4_furnish 80 = .ok (.aload_n 0, 1) := by decide +kernel
theorem dX4_furnish_81 : decode cX4_furnish 81 = .ok (.getfield 10, 3) := by decide +kernel
theorem dX4_furnish_84 : decode cX4_furnish 84 = .ok (.invokevirtual 40, 3) := by decide +kernel
theorem dX4_furnish_87 : decode cX4_furnish 87 = .ok (.iconst 1, 1) := by decide +kernel
theorem dX4_furnish_88 : decode cX4_furnish 88 = .ok (.isub, 1) := by decide +kernel
theorem dX4_furnish_89 : decode cX4_furnish 89 = .ok (.ireturn, 1) := by decide +kernel
set_option maxRecDepth 20000 in
theorem ggX4_door_X4_isRoom : GoodIn wsX4_door wsX4_isRoom := goodIn_r _ [14, 7, 15, 16, 17, 18, 19, 20, 76, 77, 78, 79, 80, 81, 82, 83, 84, 85, 86] (by decide +kernel) (by decide +kernel)
set_option maxRecDepth 20000 in
theorem gX4_door_X4_isRoom : GoodIn wsX4_door (wsV RX4 58 RX4 yX4_isRoom wsX4_isRoom) := goodIn_app (goodIn_of _ (by decide +kernel)) ggX4_door_X4_isRoom
set_option maxRecDepth 20000 in
theorem ggX4_door_Jx4a65c_get_915e3 : GoodIn wsX4_door wsJx4a65c_get_915e3 := goodIn_r _ [24, 20, 25, 26, 27, 28, 29, 30, 31, 32, 33, 34, 35, 18, 36, 37, 84, 85, 86] (by decide +kernel) (by decide +kernel)
set_option maxRecDepth 20000 in
theorem gX4_door_Jx4a65c_get_915e3 : GoodIn wsX4_door (wsV RX4 69 RJx4a65c yJx4a65c_get_915e3 wsJx4a65c_get_915e3) := goodIn_app (goodIn_of _ (by decide +kernel)) ggX4_door_Jx4a65c_get_915e3
set_option maxRecDepth 20000 in
theorem ggX4_door_X2_leadsTo : GoodIn wsX4_door wsX2_leadsTo := goodIn_r _ [42, 43, 87, 88, 89, 90, 91, 92] (by decide +kernel) (by decide +kernel)
set_option maxRecDepth 20000 in
theorem gX4_door_X2_leadsTo : GoodIn wsX4_door (wsV RX4 73 RX2 yX2_leadsTo wsX2_leadsTo) := goodIn_app (goodIn_of _ (by decide +kernel)) ggX4_door_X2_leadsTo
set_option maxRecDepth 20000 in
theorem ggX4_door_X2_openTo : GoodIn wsX4_door wsX2_openTo := goodIn_r _ [47, 43, 87, 88, 89, 90, 91, 92] (by decide +kernel) (by decide +kernel)
set_option maxRecDepth 20000 in
theorem gX4_door_X2_openTo : GoodIn wsX4_door (wsV RX4 82 RX2 yX2_openTo wsX2_openTo) := goodIn_app (goodIn_of _ (by decide +kernel)) ggX4_door_X2_openTo
set_option maxRecDepth 20000 in
theorem ggX4_door_X4_planAllWays : GoodIn wsX4_door wsX4_planAllWays := goodIn_r _ [51, 52, 53, 15, 16, 17, 18, 19, 20, 21, 22, 23, 24, 25, 26, 27, 28, 29, 30, 31, 32, 33, 34, 35, 36, 37, 54, 55, 56, 13, 57, 58, 59, 60, 61, 62, 63, 7, 8, 10, 11, 12, 14, 38, 39, 40, 41, 42, 43, 64, 65, 66, 67, 68, 69, 70, 71, 72, 73, 74, 75, 76, 77, 78, 79, 80, 81, 82, 83, 84, 85, 86, 93, 94, 95, 96, 97, 87, 88, 89, 90, 91, 92] (by decide +kernel) (by decide +kernel)
set_option maxRecDepth 20000 in
theorem gX4_door_X4_planAllWays : GoodIn wsX4_door (wsV RX4 86 RX4 yX4_planAllWays wsX4_planAllWays) := goodIn_app (goodIn_of _ (by decide +kernel)) ggX4_door_X4_planAllWays
theorem dX4_door_0 : decode cX4_door 0 = .ok (.aload_n 0, 1) := by decide +kernel
theorem dX4_door_1 : decode cX4_door 1 = .ok (.iload_n 1, 1) := by decide +kernel
theorem dX4_door_2 : decode cX4_door 2 = .ok (.invokevirtual 58, 3) := by decide +kernel
theorem dX4_door_5 : decode cX4_door 5 = .ok (.ifCond .eq 11, 3) := by decide +kernel
theorem dX4_door_8 : decode cX4_door 8 = .ok (.aload_n 0, 1) := by decide +kernel
theorem dX4_door_9 : decode cX4_door 9 = .ok (.iload_n 2, 1) := by decide +kernel
theorem dX4_door_10 : decode cX4_door 10 = .ok (.invokevirtual 58, 3) := by decide +kernel
theorem dX4_door_13 : decode cX4_door 13 = .ok (.ifCond .ne 13, 3) := by decide +kernel
theorem dX4_door_16 : decode cX4_door 16 = .ok (.new 62, 3) := by decide +kernel
theorem dX4_door_19 : decode cX4_door 19 = .ok (.dup, 1) := by decide +kernel
theorem dX4_door_20 : decode cX4_door 20 = .ok (.ldc 64, 2) := by decide +kernel
theorem dX4_door_22 : decode cX4_door 22 = .ok (.invokespecial 66, 3) := by decide +kernel
theorem dX4_door_25 : decode cX4_door 25 = .ok (.athrow, 1) := by decide +kernel
theorem dX4_door_26 : decode cX4_door 26 = .ok (.iload_n 1, 1) := by decide +kernel
theorem dX4_door_27 : decode cX4_door 27 = .ok (.iload_n 2, 1) := by decide +kernel
theorem dX4_door_28 : decode cX4_door 28 = .ok (.if_icmp .ne 13, 3) := by decide +kernel
theorem dX4_door_31 : decode cX4_door 31 = .ok (.new 33, 3) := by decide +kernel
theorem dX4_door_34 : decode cX4_door 34 = .ok (.dup, 1) := by decide +kernel
theorem dX4_door_35 : decode cX4_door 35 = .ok (.ldc 67, 2) := by decide +kernel
theorem dX4_door_37 : decode cX4_door 37 = .ok (.invokespecial 37, 3) := by decide +kernel
theorem dX4_door_40 : decode cX4_door 40 = .ok (.athrow, 1) := by decide +kernel
theorem dX4_door_41 : decode cX4_door 41 = .ok (.aload_n 0, 1) := by decide +kernel
theorem dX4_door_42 : decode cX4_door 42 = .ok (.getfield 10, 3) := by decide +kernel
theorem dX4_door_45 : decode cX4_door 45 = .ok (.iload_n 1, 1) := by decide +kernel
theorem dX4_door_46 : decode cX4_door 46 = .ok (.invokevirtual 69, 3) := by decide +kernel
theorem dX4_door_49 : decode cX4_door 49 = .ok (.checkcast 49, 3) := by decide +kernel
theorem dX4_door_52 : decode cX4_door 52 = .ok (.astore_n 3, 1) := by decide +kernel
theorem dX4_door_53 : decode cX4_door 53 = .ok (.aload_n 0, 1) := by decide +kernel
theorem dX4_door_54 : decode cX4_door 54 = .ok (.getfield 10, 3) := by decide +kernel
theorem dX4_door_57 : decode cX4_door 57 = .ok (.iload_n 2, 1) := by decide +kernel
theorem dX4_door_58 : decode cX4_door 58 = .ok (.invokevirtual 69, 3) := by decide +kernel
theorem dX4_door_61 : decode cX4_door 61 = .ok (.checkcast 49, 3) := by decide +kernel
theorem dX4_door_64 : decode cX4_door 64 = .ok (.astore 4, 2) := by decide +kernel
theorem dX4_door_66 : decode cX4_door 66 = .ok (.aload_n 3, 1) := by decide +kernel
theorem dX4_door_67 : decode cX4_door 67 = .ok (.iload_n 2, 1) := by decide +kernel
theorem dX4_door_68 : decode cX4_door 68 = .ok (.invokevirtual 73, 3) := by decide +kernel
theorem dX4_door_71 : decode cX4_door 71 = .ok (.ifCond .eq 8, 3) := by decide +kernel
theorem dX4_door_74 : decode cX4_door 74 = .ok (.aload_n 0, 1) := by decide +kernel
theorem dX4_door_75 : decode cX4_door 75 = .ok (.getfield 76, 3) := by decide +kernel
theorem dX4_door_78 : decode cX4_door 78 = .ok (.ireturn, 1) := by decide +kernel
theorem dX4_door_79 : decode cX4_door 79 = .ok (.aload_n 0, 1) := by decide +kernel
theorem dX4_door_80 : decode cX4_door 80 = .ok (.getfield 76, 3) := by decide +kernel
theorem dX4_door_83 : decode cX4_door 83 = .ok (.bipush 20, 2) := by decide +kernel
theorem dX4_door_85 : decode cX4_door 85 = .ok (.if_icmp .lt 13, 3) := by decide +kernel
theorem dX4_door_88 : decode cX4_door 88 = .ok (.new 44, 3) := by decide +kernel
theorem dX4_door_91 : decode cX4_door 91 = .ok (.dup, 1) := by decide +kernel
theorem dX4_door_92 : decode cX4_door 92 = .ok (.ldc 80, 2) := by decide +kernel
theorem dX4_door_94 : decode cX4_door 94 = .ok (.invokespecial 48, 3) := by decide +kernel
theorem dX4_door_97 : decode cX4_door 97 = .ok (.athrow, 1) := by decide +kernel
theorem dX4_door_98 : decode cX4_door 98 = .ok (.aload_n 3, 1) := by decide +kernel
theorem dX4_door_99 : decode cX4_door 99 = .ok (.iload_n 2, 1) := by decide +kernel
theorem dX4_door_100 : decode cX4_door 100 = .ok (.invokevirtual 82, 3) := by decide +kernel
theorem dX4_door_103 : decode cX4_door 103 = .ok (.aload 4, 2) := by decide +kernel
theorem dX4_door_105 : decode cX4_door 105 = .ok (.iload_n 1, 1) := by decide +kernel
theorem dX4_door_106 : decode cX4_door 106 = .ok (.invokevirtual 82, 3) := by decide +kernel
theorem dX4_door_109 : decode cX4_door 109 = .ok (.aload_n 0, 1) := by decide +kernel
theorem dX4_door_110 : decode cX4_door 110 = .ok (.dup, 1) := by decide +kernel
theorem dX4_door_111 : decode cX4_door 111 = .ok (.getfield 76, 3) := by decide +kernel
theorem dX4_door_114 : decode cX4_door 114 = .ok (.iconst 1, 1) := by decide +kernel
theorem dX4_door_115 : decode cX4_door 115 = .ok (.iadd, 1) := by decide +kernel
theorem dX4_door_116 : decode cX4_door 116 = .ok (.putfield 76, 3) := by decide +kernel
theorem dX4_door_119 : decode cX4_door 119 = .ok (.aload_n 0, 1) := by decide +kernel
theorem dX4_door_120 : decode cX4_door 120 = .ok (.invokevirtual 86, 3) := by decide +kernel
theorem dX4_door_123 : decode cX4_door 123 = .ok (.aload_n 0, 1) := by decide +kernel
theorem dX4_door_124 : decode cX4_door 124 = .ok (.getfield 76, 3) := by decide +kernel
theorem dX4_door_127 : decode cX4_door 127 = .ok (.ireturn, 1) := by decide +kernel
set_option maxRecDepth 20000 in
theorem ggX4_haunt_X4_isRoom : GoodIn wsX4_haunt wsX4_isRoom := goodIn_r _ [15, 16, 17, 18, 19, 20, 21, 22, 133, 134, 135, 136, 137, 138, 139, 140, 146, 147, 148] (by decide +kernel) (by decide +kernel)
set_option maxRecDepth 20000 in
theorem gX4_haunt_X4_isRoom : GoodIn wsX4_haunt (wsV RX4 58 RX4 yX4_isRoom wsX4_isRoom) := goodIn_app (goodIn_of _ (by decide +kernel)) ggX4_haunt_X4_isRoom
set_option maxRecDepth 20000 in
theorem ggX4_haunt_X4_within : GoodIn wsX4_haunt wsX4_within := goodIn_r _ [25] (by decide +kernel) (by decide +kernel)
set_option maxRecDepth 20000 in
theorem gX4_haunt_X4_within : GoodIn wsX4_haunt (va_wsS RX4 29 yX4_within wsX4_within) := goodIn_app (goodIn_of _ (by decide +kernel)) ggX4_haunt_X4_within
set_option maxRecDepth 20000 in
theorem ggX4_haunt_Jx4a65c_size_8abf5 : GoodIn wsX4_haunt wsJx4a65c_size_8abf5 := goodIn_r _ [21, 22, 146, 147, 148] (by decide +kernel) (by decide +kernel)
set_option maxRecDepth 20000 in
theorem gX4_haunt_Jx4a65c_size_8abf5 : GoodIn wsX4_haunt (wsV RX4 40 RJx4a65c yJx4a65c_size_8abf5 wsJx4a65c_size_8abf5) := goodIn_app (goodIn_of _ (by decide +kernel)) ggX4_haunt_Jx4a65c_size_8abf5
set_option maxRecDepth 20000 in
theorem ggX4_haunt_X0_init : GoodIn wsX4_haunt wsX0_init := goodIn_r _ [28, 29, 30, 31, 32, 33, 34, 35, 36, 37, 141, 142, 143, 144, 145] (by decide +kernel) (by decide +kernel)
set_option maxRecDepth 20000 in
theorem gX4_haunt_X0_init : GoodIn wsX4_haunt (wsX0_init) := ggX4_haunt_X0_init
set_option maxRecDepth 20000 in
theorem ggX4_haunt_X4_planWay : GoodIn wsX4_haunt wsX4_planWay := goodIn_r _ [41, 42, 43, 44, 45, 46, 14, 47, 16, 48, 11, 12, 13, 15, 17, 18, 19, 20, 21, 22, 49, 50, 51, 52, 53, 54, 55, 56, 57, 58, 59, 60, 61, 62, 63, 64, 65, 66, 67, 68, 69, 70, 71, 72, 73, 74, 10, 75, 36, 37, 76, 77, 78, 79, 33, 141, 142, 143, 144, 145, 133, 134, 135, 136, 137, 138, 139, 140, 146, 147, 148, 149, 150, 151, 152, 153, 154] (by decide +kernel) (by decide +kernel)
set_option maxRecDepth 20000 in
theorem gX4_haunt_X4_planWay : GoodIn wsX4_haunt (wsV RX4 98 RX4 yX4_planWay wsX4_planWay) := goodIn_app (goodIn_of _ (by decide +kernel)) ggX4_haunt_X4_planWay
set_option maxRecDepth 20000 in
theorem ggX4_haunt_Jx4a65c_add_9ea2d : GoodIn wsX4_haunt wsJx4a65c_add_9ea2d := goodIn_r _ [83, 84, 85, 65, 22, 86, 87, 88, 20, 89, 90, 91, 92, 93, 94, 95, 96, 97, 98, 99, 100, 101, 102, 103, 104, 105, 106, 107, 108, 109, 110, 111, 112, 113, 114, 115, 116, 117, 118, 119, 120, 121, 122, 123, 124, 125, 126, 127, 128, 129, 130, 131, 132, 146, 147, 148] (by decide +kernel) (by decide +kernel)
set_option maxRecDepth 20000 in
theorem gX4_haunt_Jx4a65c_add_9ea2d : GoodIn wsX4_haunt (wsV RX4 54 RJx4a65c yJx4a65c_add_9ea2d wsJx4a65c_add_9ea2d) := goodIn_app (goodIn_of _ (by decide +kernel)) ggX4_haunt_Jx4a65c_add_9ea2d
theorem dX4_haunt_0 : decode cX4_haunt 0 = .ok (.aload_n 0, 1) := by decide +kernel
theorem dX4_haunt_1 : decode cX4_haunt 1 = .ok (.iload_n 1, 1) := by decide +kernel
theorem dX4_haunt_2 : decode cX4_haunt 2 = .ok (.invokevirtual 58, 3) := by decide +kernel
theorem dX4_haunt_5 : decode cX4_haunt 5 = .ok (.ifCond .ne 13, 3) := by decide +kernel
theorem dX4_haunt_8 : decode cX4_haunt 8 = .ok (.new 62, 3) := by decide +kernel
theorem dX4_haunt_11 : decode cX4_haunt 11 = .ok (.dup, 1) := by decide +kernel
theorem dX4_haunt_12 : decode cX4_haunt 12 = .ok (.ldc 64, 2) := by decide +kernel
theorem dX4_haunt_14 : decode cX4_haunt 14 = .ok (.invokespecial 66, 3) := by decide +kernel
theorem dX4_haunt_17 : decode cX4_haunt 17 = .ok (.athrow, 1) := by decide +kernel
theorem dX4_haunt_18 : decode cX4_haunt 18 = .ok (.iload_n 2, 1) := by decide +kernel
theorem dX4_haunt_19 : decode cX4_haunt 19 = .ok (.iconst 1, 1) := by decide +kernel
theorem dX4_haunt_20 : decode cX4_haunt 20 = .ok (.bipush 9, 2) := by decide +kernel
theorem dX4_haunt_22 : decode cX4_haunt 22 = .ok (.invokestatic 29, 3) := by decide +kernel
theorem dX4_haunt_25 : decode cX4_haunt 25 = .ok (.ifCond .eq 26, 3) := by decide +kernel
theorem dX4_haunt_28 : decode cX4_haunt 28 = .ok (.iload_n 3, 1) := by decide +kernel
theorem dX4_haunt_29 : decode cX4_haunt 29 = .ok (.iconst 0, 1) := by decide +kernel
theorem dX4_haunt_30 : decode cX4_haunt 30 = .ok (.bipush 11, 2) := by decide +kernel
theorem dX4_haunt_32 : decode cX4_haunt 32 = .ok (.invokestatic 29, 3) := by decide +kernel
theorem dX4_haunt_35 : decode cX4_haunt 35 = .ok (.ifCond .eq 16, 3) := by decide +kernel
theorem dX4_haunt_38 : decode cX4_haunt 38 = .ok (.iload 4, 2) := by decide +kernel
theorem dX4_haunt_40 : decode cX4_haunt 40 = .ok (.iload_n 3, 1) := by decide +kernel
theorem dX4_haunt_41 : decode cX4_haunt 41 = .ok (.iconst 1, 1) := by decide +kernel
theorem dX4_haunt_42 : decode cX4_haunt 42 = .ok (.iadd, 1) := by decide +kernel
theorem dX4_haunt_43 : decode cX4_haunt 43 = .ok (.bipush 12, 2) := by decide +kernel
theorem dX4_haunt_45 : decode cX4_haunt 45 = .ok (.invokestatic 29, 3) := by decide +kernel
theorem dX4_haunt_48 : decode cX4_haunt 48 = .ok (.ifCond .ne 13, 3) := by decide +kernel
theorem dX4_haunt_51 : decode cX4_haunt 51 = .ok (.new 33, 3) := by decide +kernel
theorem dX4_haunt_54 : decode cX4_haunt 54 = .ok (.dup, 1) := by decide +kernel
theorem dX4_haunt_55 : decode cX4_haunt 55 = .ok (.ldc 89, 2) := by decide +kernel
theorem dX4_haunt_57 : decode cX4_haunt 57 = .ok (.invokespecial 37, 3) := by decide +kernel
theorem dX4_haunt_60 : decode cX4_haunt 60 = .ok (.athrow, 1) := by decide +kernel
theorem dX4_haunt_61 : decode cX4_haunt 61 = .ok (.aload_n 0, 1) := by decide +kernel
theorem dX4_haunt_62 : decode cX4_haunt 62 = .ok (.getfield 16, 3) := by decide +kernel
theorem dX4_haunt_65 : decode cX4_haunt 65 = .ok (.invokevirtual 40, 3) := by decide +kernel
theorem dX4_haunt_68 : decode cX4_haunt 68 = .ok (.iconst 5, 1) := by decide +kernel
theorem dX4_haunt_69 : decode cX4_haunt 69 = .ok (.if_icmp .lt 13, 3) := by decide +kernel
theorem dX4_haunt_72 : decode cX4_haunt 72 = .ok (.new 44, 3) := by decide +kernel
theorem dX4_haunt_75 : decode cX4_haunt 75 = .ok (.dup, 1) := by decide +kernel
theorem dX4_haunt_76 : decode cX4_haunt 76 = .ok (.ldc 91, 2) := by decide +kernel
theorem dX4_haunt_78 : decode cX4_haunt 78 = .ok (.invokespecial 48, 3) := by decide +kernel
theorem dX4_haunt_81 : decode cX4_haunt 81 = .ok (.athrow, 1) := by decide +kernel
theorem dX4_haunt_82 : decode cX4_haunt 82 = .ok (.new 93, 3) := by decide +kernel
theorem dX4_haunt_85 : decode cX4_haunt 85 = .ok (.dup, 1) := by decide +kernel
theorem dX4_haunt_86 : decode cX4_haunt 86 = .ok (.iload_n 1, 1) := by decide +kernel
theorem dX4_haunt_87 : decode cX4_haunt 87 = .ok (.iload_n 2, 1) := by decide +kernel
theorem dX4_haunt_88 : decode cX4_haunt 88 = .ok (.iload_n 3, 1) := by decide +kernel
theorem dX4_haunt_89 : decode cX4_haunt 89 = .ok (.iload 4, 2) := by decide +kernel
theorem dX4_haunt_91 : decode cX4_haunt 91 = .ok (.invokespecial 95, 3) := by decide +kernel
theorem dX4_haunt_94 : decode cX4_haunt 94 = .ok (.astore 5, 2) := by decide +kernel
theorem dX4_haunt_96 : decode cX4_haunt 96 = .ok (.aload_n 0, 1) := by decide +kernel
theorem dX4_haunt_97 : decode cX4_haunt 97 = .ok (.aload 5, 2) := by decide +kernel
theorem dX4_haunt_99 : decode cX4_haunt 99 = .ok (.invokevirtual 98, 3) := by decide +kernel
theorem dX4_haunt_102 : decode cX4_haunt 102 = .ok (.aload_n 0, 1) := by decide +kernel
theorem dX4_haunt_103 : decode cX4_haunt 103 = .ok (.getfield 16, 3) := by decide +kernel
theorem dX4_haunt_106 : decode cX4_haunt 106 = .ok (.aload 5, 2) := by decide +kernel
theorem dX4_haunt_108 : decode cX4_haunt 108 = .ok (.invokevirtual 54, 3) := by decide +kernel
theorem dX4_haunt_111 : decode cX4_haunt 111 = .ok (.pop, 1) := by decide +kernel
theorem dX4_haunt_112 : decode cX4_haunt 112 = .ok (.aload_n 0, 1) := by decide +kernel
theorem dX4_haunt_113 : decode cX4_haunt 113 = .ok (.getfield 16, 3) := by decide +kernel
theorem dX4_haunt_116 : decode cX4_haunt 116 = .ok (.invokevirtual 40, 3) := by decide +kernel
theorem dX4_haunt_119 : decode cX4_haunt 119 = .ok (.iconst 1, 1) := by decide +kernel
theorem dX4_haunt_120 : decode cX4_haunt 120 = .ok (.isub, 1) := by decide +kernel
theorem dX4_haunt_121 : decode cX4_haunt 121 = .ok (.ireturn, 1) := by decide +kernel
set_option maxRecDepth 20000 in
theorem ggX4_at_X4_isGhost : GoodIn wsX4_at wsX4_isGhost := goodIn_r _ [9, 3, 10, 11, 12, 13, 14, 15, 42, 43, 44, 45, 46, 47, 48, 49, 50, 51, 52] (by decide +kernel) (by decide +kernel)
set_option maxRecDepth 20000 in
theorem gX4_at_X4_isGhost : GoodIn wsX4_at (wsV RX4 102 RX4 yX4_isGhost wsX4_isGhost) := goodIn_app (goodIn_of _ (by decide +kernel)) ggX4_at_X4_isGhost
set_option maxRecDepth 20000 in
theorem ggX4_at_X4_within : GoodIn wsX4_at wsX4_within := goodIn_r _ [18] (by decide +kernel) (by decide +kernel)
set_option maxRecDepth 20000 in
theorem gX4_at_X4_within : GoodIn wsX4_at (va_wsS RX4 29 yX4_within wsX4_within) := goodIn_app (goodIn_of _ (by decide +kernel)) ggX4_at_X4_within
set_option maxRecDepth 20000 in
theorem ggX4_at_Jx4a65c_get_915e3 : GoodIn wsX4_at wsJx4a65c_get_915e3 := goodIn_r _ [22, 15, 23, 24, 25, 26, 27, 28, 29, 30, 31, 32, 33, 13, 34, 35, 50, 51, 52] (by decide +kernel) (by decide +kernel)
set_option maxRecDepth 20000 in
theorem gX4_at_Jx4a65c_get_915e3 : GoodIn wsX4_at (wsV RX4 69 RJx4a65c yJx4a65c_get_915e3 wsJx4a65c_get_915e3) := goodIn_app (goodIn_of _ (by decide +kernel)) ggX4_at_Jx4a65c_get_915e3
set_option maxRecDepth 20000 in
theorem ggX4_at_X0_placeIn : GoodIn wsX4_at wsX0_placeIn := goodIn_r _ [40, 41, 53, 54, 55, 56, 57] (by decide +kernel) (by decide +kernel)
set_option maxRecDepth 20000 in
theorem gX4_at_X0_placeIn : GoodIn wsX4_at (wsV RX4 109 RX0 yX0_placeIn wsX0_placeIn) := goodIn_app (goodIn_of _ (by decide +kernel)) ggX4_at_X0_placeIn
theorem dX4_at_0 : decode cX4_at 0 = .ok (.aload_n 0, 1) := by decide +kernel
theorem dX4_at_1 : decode cX4_at 1 = .ok (.iload_n 1, 1) := by decide +kernel
theorem dX4_at_2 : decode cX4_at 2 = .ok (.invokevirtual 102, 3) := by decide +kernel
theorem dX4_at_5 : decode cX4_at 5 = .ok (.ifCond .ne 13, 3) := by decide +kernel
theorem dX4_at_8 : decode cX4_at 8 = .ok (.new 62, 3) := by decide +kernel
theorem dX4_at_11 : decode cX4_at 11 = .ok (.dup, 1) := by decide +kernel
theorem dX4_at_12 : decode cX4_at 12 = .ok (.ldc 105, 2) := by decide +kernel
theorem dX4_at_14 : decode cX4_at 14 = .ok (.invokespecial 66, 3) := by decide +kernel
theorem dX4_at_17 : decode cX4_at 17 = .ok (.athrow, 1) := by decide +kernel
theorem dX4_at_18 : decode cX4_at 18 = .ok (.iload_n 2, 1) := by decide +kernel
theorem dX4_at_19 : decode cX4_at 19 = .ok (.iconst 0, 1) := by decide +kernel
theorem dX4_at_20 : decode cX4_at 20 = .ok (.bipush 11, 2) := by decide +kernel
theorem dX4_at_22 : decode cX4_at 22 = .ok (.invokestatic 29, 3) := by decide +kernel
theorem dX4_at_25 : decode cX4_at 25 = .ok (.ifCond .ne 13, 3) := by decide +kernel
theorem dX4_at_28 : decode cX4_at 28 = .ok (.new 62, 3) := by decide +kernel
theorem dX4_at_31 : decode cX4_at 31 = .ok (.dup, 1) := by decide +kernel
theorem dX4_at_32 : decode cX4_at 32 = .ok (.ldc 107, 2) := by decide +kernel
theorem dX4_at_34 : decode cX4_at 34 = .ok (.invokespecial 66, 3) := by decide +kernel
theorem dX4_at_37 : decode cX4_at 37 = .ok (.athrow, 1) := by decide +kernel
theorem dX4_at_38 : decode cX4_at 38 = .ok (.aload_n 0, 1) := by decide +kernel
theorem dX4_at_39 : decode cX4_at 39 = .ok (.getfield 16, 3) := by decide +kernel
theorem dX4_at_42 : decode cX4_at 42 = .ok (.iload_n 1, 1) := by decide +kernel
theorem dX4_at_43 : decode cX4_at 43 = .ok (.invokevirtual 69, 3) := by decide +kernel
theorem dX4_at_46 : decode cX4_at 46 = .ok (.checkcast 93, 3) := by decide +kernel
theorem dX4_at_49 : decode cX4_at 49 = .ok (.iload_n 2, 1) := by decide +kernel
theorem dX4_at_50 : decode cX4_at 50 = .ok (.invokevirtual 109, 3) := by decide +kernel
theorem dX4_at_53 : decode cX4_at 53 = .ok (.ireturn, 1) := by decide +kernel
set_option maxRecDepth 20000 in
theorem ggX4_haunting_X4_isRoom : GoodIn wsX4_haunting wsX4_isRoom := goodIn_r _ [7, 8, 9, 10, 11, 12, 13, 14, 52, 53, 54, 55, 56, 57, 58, 59, 60, 61, 62] (by decide +kernel) (by decide +kernel)
set_option maxRecDepth 20000 in
theorem gX4_haunting_X4_isRoom : GoodIn wsX4_haunting (wsV RX4 58 RX4 yX4_isRoom wsX4_isRoom) := goodIn_app (goodIn_of _ (by decide +kernel)) ggX4_haunting_X4_isRoom
set_option maxRecDepth 20000 in
theorem ggX4_haunting_X4_within : GoodIn wsX4_haunting wsX4_within := goodIn_r _ [17] (by decide +kernel) (by decide +kernel)
set_option maxRecDepth 20000 in
theorem gX4_haunting_X4_within : GoodIn wsX4_haunting (va_wsS RX4 29 yX4_within wsX4_within) := goodIn_app (goodIn_of _ (by decide +kernel)) ggX4_haunting_X4_within
set_option maxRecDepth 20000 in
theorem ggX4_haunting_X4_hauntingOfNight : GoodIn wsX4_haunting wsX4_hauntingOfNight := goodIn_r _ [21, 22, 23, 24, 6, 25, 26, 27, 28, 9, 10, 11, 12, 13, 14, 29, 30, 31, 32, 33, 34, 35, 36, 37, 38, 39, 40, 41, 42, 43, 44, 45, 46, 47, 48, 49, 50, 51, 52, 53, 54, 55, 56, 57, 58, 59, 63, 64, 65, 66, 67, 60, 61, 62] (by decide +kernel) (by decide +kernel)
set_option maxRecDepth 20000 in
theorem gX4_haunting_X4_hauntingOfNight : GoodIn wsX4_haunting (wsV RX4 113 RX4 yX4_hauntingOfNight wsX4_hauntingOfNight) := goodIn_app (goodIn_of _ (by decide +kernel)) ggX4_haunting_X4_hauntingOfNight
set_option maxRecDepth 20000 in
theorem ggX4_haunting_X4_hauntingInHour : GoodIn wsX4_haunting wsX4_hauntingInHour := goodIn_r _ [25, 26, 27, 28, 9, 10, 11, 12, 13, 14, 29, 30, 31, 32, 33, 34, 35, 36, 37, 38, 39, 40, 41, 42, 43, 44, 45, 46, 47, 48, 49, 50, 51, 52, 53, 54, 55, 56, 57, 58, 59, 63, 64, 65, 66, 67, 60, 61, 62] (by decide +kernel) (by decide +kernel)
set_option maxRecDepth 20000 in
theorem gX4_haunting_X4_hauntingInHour : GoodIn wsX4_haunting (wsV RX4 117 RX4 yX4_hauntingInHour wsX4_hauntingInHour) := goodIn_app (goodIn_of _ (by decide +kernel)) ggX4_haunting_X4_hauntingInHour
theorem dX4_haunting_0 : decode cX4_haunting 0 = .ok (.aload_n 0, 1) := by decide +kernel
theorem dX4_haunting_1 : decode cX4_haunting 1 = .ok (.iload_n 1, 1) := by decide +kernel
theorem dX4_haunting_2 : decode cX4_haunting 2 = .ok (.invokevirtual 58, 3) := by decide +kernel
theorem dX4_haunting_5 : decode cX4_haunting 5 = .ok (.ifCond .ne 13, 3) := by decide +kernel
theorem dX4_haunting_8 : decode cX4_haunting 8 = .ok (.new 62, 3) := by decide +kernel
theorem dX4_haunting_11 : decode cX4_haunting 11 = .ok (.dup, 1) := by decide +kernel
theorem dX4_haunting_12 : decode cX4_haunting 12 = .ok (.ldc 64, 2) := by decide +kernel
theorem dX4_haunting_14 : decode cX4_haunting 14 = .ok (.invokespecial 66, 3) := by decide +kernel
theorem dX4_haunting_17 : decode cX4_haunting 17 = .ok (.athrow, 1) := by decide +kernel
theorem dX4_haunting_18 : decode cX4_haunting 18 = .ok (.iload_n 2, 1) := by decide +kernel
theorem dX4_haunting_19 : decode cX4_haunting 19 = .ok (.iconst (-1), 1) := by decide +kernel
theorem dX4_haunting_20 : decode cX4_haunting 20 = .ok (.bipush 11, 2) := by decide +kernel
theorem dX4_haunting_22 : decode cX4_haunting 22 = .ok (.invokestatic 29, 3) := by decide +kernel
theorem dX4_haunting_25 : decode cX4_haunting 25 = .ok (.ifCond .ne 13, 3) := by decide +kernel
theorem dX4_haunting_28 : decode cX4_haunting 28 = .ok (.new 62, 3) := by decide +kernel
theorem dX4_haunting_31 : decode cX4_haunting 31 = .ok (.dup, 1) := by decide +kernel
theorem dX4_haunting_32 : decode cX4_haunting 32 = .ok (.ldc 107, 2) := by decide +kernel
theorem dX4_haunting_34 : decode cX4_haunting 34 = .ok (.invokespecial 66, 3) := by decide +kernel
theorem dX4_haunting_37 : decode cX4_haunting 37 = .ok (.athrow, 1) := by decide +kernel
theorem dX4_haunting_38 : decode cX4_haunting 38 = .ok (.iload_n 2, 1) := by decide +kernel
theorem dX4_haunting_39 : decode cX4_haunting 39 = .ok (.iconst (-1), 1) := by decide +kernel
theorem dX4_haunting_40 : decode cX4_haunting 40 = .ok (.if_icmp .ne 12, 3) := by decide +kernel
theorem dX4_haunting_43 : decode cX4_haunting 43 = .ok (.aload_n 0, 1) := by decide +kernel
theorem dX4_haunting_44 : decode cX4_haunting 44 = .ok (.iload_n 1, 1) := by decide +kernel
theorem dX4_haunting_45 : decode cX4_haunting 45 = .ok (.iconst (-1), 1) := by decide +kernel
theorem dX4_haunting_46 : decode cX4_haunting 46 = .ok (.invokevirtual 113, 3) := by decide +kernel
theorem dX4_haunting_49 : decode cX4_haunting 49 = .ok (.goto 10, 3) := by decide +kernel
theorem dX4_haunting_52 : decode cX4_haunting 52 = .ok (.aload_n 0, 1) := by decide +kernel
theorem dX4_haunting_53 : decode cX4_haunting 53 = .ok (.iload_n 1, 1) := by decide +kernel
theorem dX4_haunting_54 : decode cX4_haunting 54 = .ok (.iload_n 2, 1) := by decide +kernel
theorem dX4_haunting_55 : decode cX4_haunting 55 = .ok (.iconst (-1), 1) := by decide +kernel
theorem dX4_haunting_56 : decode cX4_haunting 56 = .ok (.invokevirtual 117, 3) := by decide +kernel
theorem dX4_haunting_59 : decode cX4_haunting 59 = .ok (.ireturn, 1) := by decide +kernel
set_option maxRecDepth 20000 in
theorem ggX4_room_X4_isRoom : GoodIn wsX4_room wsX4_isRoom := goodIn_r _ [14, 3, 15, 16, 17, 18, 19, 20, 51, 52, 53, 54, 55, 56, 57, 58, 65, 66, 67] (by decide +kernel) (by decide +kernel)
set_option maxRecDepth 20000 in
theorem gX4_room_X4_isRoom : GoodIn wsX4_room (wsV RX4 58 RX4 yX4_isRoom wsX4_isRoom) := goodIn_app (goodIn_of _ (by decide +kernel)) ggX4_room_X4_isRoom
set_option maxRecDepth 20000 in
theorem ggX4_room_Jx4a65c_get_915e3 : GoodIn wsX4_room wsJx4a65c_get_915e3 := goodIn_r _ [24, 20, 25, 26, 27, 28, 29, 30, 31, 32, 33, 34, 35, 18, 36, 37, 65, 66, 67] (by decide +kernel) (by decide +kernel)
set_option maxRecDepth 20000 in
theorem gX4_room_Jx4a65c_get_915e3 : GoodIn wsX4_room (wsV RX4 69 RJx4a65c yJx4a65c_get_915e3 wsJx4a65c_get_915e3) := goodIn_app (goodIn_of _ (by decide +kernel)) ggX4_room_Jx4a65c_get_915e3
set_option maxRecDepth 20000 in
theorem ggX4_room_X2_doorsThere : GoodIn wsX4_room wsX2_doorsThere := goodIn_r _ [42, 43, 44, 45, 46, 47, 48, 49, 50, 59, 60, 61, 62, 63, 64] (by decide +kernel) (by decide +kernel)
set_option maxRecDepth 20000 in
theorem gX4_room_X2_doorsThere : GoodIn wsX4_room (wsV RX4 130 RX2 yX2_doorsThere wsX2_doorsThere) := goodIn_app (goodIn_of _ (by decide +kernel)) ggX4_room_X2_doorsThere
theorem dX4_room_0 : decode cX4_room 0 = .ok (.aload_n 0, 1) := by decide +kernel
theorem dX4_room_1 : decode cX4_room 1 = .ok (.iload_n 1, 1) := by decide +kernel
theorem dX4_room_2 : decode cX4_room 2 = .ok (.invokevirtual 58, 3) := by decide +kernel
theorem dX4_room_5 : decode cX4_room 5 = .ok (.ifCond .ne 13, 3) := by decide +kernel
theorem dX4_room_8 : decode cX4_room 8 = .ok (.new 62, 3) := by decide +kernel
theorem dX4_room_11 : decode cX4_room 11 = .ok (.dup, 1) := by decide +kernel
theorem dX4_room_12 : decode cX4_room 12 = .ok (.ldc 64, 2) := by decide +kernel
theorem dX4_room_14 : decode cX4_room 14 = .ok (.invokespecial 66, 3) := by decide +kernel
theorem dX4_room_17 : decode cX4_room 17 = .ok (.athrow, 1) := by decide +kernel
theorem dX4_room_18 : decode cX4_room 18 = .ok (.aload_n 0, 1) := by decide +kernel
theorem dX4_room_19 : decode cX4_room 19 = .ok (.getfield 10, 3) := by decide +kernel
theorem dX4_room_22 : decode cX4_room 22 = .ok (.iload_n 1, 1) := by decide +kernel
theorem dX4_room_23 : decode cX4_room 23 = .ok (.invokevirtual 69, 3) := by decide +kernel
theorem dX4_room_26 : decode cX4_room 26 = .ok (.checkcast 49, 3) := by decide +kernel
theorem dX4_room_29 : decode cX4_room 29 = .ok (.astore_n 3, 1) := by decide +kernel
theorem dX4_room_30 : decode cX4_room 30 = .ok (.iload_n 2, 1) := by decide +kernel
theorem dX4_room_31 : decode cX4_room 31 = .ok (.tableswitch 67 0 5 #[37, 42, 47, 52, 57, 62], 37) := by decide +kernel
theorem dX4_room_68 : decode cX4_room 68 = .ok (.aload_n 3, 1) := by decide +kernel
theorem dX4_room_69 : decode cX4_room 69 = .ok (.getfield 121, 3) := by decide +kernel
theorem dX4_room_72 : decode cX4_room 72 = .ok (.ireturn, 1) := by decide +kernel
theorem dX4_room_73 : decode cX4_room 73 = .ok (.aload_n 3, 1) := by decide +kernel
theorem dX4_room_74 : decode cX4_room 74 = .ok (.getfield 124, 3) := by decide +kernel
theorem dX4_room_77 : decode cX4_room 77 = .ok (.ireturn, 1) := by decide +kernel
theorem dX4_room_78 : decode cX4_room 78 = .ok (.aload_n 3, 1) := by decide +kernel
theorem dX4_room_79 : decode cX4_room 79 = .ok (.getfield 127, 3) := by decide +kernel
theorem dX4_room_82 : decode cX4_room 82 = .ok (.ireturn, 1) := by decide +kernel
theorem dX4_room_83 : decode cX4_room 83 = .ok (.aload_n 3, 1) := by decide +kernel
theorem dX4_room_84 : decode cX4_room 84 = .ok (.invokevirtual 130, 3) := by decide +kernel
theorem dX4_room_87 : decode cX4_room 87 = .ok (.ireturn, 1) := by decide +kernel
theorem dX4_room_88 : decode cX4_room 88 = .ok (.aload_n 3, 1) := by decide +kernel
theorem dX4_room_89 : decode cX4_room 89 = .ok (.getfield 133, 3) := by decide +kernel
theorem dX4_room_92 : decode cX4_room 92 = .ok (.ireturn, 1) := by decide +kernel
theorem dX4_room_93 : decode cX4_room 93 = .ok (.aload_n 3, 1) := by decide +kernel
theorem dX4_room_94 : decode cX4_room 94 = .ok (.getfield 136, 3) := by decide +kernel
theorem dX4_room_97 : decode cX4_room 97 = .ok (.ireturn, 1) := by decide +kernel
theorem dX4_room_98 : decode cX4_room 98 = .ok (.new 62, 3) := by decide +kernel
theorem dX4_room_101 : decode cX4_room 101 = .ok (.dup, 1) := by decide +kernel
theorem dX4_room_102 : decode cX4_room 102 = .ok (.ldc 139, 2) := by decide +kernel
theorem dX4_room_104 : decode cX4_room 104 = .ok (.invokespecial 66, 3) := by decide +kernel
theorem dX4_room_107 : decode cX4_room 107 = .ok (.athrow, 1) := by decide +kernel
set_option maxRecDepth 20000 in
theorem ggX4_come_X4_within : GoodIn wsX4_come wsX4_within := goodIn_r _ [12] (by decide +kernel) (by decide +kernel)
set_option maxRecDepth 20000 in
theorem gX4_come_X4_within : GoodIn wsX4_come (va_wsS RX4 29 yX4_within wsX4_within) := goodIn_app (goodIn_of _ (by decide +kernel)) ggX4_come_X4_within
set_option maxRecDepth 20000 in
theorem ggX4_come_Jx4a65c_size_8abf5 : GoodIn wsX4_come wsJx4a65c_size_8abf5 := goodIn_r _ [17, 18, 98, 99, 100] (by decide +kernel) (by decide +kernel)
set_option maxRecDepth 20000 in
theorem gX4_come_Jx4a65c_size_8abf5 : GoodIn wsX4_come (wsV RX4 40 RJx4a65c yJx4a65c_size_8abf5 wsJx4a65c_size_8abf5) := goodIn_app (goodIn_of _ (by decide +kernel)) ggX4_come_Jx4a65c_size_8abf5
set_option maxRecDepth 20000 in
theorem ggX4_come_X1_init : GoodIn wsX4_come wsX1_init := goodIn_r _ [21, 22, 23, 24, 25, 26, 27, 28, 91, 92, 93, 94, 95, 96, 97] (by decide +kernel) (by decide +kernel)
set_option maxRecDepth 20000 in
theorem gX4_come_X1_init : GoodIn wsX4_come (wsX1_init) := ggX4_come_X1_init
set_option maxRecDepth 20000 in
theorem ggX4_come_Jx4a65c_add_9ea2d : GoodIn wsX4_come wsJx4a65c_add_9ea2d := goodIn_r _ [32, 33, 34, 35, 18, 36, 37, 38, 16, 39, 40, 41, 42, 43, 44, 45, 46, 47, 48, 49, 50, 51, 52, 53, 54, 55, 56, 57, 58, 59, 60, 61, 62, 63, 64, 65, 66, 67, 68, 69, 70, 71, 72, 73, 74, 75, 76, 77, 78, 79, 80, 81, 82, 98, 99, 100] (by decide +kernel) (by decide +kernel)
set_option maxRecDepth 20000 in
theorem gX4_come_Jx4a65c_add_9ea2d : GoodIn wsX4_come (wsV RX4 54 RJx4a65c yJx4a65c_add_9ea2d wsJx4a65c_add_9ea2d) := goodIn_app (goodIn_of _ (by decide +kernel)) ggX4_come_Jx4a65c_add_9ea2d
theorem dX4_come_0 : decode cX4_come 0 = .ok (.iload_n 1, 1) := by decide +kernel
theorem dX4_come_1 : decode cX4_come 1 = .ok (.iconst 0, 1) := by decide +kernel
theorem dX4_come_2 : decode cX4_come 2 = .ok (.sipush 1000, 3) := by decide +kernel
theorem dX4_come_5 : decode cX4_come 5 = .ok (.invokestatic 29, 3) := by decide +kernel
theorem dX4_come_8 : decode cX4_come 8 = .ok (.ifCond .eq 24, 3) := by decide +kernel
theorem dX4_come_11 : decode cX4_come 11 = .ok (.iload_n 2, 1) := by decide +kernel
theorem dX4_come_12 : decode cX4_come 12 = .ok (.iconst 1, 1) := by decide +kernel
theorem dX4_come_13 : decode cX4_come 13 = .ok (.bipush 6, 2) := by decide +kernel
theorem dX4_come_15 : decode cX4_come 15 = .ok (.invokestatic 29, 3) := by decide +kernel
theorem dX4_come_18 : decode cX4_come 18 = .ok (.ifCond .eq 14, 3) := by decide +kernel
theorem dX4_come_21 : decode cX4_come 21 = .ok (.iload_n 3, 1) := by decide +kernel
theorem dX4_come_22 : decode cX4_come 22 = .ok (.bipush (-9), 2) := by decide +kernel
theorem dX4_come_24 : decode cX4_come 24 = .ok (.bipush 90, 2) := by decide +kernel
theorem dX4_come_26 : decode cX4_come 26 = .ok (.invokestatic 29, 3) := by decide +kernel
theorem dX4_come_29 : decode cX4_come 29 = .ok (.ifCond .ne 13, 3) := by decide +kernel
theorem dX4_come_32 : decode cX4_come 32 = .ok (.new 33, 3) := by decide +kernel
theorem dX4_come_35 : decode cX4_come 35 = .ok (.dup, 1) := by decide +kernel
theorem dX4_come_36 : decode cX4_come 36 = .ok (.ldc 141, 2) := by decide +kernel
theorem dX4_come_38 : decode cX4_come 38 = .ok (.invokespecial 37, 3) := by decide +kernel
theorem dX4_come_41 : decode cX4_come 41 = .ok (.athrow, 1) := by decide +kernel
theorem dX4_come_42 : decode cX4_come 42 = .ok (.aload_n 0, 1) := by decide +kernel
theorem dX4_come_43 : decode cX4_come 43 = .ok (.getfield 19, 3) := by decide +kernel
theorem dX4_come_46 : decode cX4_come 46 = .ok (.invokevirtual 40, 3) := by decide +kernel
theorem dX4_come_49 : decode cX4_come 49 = .ok (.bipush 12, 2) := by decide +kernel
theorem dX4_come_51 : decode cX4_come 51 = .ok (.if_icmp .lt 13, 3) := by decide +kernel
theorem dX4_come_54 : decode cX4_come 54 = .ok (.new 44, 3) := by decide +kernel
theorem dX4_come_57 : decode cX4_come 57 = .ok (.dup, 1) := by decide +kernel
theorem dX4_come_58 : decode cX4_come 58 = .ok (.ldc 143, 2) := by decide +kernel
theorem dX4_come_60 : decode cX4_come 60 = .ok (.invokespecial 48, 3) := by decide +kernel
theorem dX4_come_63 : decode cX4_come 63 = .ok (.athrow, 1) := by decide +kernel
theorem dX4_come_64 : decode cX4_come 64 = .ok (.aload_n 0, 1) := by decide +kernel
theorem dX4_come_65 : decode cX4_come 65 = .ok (.getfield 19, 3) := by decide +kernel
theorem dX4_come_68 : decode cX4_come 68 = .ok (.new 145, 3) := by decide +kernel
theorem dX4_come_71 : decode cX4_come 71 = .ok (.dup, 1) := by decide +kernel
theorem dX4_come_72 : decode cX4_come 72 = .ok (.iload_n 1, 1) := by decide +kernel
theorem dX4_come_73 : decode cX4_come 73 = .ok (.iload_n 2, 1) := by decide +kernel
theorem dX4_come_74 : decode cX4_come 74 = .ok (.iload_n 3, 1) := by decide +kernel
theorem dX4_come_75 : decode cX4_come 75 = .ok (.invokespecial 147, 3) := by decide +kernel
theorem dX4_come_78 : decode cX4_come 78 = .ok (.invokevirtual 54, 3) := by decide +kernel
theorem dX4_come_81 : decode cX4_come 81 = .ok (.pop, 1) := by decide +kernel
theorem dX4_come_82 : decode cX4_come 82 = .ok (.aload_n 0, 1) := by decide +kernel
theorem dX4_come_83 : decode cX4_come 83 = .ok (.getfield 19, 3) := by decide +kernel
theorem dX4_come_86 : decode cX4_come 86 = .ok (.invokevirtual 40, 3) := by decide +kernel
theorem dX4_come_89 : decode cX4_come 89 = .ok (.iconst 1, 1) := by decide +kernel
theorem dX4_come_90 : decode cX4_come 90 = .ok (.isub, 1) := by decide +kernel
theorem dX4_come_91 : decode cX4_come 91 = .ok (.ireturn, 1) := by decide +kernel
set_option maxRecDepth 20000 in
theorem ggX4_bid_X4_isGuest : GoodIn wsX4_bid wsX4_isGuest := goodIn_r _ [13, 5, 14, 15, 16, 17, 18, 19, 59, 60, 61, 62, 63, 64, 65, 66, 67, 68, 69] (by decide +kernel) (by decide +kernel)
set_option maxRecDepth 20000 in
theorem gX4_bid_X4_isGuest : GoodIn wsX4_bid (wsV RX4 148 RX4 yX4_isGuest wsX4_isGuest) := goodIn_app (goodIn_of _ (by decide +kernel)) ggX4_bid_X4_isGuest
set_option maxRecDepth 20000 in
theorem ggX4_bid_X4_isRoom : GoodIn wsX4_bid wsX4_isRoom := goodIn_r _ [23, 7, 14, 15, 16, 17, 18, 19, 59, 60, 61, 62, 63, 64, 65, 66, 67, 68, 69] (by decide +kernel) (by decide +kernel)
set_option maxRecDepth 20000 in
theorem gX4_bid_X4_isRoom : GoodIn wsX4_bid (wsV RX4 58 RX4 yX4_isRoom wsX4_isRoom) := goodIn_app (goodIn_of _ (by decide +kernel)) ggX4_bid_X4_isRoom
set_option maxRecDepth 20000 in
theorem ggX4_bid_X4_within : GoodIn wsX4_bid wsX4_within := goodIn_r _ [26] (by decide +kernel) (by decide +kernel)
set_option maxRecDepth 20000 in
theorem gX4_bid_X4_within : GoodIn wsX4_bid (va_wsS RX4 29 yX4_within wsX4_within) := goodIn_app (goodIn_of _ (by decide +kernel)) ggX4_bid_X4_within
set_option maxRecDepth 20000 in
theorem ggX4_bid_Jx4a65c_get_915e3 : GoodIn wsX4_bid wsJx4a65c_get_915e3 := goodIn_r _ [30, 19, 31, 32, 33, 34, 35, 36, 37, 38, 39, 40, 41, 17, 42, 43, 67, 68, 69] (by decide +kernel) (by decide +kernel)
set_option maxRecDepth 20000 in
theorem gX4_bid_Jx4a65c_get_915e3 : GoodIn wsX4_bid (wsV RX4 69 RJx4a65c yJx4a65c_get_915e3 wsJx4a65c_get_915e3) := goodIn_app (goodIn_of _ (by decide +kernel)) ggX4_bid_Jx4a65c_get_915e3
set_option maxRecDepth 20000 in
theorem ggX4_bid_X1_writeBid : GoodIn wsX4_bid wsX1_writeBid := goodIn_r _ [48, 49, 50, 70, 71, 72, 73, 74, 75, 76] (by decide +kernel) (by decide +kernel)
set_option maxRecDepth 20000 in
theorem gX4_bid_X1_writeBid : GoodIn wsX4_bid (wsV RX4 155 RX1 yX1_writeBid wsX1_writeBid) := goodIn_app (goodIn_of _ (by decide +kernel)) ggX4_bid_X1_writeBid
set_option maxRecDepth 20000 in
theorem ggX4_bid_X1_couldBidFor : GoodIn wsX4_bid wsX1_couldBidFor := goodIn_r _ [54, 55, 50, 56, 57, 58, 70, 71, 72, 73, 74, 75, 76, 77, 78, 79, 80, 81, 82] (by decide +kernel) (by decide +kernel)
set_option maxRecDepth 20000 in
theorem gX4_bid_X1_couldBidFor : GoodIn wsX4_bid (wsV RX4 159 RX1 yX1_couldBidFor wsX1_couldBidFor) := goodIn_app (goodIn_of _ (by decide +kernel)) ggX4_bid_X1_couldBidFor
theorem dX4_bid_0 : decode cX4_bid 0 = .ok (.aload_n 0, 1) := by decide +kernel
theorem dX4_bid_1 : decode cX4_bid 1 = .ok (.iload_n 1, 1) := by decide +kernel
theorem dX4_bid_2 : decode cX4_bid 2 = .ok (.invokevirtual 148, 3) := by decide +kernel
theorem dX4_bid_5 : decode cX4_bid 5 = .ok (.ifCond .ne 13, 3) := by decide +kernel
theorem dX4_bid_8 : decode cX4_bid 8 = .ok (.new 62, 3) := by decide +kernel
theorem dX4_bid_11 : decode cX4_bid 11 = .ok (.dup, 1) := by decide +kernel
theorem dX4_bid_12 : decode cX4_bid 12 = .ok (.ldc 151, 2) := by decide +kernel
theorem dX4_bid_14 : decode cX4_bid 14 = .ok (.invokespecial 66, 3) := by decide +kernel
theorem dX4_bid_17 : decode cX4_bid 17 = .ok (.athrow, 1) := by decide +kernel
theorem dX4_bid_18 : decode cX4_bid 18 = .ok (.aload_n 0, 1) := by decide +kernel
theorem dX4_bid_19 : decode cX4_bid 19 = .ok (.iload_n 2, 1) := by decide +kernel
theorem dX4_bid_20 : decode cX4_bid 20 = .ok (.invokevirtual 58, 3) := by decide +kernel
theorem dX4_bid_23 : decode cX4_bid 23 = .ok (.ifCond .ne 13, 3) := by decide +kernel
theorem dX4_bid_26 : decode cX4_bid 26 = .ok (.new 62, 3) := by decide +kernel
theorem dX4_bid_29 : decode cX4_bid 29 = .ok (.dup, 1) := by decide +kernel
theorem dX4_bid_30 : decode cX4_bid 30 = .ok (.ldc 64, 2) := by decide +kernel
theorem dX4_bid_32 : decode cX4_bid 32 = .ok (.invokespecial 66, 3) := by decide +kernel
theorem dX4_bid_35 : decode cX4_bid 35 = .ok (.athrow, 1) := by decide +kernel
theorem dX4_bid_36 : decode cX4_bid 36 = .ok (.iload_n 3, 1) := by decide +kernel
theorem dX4_bid_37 : decode cX4_bid 37 = .ok (.iconst 1, 1) := by decide +kernel
theorem dX4_bid_38 : decode cX4_bid 38 = .ok (.sipush 200, 3) := by decide +kernel
theorem dX4_bid_41 : decode cX4_bid 41 = .ok (.invokestatic 29, 3) := by decide +kernel
theorem dX4_bid_44 : decode cX4_bid 44 = .ok (.ifCond .ne 13, 3) := by decide +kernel
theorem dX4_bid_47 : decode cX4_bid 47 = .ok (.new 33, 3) := by decide +kernel
theorem dX4_bid_50 : decode cX4_bid 50 = .ok (.dup, 1) := by decide +kernel
theorem dX4_bid_51 : decode cX4_bid 51 = .ok (.ldc 153, 2) := by decide +kernel
theorem dX4_bid_53 : decode cX4_bid 53 = .ok (.invokespecial 37, 3) := by decide +kernel
theorem dX4_bid_56 : decode cX4_bid 56 = .ok (.athrow, 1) := by decide +kernel
theorem dX4_bid_57 : decode cX4_bid 57 = .ok (.aload_n 0, 1) := by decide +kernel
theorem dX4_bid_58 : decode cX4_bid 58 = .ok (.getfield 19, 3) := by decide +kernel
theorem dX4_bid_61 : decode cX4_bid 61 = .ok (.iload_n 1, 1) := by decide +kernel
theorem dX4_bid_62 : decode cX4_bid 62 = .ok (.invokevirtual 69, 3) := by decide +kernel
theorem dX4_bid_65 : decode cX4_bid 65 = .ok (.checkcast 145, 3) := by decide +kernel
theorem dX4_bid_68 : decode cX4_bid 68 = .ok (.astore 4, 2) := by decide +kernel
theorem dX4_bid_70 : decode cX4_bid 70 = .ok (.aload 4, 2) := by decide +kernel
theorem dX4_bid_72 : decode cX4_bid 72 = .ok (.iload_n 2, 1) := by decide +kernel
theorem dX4_bid_73 : decode cX4_bid 73 = .ok (.iload_n 3, 1) := by decide +kernel
theorem dX4_bid_74 : decode cX4_bid 74 = .ok (.invokevirtual 155, 3) := by decide +kernel
theorem dX4_bid_77 : decode cX4_bid 77 = .ok (.aload 4, 2) := by decide +kernel
theorem dX4_bid_79 : decode cX4_bid 79 = .ok (.aload_n 0, 1) := by decide +kernel
theorem dX4_bid_80 : decode cX4_bid 80 = .ok (.getfield 10, 3) := by decide +kernel
theorem dX4_bid_83 : decode cX4_bid 83 = .ok (.iload_n 2, 1) := by decide +kernel
theorem dX4_bid_84 : decode cX4_bid 84 = .ok (.invokevirtual 69, 3) := by decide +kernel
theorem dX4_bid_87 : decode cX4_bid 87 = .ok (.checkcast 49, 3) := by decide +kernel
theorem dX4_bid_90 : decode cX4_bid 90 = .ok (.invokevirtual 159, 3) := by decide +kernel
theorem dX4_bid_93 : decode cX4_bid 93 = .ok (.ireturn, 1) := by decide +kernel
set_option maxRecDepth 20000 in
theorem ggX4_leave_X4_isGuest : GoodIn wsX4_leave wsX4_isGuest := goodIn_r _ [10, 3, 11, 12, 13, 14, 15, 16, 41, 42, 43, 44, 45, 46, 47, 48, 56, 57, 58] (by decide +kernel) (by decide +kernel)
set_option maxRecDepth 20000 in
theorem gX4_leave_X4_isGuest : GoodIn wsX4_leave (wsV RX4 148 RX4 yX4_isGuest wsX4_isGuest) := goodIn_app (goodIn_of _ (by decide +kernel)) ggX4_leave_X4_isGuest
set_option maxRecDepth 20000 in
theorem ggX4_leave_Jx4a65c_get_915e3 : GoodIn wsX4_leave wsJx4a65c_get_915e3 := goodIn_r _ [20, 16, 21, 22, 23, 24, 25, 26, 27, 28, 29, 30, 31, 14, 32, 33, 56, 57, 58] (by decide +kernel) (by decide +kernel)
set_option maxRecDepth 20000 in
theorem gX4_leave_Jx4a65c_get_915e3 : GoodIn wsX4_leave (wsV RX4 69 RJx4a65c yJx4a65c_get_915e3 wsJx4a65c_get_915e3) := goodIn_app (goodIn_of _ (by decide +kernel)) ggX4_leave_Jx4a65c_get_915e3
set_option maxRecDepth 20000 in
theorem ggX4_leave_X1_dropBid : GoodIn wsX4_leave wsX1_dropBid := goodIn_r _ [38, 39, 40, 49, 50, 51, 52, 53, 54, 55] (by decide +kernel) (by decide +kernel)
set_option maxRecDepth 20000 in
theorem gX4_leave_X1_dropBid : GoodIn wsX4_leave (wsV RX4 166 RX1 yX1_dropBid wsX1_dropBid) := goodIn_app (goodIn_of _ (by decide +kernel)) ggX4_leave_X1_dropBid
theorem dX4_leave_0 : decode cX4_leave 0 = .ok (.aload_n 0, 1) := by decide +kernel
theorem dX4_leave_1 : decode cX4_leave 1 = .ok (.iload_n 1, 1) := by decide +kernel
theorem dX4_leave_2 : decode cX4_leave 2 = .ok (.invokevirtual 148, 3) := by decide +kernel
theorem dX4_leave_5 : decode cX4_leave 5 = .ok (.ifCond .ne 13, 3) := by decide +kernel
theorem dX4_leave_8 : decode cX4_leave 8 = .ok (.new 62, 3) := by decide +kernel
theorem dX4_leave_11 : decode cX4_leave 11 = .ok (.dup, 1) := by decide +kernel
theorem dX4_leave_12 : decode cX4_leave 12 = .ok (.ldc 151, 2) := by decide +kernel
theorem dX4_leave_14 : decode cX4_leave 14 = .ok (.invokespecial 66, 3) := by decide +kernel
theorem dX4_leave_17 : decode cX4_leave 17 = .ok (.athrow, 1) := by decide +kernel
theorem dX4_leave_18 : decode cX4_leave 18 = .ok (.aload_n 0, 1) := by decide +kernel
theorem dX4_leave_19 : decode cX4_leave 19 = .ok (.getfield 19, 3) := by decide +kernel
theorem dX4_leave_22 : decode cX4_leave 22 = .ok (.iload_n 1, 1) := by decide +kernel
theorem dX4_leave_23 : decode cX4_leave 23 = .ok (.invokevirtual 69, 3) := by decide +kernel
theorem dX4_leave_26 : decode cX4_leave 26 = .ok (.checkcast 145, 3) := by decide +kernel
theorem dX4_leave_29 : decode cX4_leave 29 = .ok (.astore_n 2, 1) := by decide +kernel
theorem dX4_leave_30 : decode cX4_leave 30 = .ok (.aload_n 2, 1) := by decide +kernel
theorem dX4_leave_31 : decode cX4_leave 31 = .ok (.getfield 163, 3) := by decide +kernel
theorem dX4_leave_34 : decode cX4_leave 34 = .ok (.istore_n 3, 1) := by decide +kernel
theorem dX4_leave_35 : decode cX4_leave 35 = .ok (.aload_n 2, 1) := by decide +kernel
theorem dX4_leave_36 : decode cX4_leave 36 = .ok (.invokevirtual 166, 3) := by decide +kernel
theorem dX4_leave_39 : decode cX4_leave 39 = .ok (.iload_n 3, 1) := by decide +kernel
theorem dX4_leave_40 : decode cX4_leave 40 = .ok (.ireturn, 1) := by decide +kernel
set_option maxRecDepth 20000 in
theorem ggX4_guest_X4_isGuest : GoodIn wsX4_guest wsX4_isGuest := goodIn_r _ [16, 3, 17, 18, 19, 20, 21, 22, 40, 41, 42, 43, 44, 45, 46, 47, 55, 56, 57] (by decide +kernel) (by decide +kernel)
set_option maxRecDepth 20000 in
theorem gX4_guest_X4_isGuest : GoodIn wsX4_guest (wsV RX4 148 RX4 yX4_isGuest wsX4_isGuest) := goodIn_app (goodIn_of _ (by decide +kernel)) ggX4_guest_X4_isGuest
set_option maxRecDepth 20000 in
theorem ggX4_guest_Jx4a65c_get_915e3 : GoodIn wsX4_guest wsJx4a65c_get_915e3 := goodIn_r _ [26, 22, 27, 28, 29, 30, 31, 32, 33, 34, 35, 36, 37, 20, 38, 39, 55, 56, 57] (by decide +kernel) (by decide +kernel)
set_option maxRecDepth 20000 in
theorem gX4_guest_Jx4a65c_get_915e3 : GoodIn wsX4_guest (wsV RX4 69 RJx4a65c yJx4a65c_get_915e3 wsJx4a65c_get_915e3) := goodIn_app (goodIn_of _ (by decide +kernel)) ggX4_guest_Jx4a65c_get_915e3
theorem dX4_guest_0 : decode cX4_guest 0 = .ok (.aload_n 0, 1) := by decide +kernel
theorem dX4_guest_1 : decode cX4_guest 1 = .ok (.iload_n 1, 1) := by decide +kernel
theorem dX4_guest_2 : decode cX4_guest 2 = .ok (.invokevirtual 148, 3) := by decide +kernel
theorem dX4_guest_5 : decode cX4_guest 5 = .ok (.ifCond .ne 13, 3) := by decide +kernel
theorem dX4_guest_8 : decode cX4_guest 8 = .ok (.new 62, 3) := by decide +kernel
theorem dX4_guest_11 : decode cX4_guest 11 = .ok (.dup, 1) := by decide +kernel
theorem dX4_guest_12 : decode cX4_guest 12 = .ok (.ldc 151, 2) := by decide +kernel
theorem dX4_guest_14 : decode cX4_guest 14 = .ok (.invokespecial 66, 3) := by decide +kernel
theorem dX4_guest_17 : decode cX4_guest 17 = .ok (.athrow, 1) := by decide +kernel
theorem dX4_guest_18 : decode cX4_guest 18 = .ok (.aload_n 0, 1) := by decide +kernel
theorem dX4_guest_19 : decode cX4_guest 19 = .ok (.getfield 19, 3) := by decide +kernel
theorem dX4_guest_22 : decode cX4_guest 22 = .ok (.iload_n 1, 1) := by decide +kernel
theorem dX4_guest_23 : decode cX4_guest 23 = .ok (.invokevirtual 69, 3) := by decide +kernel
theorem dX4_guest_26 : decode cX4_guest 26 = .ok (.checkcast 145, 3) := by decide +kernel
theorem dX4_guest_29 : decode cX4_guest 29 = .ok (.astore_n 3, 1) := by decide +kernel
theorem dX4_guest_30 : decode cX4_guest 30 = .ok (.iload_n 2, 1) := by decide +kernel
theorem dX4_guest_31 : decode cX4_guest 31 = .ok (.tableswitch 76 0 6 #[41, 46, 51, 56, 61, 66, 71], 41) := by decide +kernel
theorem dX4_guest_72 : decode cX4_guest 72 = .ok (.aload_n 3, 1) := by decide +kernel
theorem dX4_guest_73 : decode cX4_guest 73 = .ok (.getfield 169, 3) := by decide +kernel
theorem dX4_guest_76 : decode cX4_guest 76 = .ok (.ireturn, 1) := by decide +kernel
theorem dX4_guest_77 : decode cX4_guest 77 = .ok (.aload_n 3, 1) := by decide +kernel
theorem dX4_guest_78 : decode cX4_guest 78 = .ok (.getfield 172, 3) := by decide +kernel
theorem dX4_guest_81 : decode cX4_guest 81 = .ok (.ireturn, 1) := by decide +kernel
theorem dX4_guest_82 : decode cX4_guest 82 = .ok (.aload_n 3, 1) := by decide +kernel
theorem dX4_guest_83 : decode cX4_guest 83 = .ok (.getfield 173, 3) := by decide +kernel
theorem dX4_guest_86 : decode cX4_guest 86 = .ok (.ireturn, 1) := by decide +kernel
theorem dX4_guest_87 : decode cX4_guest 87 = .ok (.aload_n 3, 1) := by decide +kernel
theorem dX4_guest_88 : decode cX4_guest 88 = .ok (.getfield 163, 3) := by decide +kernel
theorem dX4_guest_91 : decode cX4_guest 91 = .ok (.ireturn, 1) := by decide +kernel
theorem dX4_guest_92 : decode cX4_guest 92 = .ok (.aload_n 3, 1) := by decide +kernel
theorem dX4_guest_93 : decode cX4_guest 93 = .ok (.getfield 176, 3) := by decide +kernel
theorem dX4_guest_96 : decode cX4_guest 96 = .ok (.ireturn, 1) := by decide +kernel
theorem dX4_guest_97 : decode cX4_guest 97 = .ok (.aload_n 3, 1) := by decide +kernel
theorem dX4_guest_98 : decode cX4_guest 98 = .ok (.getfield 179, 3) := by decide +kernel
theorem dX4_guest_101 : decode cX4_guest 101 = .ok (.ireturn, 1) := by decide +kernel
theorem dX4_guest_102 : decode cX4_guest 102 = .ok (.aload_n 3, 1) := by decide +kernel
theorem dX4_guest_103 : decode cX4_guest 103 = .ok (.getfield 182, 3) := by decide +kernel
theorem dX4_guest_106 : decode cX4_guest 106 = .ok (.ireturn, 1) := by decide +kernel
theorem dX4_guest_107 : decode cX4_guest 107 = .ok (.new 62, 3) := by decide +kernel
theorem dX4_guest_110 : decode cX4_guest 110 = .ok (.dup, 1) := by decide +kernel
theorem dX4_guest_111 : decode cX4_guest 111 = .ok (.ldc 185, 2) := by decide +kernel
theorem dX4_guest_113 : decode cX4_guest 113 = .ok (.invokespecial 66, 3) := by decide +kernel
theorem dX4_guest_116 : decode cX4_guest 116 = .ok (.athrow, 1) := by decide +kernel
set_option maxRecDepth 20000 in
theorem ggX4_wins_X4_isRoom : GoodIn wsX4_wins wsX4_isRoom := goodIn_r _ [7, 8, 9, 10, 11, 12, 13, 14, 68, 69, 70, 71, 72, 73, 74, 75, 76, 77, 78] (by decide +kernel) (by decide +kernel)
set_option maxRecDepth 20000 in
theorem gX4_wins_X4_isRoom : GoodIn wsX4_wins (wsV RX4 58 RX4 yX4_isRoom wsX4_isRoom) := goodIn_app (goodIn_of _ (by decide +kernel)) ggX4_wins_X4_isRoom
set_option maxRecDepth 20000 in
theorem ggX4_wins_X4_winnerOf : GoodIn wsX4_wins wsX4_winnerOf := goodIn_r _ [18, 19, 20, 21, 9, 10, 11, 12, 13, 14, 22, 23, 24, 25, 26, 27, 28, 29, 30, 31, 32, 33, 34, 35, 36, 37, 38, 39, 40, 41, 6, 42, 43, 8, 44, 3, 4, 5, 7, 45, 46, 47, 48, 49, 50, 51, 52, 53, 54, 68, 69, 70, 71, 72, 73, 74, 75, 79, 80, 81, 82, 83, 84, 85, 76, 77, 78, 86, 87, 88, 89, 90, 91] (by decide +kernel) (by decide +kernel)
set_option maxRecDepth 20000 in
theorem gX4_wins_X4_winnerOf : GoodIn wsX4_wins (wsV RX4 187 RX4 yX4_winnerOf wsX4_winnerOf) := goodIn_app (goodIn_of _ (by decide +kernel)) ggX4_wins_X4_winnerOf
set_option maxRecDepth 20000 in
theorem ggX4_wins_X4_dueFor : GoodIn wsX4_wins wsX4_dueFor := goodIn_r _ [58, 8, 44, 59, 19, 20, 21, 60, 61, 62, 63, 3, 4, 5, 6, 7, 9, 10, 11, 12, 13, 14, 22, 23, 24, 25, 26, 27, 28, 29, 30, 31, 32, 33, 34, 35, 36, 37, 38, 39, 40, 41, 42, 43, 45, 46, 47, 48, 49, 50, 51, 52, 53, 54, 68, 69, 70, 71, 72, 73, 74, 75, 86, 87, 88, 89, 90, 91, 79, 80, 81, 82, 83, 84, 85, 76, 77, 78] (by decide +kernel) (by decide +kernel)
set_option maxRecDepth 20000 in
theorem gX4_wins_X4_dueFor : GoodIn wsX4_wins (wsV RX4 190 RX4 yX4_dueFor wsX4_dueFor) := goodIn_app (goodIn_of _ (by decide +kernel)) ggX4_wins_X4_dueFor
set_option maxRecDepth 20000 in
theorem ggX4_wins_X4_bidsThatCount : GoodIn wsX4_wins wsX4_bidsThatCount := goodIn_r _ [67, 19, 20, 9, 10, 11, 12, 13, 14, 22, 23, 24, 25, 26, 27, 28, 29, 30, 31, 32, 33, 34, 35, 36, 37, 38, 39, 40, 41, 6, 42, 43, 8, 44, 3, 4, 5, 7, 45, 46, 47, 48, 49, 50, 51, 52, 53, 54, 68, 69, 70, 71, 72, 73, 74, 75, 76, 77, 78, 79, 80, 81, 82, 83, 84, 85, 86, 87, 88, 89, 90, 91] (by decide +kernel) (by decide +kernel)
set_option maxRecDepth 20000 in
theorem gX4_wins_X4_bidsThatCount : GoodIn wsX4_wins (wsV RX4 193 RX4 yX4_bidsThatCount wsX4_bidsThatCount) := goodIn_app (goodIn_of _ (by decide +kernel)) ggX4_wins_X4_bidsThatCount
theorem dX4_wins_0 : decode cX4_wins 0 = .ok (.aload_n 0, 1) := by decide +kernel
theorem dX4_wins_1 : decode cX4_wins 1 = .ok (.iload_n 1, 1) := by decide +kernel
theorem dX4_wins_2 : decode cX4_wins 2 = .ok (.invokevirtual 58, 3) := by decide +kernel
theorem dX4_wins_5 : decode cX4_wins 5 = .ok (.ifCond .ne 13, 3) := by decide +kernel
theorem dX4_wins_8 : decode cX4_wins 8 = .ok (.new 62, 3) := by decide +kernel
theorem dX4_wins_11 : decode cX4_wins 11 = .ok (.dup, 1) := by decide +kernel
theorem dX4_wins_12 : decode cX4_wins 12 = .ok (.ldc 64, 2) := by decide +kernel
theorem dX4_wins_14 : decode cX4_wins 14 = .ok (.invokespecial 66, 3) := by decide +kernel
theorem dX4_wins_17 : decode cX4_wins 17 = .ok (.athrow, 1) := by decide +kernel
theorem dX4_wins_18 : decode cX4_wins 18 = .ok (.iload_n 2, 1) := by decide +kernel
theorem dX4_wins_19 : decode cX4_wins 19 = .ok (.tableswitch 48 0 2 #[25, 31, 42], 25) := by decide +kernel
theorem dX4_wins_44 : decode cX4_wins 44 = .ok (.aload_n 0, 1) := by decide +kernel
theorem dX4_wins_45 : decode cX4_wins 45 = .ok (.iload_n 1, 1) := by decide +kernel
theorem dX4_wins_46 : decode cX4_wins 46 = .ok (.invokevirtual 187, 3) := by decide +kernel
theorem dX4_wins_49 : decode cX4_wins 49 = .ok (.ireturn, 1) := by decide +kernel
theorem dX4_wins_50 : decode cX4_wins 50 = .ok (.aload_n 0, 1) := by decide +kernel
theorem dX4_wins_51 : decode cX4_wins 51 = .ok (.iload_n 1, 1) := by decide +kernel
theorem dX4_wins_52 : decode cX4_wins 52 = .ok (.aload_n 0, 1) := by decide +kernel
theorem dX4_wins_53 : decode cX4_wins 53 = .ok (.iload_n 1, 1) := by decide +kernel
theorem dX4_wins_54 : decode cX4_wins 54 = .ok (.invokevirtual 187, 3) := by decide +kernel
theorem dX4_wins_57 : decode cX4_wins 57 = .ok (.invokevirtual 190, 3) := by decide +kernel
theorem dX4_wins_60 : decode cX4_wins 60 = .ok (.ireturn, 1) := by decide +kernel
theorem dX4_wins_61 : decode cX4_wins 61 = .ok (.aload_n 0, 1) := by decide +kernel
theorem dX4_wins_62 : decode cX4_wins 62 = .ok (.iload_n 1, 1) := by decide +kernel
theorem dX4_wins_63 : decode cX4_wins 63 = .ok (.invokevirtual 193, 3) := by decide +kernel
theorem dX4_wins_66 : decode cX4_wins 66 = .ok (.ireturn, 1) := by decide +kernel
theorem dX4_wins_67 : decode cX4_wins 67 = .ok (.new 62, 3) := by decide +kernel
theorem dX4_wins_70 : decode cX4_wins 70 = .ok (.dup, 1) := by decide +kernel
theorem dX4_wins_71 : decode cX4_wins 71 = .ok (.ldc 196, 2) := by decide +kernel
theorem dX4_wins_73 : decode cX4_wins 73 = .ok (.invokespecial 66, 3) := by decide +kernel
theorem dX4_wins_76 : decode cX4_wins 76 = .ok (.athrow, 1) := by decide +kernel
set_option maxRecDepth 20000 in
theorem ggX4_night_Jx4a65c_size_8abf5 : GoodIn wsX4_night wsJx4a65c_size_8abf5 := goodIn_r _ [10, 11, 133, 134, 135] (by decide +kernel) (by decide +kernel)
set_option maxRecDepth 20000 in
theorem gX4_night_Jx4a65c_size_8abf5 : GoodIn wsX4_night (wsV RX4 40 RJx4a65c yJx4a65c_size_8abf5 wsJx4a65c_size_8abf5) := goodIn_app (goodIn_of _ (by decide +kernel)) ggX4_night_Jx4a65c_size_8abf5
set_option maxRecDepth 20000 in
theorem ggX4_night_X4_letRoom : GoodIn wsX4_night wsX4_letRoom := goodIn_r _ [16, 1, 17, 2, 3, 5, 18, 19, 20, 21, 15, 22, 23, 6, 7, 8, 9, 10, 11, 24, 25, 26, 27, 28, 29, 30, 31, 32, 33, 34, 35, 36, 37, 38, 39, 40, 41, 42, 43, 44, 45, 46, 47, 48, 49, 50, 51, 52, 53, 54, 55, 56, 57, 58, 59, 60, 61, 62, 63, 64, 65, 66, 67, 68, 69, 70, 71, 72, 73, 74, 75, 76, 77, 78, 79, 80, 81, 82, 83, 84, 85, 86, 87, 88, 89, 90, 91, 92, 93, 94, 95, 96, 97, 98, 99, 100, 101, 102, 103, 104, 105, 106, 107, 108, 109, 110, 111, 112, 113, 114, 115, 116, 117, 118, 119, 125, 126, 127, 128, 129, 130, 131, 132, 136, 137, 138, 139, 140, 141, 142, 133, 134, 135, 143, 144, 145, 146, 147, 148, 149, 150, 151, 152, 153] (by decide +kernel) (by decide +kernel)
set_option maxRecDepth 20000 in
theorem gX4_night_X4_letRoom : GoodIn wsX4_night (wsV RX4 198 RX4 yX4_letRoom wsX4_letRoom) := goodIn_app (goodIn_of _ (by decide +kernel)) ggX4_night_X4_letRoom
set_option maxRecDepth 20000 in
theorem ggX4_night_Jx4a65c_get_915e3 : GoodIn wsX4_night wsJx4a65c_get_915e3 := goodIn_r _ [27, 11, 28, 29, 30, 31, 32, 33, 34, 35, 36, 37, 38, 9, 39, 40, 133, 134, 135] (by decide +kernel) (by decide +kernel)
set_option maxRecDepth 20000 in
theorem gX4_night_Jx4a65c_get_915e3 : GoodIn wsX4_night (wsV RX4 69 RJx4a65c yJx4a65c_get_915e3 wsJx4a65c_get_915e3) := goodIn_app (goodIn_of _ (by decide +kernel)) ggX4_night_Jx4a65c_get_915e3
set_option maxRecDepth 20000 in
theorem ggX4_night_X1_dropBid : GoodIn wsX4_night wsX1_dropBid := goodIn_r _ [123, 124, 56, 136, 137, 138, 139, 140, 141, 142] (by decide +kernel) (by decide +kernel)
set_option maxRecDepth 20000 in
theorem gX4_night_X1_dropBid : GoodIn wsX4_night (wsV RX4 166 RX1 yX1_dropBid wsX1_dropBid) := goodIn_app (goodIn_of _ (by decide +kernel)) ggX4_night_X1_dropBid
theorem dX4_night_0 : decode cX4_night 0 = .ok (.iconst 0, 1) := by decide +kernel
theorem dX4_night_1 : decode cX4_night 1 = .ok (.istore_n 1, 1) := by decide +kernel
theorem dX4_night_2 : decode cX4_night 2 = .ok (.iload_n 1, 1) := by decide +kernel
theorem dX4_night_3 : decode cX4_night 3 = .ok (.aload_n 0, 1) := by decide +kernel
theorem dX4_night_4 : decode cX4_night 4 = .ok (.getfield 10, 3) := by decide +kernel
theorem dX4_night_7 : decode cX4_night 7 = .ok (.invokevirtual 40, 3) := by decide +kernel
theorem dX4_night_10 : decode cX4_night 10 = .ok (.if_icmp .ge 14, 3) := by decide +kernel
theorem dX4_night_13 : decode cX4_night 13 = .ok (.aload_n 0, 1) := by decide +kernel
theorem dX4_night_14 : decode cX4_night 14 = .ok (.iload_n 1, 1) := by decide +kernel
theorem dX4_night_15 : decode cX4_night 15 = .ok (.invokevirtual 198, 3) := by decide +kernel
theorem dX4_night_18 : decode cX4_night 18 = .ok (.iinc 1 1, 3) := by decide +kernel
theorem dX4_night_21 : decode cX4_night 21 = .ok (.goto (-19), 3) := by decide +kernel
theorem dX4_night_24 : decode cX4_night 24 = .ok (.iconst 0, 1) := by decide +kernel
theorem dX4_night_25 : decode cX4_night 25 = .ok (.istore_n 1, 1) := by decide +kernel
theorem dX4_night_26 : decode cX4_night 26 = .ok (.iload_n 1, 1) := by decide +kernel
theorem dX4_night_27 : decode cX4_night 27 = .ok (.aload_n 0, 1) := by decide +kernel
theorem dX4_night_28 : decode cX4_night 28 = .ok (.getfield 19, 3) := by decide +kernel
theorem dX4_night_31 : decode cX4_night 31 = .ok (.invokevirtual 40, 3) := by decide +kernel
theorem dX4_night_34 : decode cX4_night 34 = .ok (.if_icmp .ge 23, 3) := by decide +kernel
theorem dX4_night_37 : decode cX4_night 37 = .ok (.aload_n 0, 1) := by decide +kernel
theorem dX4_night_38 : decode cX4_night 38 = .ok (.getfield 19, 3) := by decide +kernel
theorem dX4_night_41 : decode cX4_night 41 = .ok (.iload_n 1, 1) := by decide +kernel
theorem dX4_night_42 : decode cX4_night 42 = .ok (.invokevirtual 69, 3) := by decide +kernel
theorem dX4_night_45 : decode cX4_night 45 = .ok (.checkcast 145, 3) := by decide +kernel
theorem dX4_night_48 : decode cX4_night 48 = .ok (.invokevirtual 166, 3) := by decide +kernel
theorem dX4_night_51 : decode cX4_night 51 = .ok (.iinc 1 1, 3) := by decide +kernel
theorem dX4_night_54 : decode cX4_night 54 = .ok (.goto (-28), 3) := by decide +kernel
theorem dX4_night_57 : decode cX4_night 57 = .ok (.aload_n 0, 1) := by decide +kernel
theorem dX4_night_58 : decode cX4_night 58 = .ok (.dup, 1) := by decide +kernel
theorem dX4_night_59 : decode cX4_night 59 = .ok (.getfield 201, 3) := by decide +kernel
theorem dX4_night_62 : decode cX4_night 62 = .ok (.iconst 1, 1) := by decide +kernel
theorem dX4_night_63 : decode cX4_night 63 = .ok (.iadd, 1) := by decide +kernel
theorem dX4_night_64 : decode cX4_night 64 = .ok (.putfield 201, 3) := by decide +kernel
theorem dX4_night_67 : decode cX4_night 67 = .ok (.aload_n 0, 1) := by decide +kernel
theorem dX4_night_68 : decode cX4_night 68 = .ok (.getfield 204, 3) := by decide +kernel
theorem dX4_night_71 : decode cX4_night 71 = .ok (.ireturn, 1) := by decide +kernel
set_option maxRecDepth 20000 in
theorem ggX4_count_Jx4a65c_size_8abf5 : GoodIn wsX4_count wsJx4a65c_size_8abf5 := goodIn_r _ [14, 15, 81, 82, 83] (by decide +kernel) (by decide +kernel)
set_option maxRecDepth 20000 in
theorem gX4_count_Jx4a65c_size_8abf5 : GoodIn wsX4_count (wsV RX4 40 RJx4a65c yJx4a65c_size_8abf5 wsJx4a65c_size_8abf5) := goodIn_app (goodIn_of _ (by decide +kernel)) ggX4_count_Jx4a65c_size_8abf5
set_option maxRecDepth 20000 in
theorem ggX4_count_X4_bidsWritten : GoodIn wsX4_count wsX4_bidsWritten := goodIn_r _ [20, 7, 21, 10, 11, 12, 13, 14, 15, 22, 23, 24, 25, 26, 27, 28, 29, 30, 31, 32, 33, 34, 35, 36, 37, 38, 39, 40, 41, 42, 43, 44, 73, 74, 75, 76, 77, 78, 79, 80, 81, 82, 83, 84, 85, 86, 87, 88, 89, 90] (by decide +kernel) (by decide +kernel)
set_option maxRecDepth 20000 in
theorem gX4_count_X4_bidsWritten : GoodIn wsX4_count (wsV RX4 205 RX4 yX4_bidsWritten wsX4_bidsWritten) := goodIn_app (goodIn_of _ (by decide +kernel)) ggX4_count_X4_bidsWritten
set_option maxRecDepth 20000 in
theorem ggX4_count_X4_roomsToLet : GoodIn wsX4_count wsX4_roomsToLet := goodIn_r _ [48, 4, 10, 11, 12, 13, 14, 15, 49, 50, 51, 19, 52, 7, 21, 53, 22, 23, 24, 25, 26, 27, 28, 29, 30, 31, 32, 33, 34, 35, 36, 37, 38, 54, 55, 56, 57, 58, 59, 60, 61, 62, 63, 64, 65, 66, 42, 67, 68, 69, 70, 71, 72, 73, 74, 75, 76, 77, 78, 79, 80, 81, 82, 83, 84, 85, 86, 87, 88, 89, 90, 91, 92, 93, 94, 95, 96] (by decide +kernel) (by decide +kernel)
set_option maxRecDepth 20000 in
theorem gX4_count_X4_roomsToLet : GoodIn wsX4_count (wsV RX4 211 RX4 yX4_roomsToLet wsX4_roomsToLet) := goodIn_app (goodIn_of _ (by decide +kernel)) ggX4_count_X4_roomsToLet
theorem dX4_count_0 : decode cX4_count 0 = .ok (.iload_n 1, 1) := by decide +kernel
theorem dX4_count_1 : decode cX4_count 1 = .ok (.tableswitch 105 0 8 #[51, 56, 64, 69, 77, 85, 90, 95, 100], 51) := by decide +kernel
theorem dX4_count_52 : decode cX4_count 52 = .ok (.aload_n 0, 1) := by decide +kernel
theorem dX4_count_53 : decode cX4_count 53 = .ok (.getfield 201, 3) := by decide +kernel
theorem dX4_count_56 : decode cX4_count 56 = .ok (.ireturn, 1) := by decide +kernel
theorem dX4_count_57 : decode cX4_count 57 = .ok (.aload_n 0, 1) := by decide +kernel
theorem dX4_count_58 : decode cX4_count 58 = .ok (.getfield 10, 3) := by decide +kernel
theorem dX4_count_61 : decode cX4_count 61 = .ok (.invokevirtual 40, 3) := by decide +kernel
theorem dX4_count_64 : decode cX4_count 64 = .ok (.ireturn, 1) := by decide +kernel
theorem dX4_count_65 : decode cX4_count 65 = .ok (.aload_n 0, 1) := by decide +kernel
theorem dX4_count_66 : decode cX4_count 66 = .ok (.getfield 76, 3) := by decide +kernel
theorem dX4_count_69 : decode cX4_count 69 = .ok (.ireturn, 1) := by decide +kernel
theorem dX4_count_70 : decode cX4_count 70 = .ok (.aload_n 0, 1) := by decide +kernel
theorem dX4_count_71 : decode cX4_count 71 = .ok (.getfield 16, 3) := by decide +kernel
theorem dX4_count_74 : decode cX4_count 74 = .ok (.invokevirtual 40, 3) := by decide +kernel
theorem dX4_count_77 : decode cX4_count 77 = .ok (.ireturn, 1) := by decide +kernel
theorem dX4_count_78 : decode cX4_count 78 = .ok (.aload_n 0, 1) := by decide +kernel
theorem dX4_count_79 : decode cX4_count 79 = .ok (.getfield 19, 3) := by decide +kernel
theorem dX4_count_82 : decode cX4_count 82 = .ok (.invokevirtual 40, 3) := by decide +kernel
theorem dX4_count_85 : decode cX4_count 85 = .ok (.ireturn, 1) := by decide +kernel
theorem dX4_count_86 : decode cX4_count 86 = .ok (.aload_n 0, 1) := by decide +kernel
theorem dX4_count_87 : decode cX4_count 87 = .ok (.getfield 204, 3) := by decide +kernel
theorem dX4_count_90 : decode cX4_count 90 = .ok (.ireturn, 1) := by decide +kernel
theorem dX4_count_91 : decode cX4_count 91 = .ok (.aload_n 0, 1) := by decide +kernel
theorem dX4_count_92 : decode cX4_count 92 = .ok (.invokevirtual 205, 3) := by decide +kernel
theorem dX4_count_95 : decode cX4_count 95 = .ok (.ireturn, 1) := by decide +kernel
theorem dX4_count_96 : decode cX4_count 96 = .ok (.aload_n 0, 1) := by decide +kernel
theorem dX4_count_97 : decode cX4_count 97 = .ok (.getfield 208, 3) := by decide +kernel
theorem dX4_count_100 : decode cX4_count 100 = .ok (.ireturn, 1) := by decide +kernel
theorem dX4_count_101 : decode cX4_count 101 = .ok (.aload_n 0, 1) := by decide +kernel
theorem dX4_count_102 : decode cX4_count 102 = .ok (.invokevirtual 211, 3) := by decide +kernel
theorem dX4_count_105 : decode cX4_count 105 = .ok (.ireturn, 1) := by decide +kernel
theorem dX4_count_106 : decode cX4_count 106 = .ok (.new 62, 3) := by decide +kernel
theorem dX4_count_109 : decode cX4_count 109 = .ok (.dup, 1) := by decide +kernel
theorem dX4_count_110 : decode cX4_count 110 = .ok (.ldc 214, 2) := by decide +kernel
theorem dX4_count_112 : decode cX4_count 112 = .ok (.invokespecial 66, 3) := by decide +kernel
theorem dX4_count_115 : decode cX4_count 115 = .ok (.athrow, 1) := by decide +kernel
set_option maxRecDepth 20000 in
theorem ggX4_best_X4_isGuest : GoodIn wsX4_best wsX4_isGuest := goodIn_r _ [16, 3, 17, 18, 19, 20, 21, 22, 67, 68, 69, 70, 71, 72, 73, 74, 88, 89, 90] (by decide +kernel) (by decide +kernel)
set_option maxRecDepth 20000 in
theorem gX4_best_X4_isGuest : GoodIn wsX4_best (wsV RX4 148 RX4 yX4_isGuest wsX4_isGuest) := goodIn_app (goodIn_of _ (by decide +kernel)) ggX4_best_X4_isGuest
set_option maxRecDepth 20000 in
theorem ggX4_best_Jx4a65c_get_915e3 : GoodIn wsX4_best wsJx4a65c_get_915e3 := goodIn_r _ [26, 22, 27, 28, 29, 30, 31, 32, 33, 34, 35, 36, 37, 20, 38, 39, 88, 89, 90] (by decide +kernel) (by decide +kernel)
set_option maxRecDepth 20000 in
theorem gX4_best_Jx4a65c_get_915e3 : GoodIn wsX4_best (wsV RX4 69 RJx4a65c yJx4a65c_get_915e3 wsJx4a65c_get_915e3) := goodIn_app (goodIn_of _ (by decide +kernel)) ggX4_best_Jx4a65c_get_915e3
set_option maxRecDepth 20000 in
theorem ggX4_best_Jx4a65c_size_8abf5 : GoodIn wsX4_best wsJx4a65c_size_8abf5 := goodIn_r _ [21, 22, 88, 89, 90] (by decide +kernel) (by decide +kernel)
set_option maxRecDepth 20000 in
theorem gX4_best_Jx4a65c_size_8abf5 : GoodIn wsX4_best (wsV RX4 40 RJx4a65c yJx4a65c_size_8abf5 wsJx4a65c_size_8abf5) := goodIn_app (goodIn_of _ (by decide +kernel)) ggX4_best_Jx4a65c_size_8abf5
set_option maxRecDepth 20000 in
theorem ggX4_best_X4_hauntingOfNight : GoodIn wsX4_best wsX4_hauntingOfNight := goodIn_r _ [43, 44, 45, 46, 15, 47, 48, 49, 50, 17, 18, 19, 20, 21, 22, 23, 24, 25, 26, 27, 28, 29, 30, 31, 32, 33, 34, 35, 36, 37, 38, 39, 51, 52, 53, 54, 55, 56, 67, 68, 69, 70, 71, 72, 73, 74, 91, 92, 93, 94, 95, 88, 89, 90] (by decide +kernel) (by decide +kernel)
set_option maxRecDepth 20000 in
theorem gX4_best_X4_hauntingOfNight : GoodIn wsX4_best (wsV RX4 113 RX4 yX4_hauntingOfNight wsX4_hauntingOfNight) := goodIn_app (goodIn_of _ (by decide +kernel)) ggX4_best_X4_hauntingOfNight
set_option maxRecDepth 20000 in
theorem ggX4_best_X1_isUpsetBy : GoodIn wsX4_best wsX1_isUpsetBy := goodIn_r _ [61, 62, 63, 64, 65, 60, 66, 81, 82, 83, 84, 85, 86, 87] (by decide +kernel) (by decide +kernel)
set_option maxRecDepth 20000 in
theorem gX4_best_X1_isUpsetBy : GoodIn wsX4_best (wsV RX4 216 RX1 yX1_isUpsetBy wsX1_isUpsetBy) := goodIn_app (goodIn_of _ (by decide +kernel)) ggX4_best_X1_isUpsetBy
theorem dX4_best_0 : decode cX4_best 0 = .ok (.aload_n 0, 1) := by decide +kernel
theorem dX4_best_1 : decode cX4_best 1 = .ok (.iload_n 1, 1) := by decide +kernel
theorem dX4_best_2 : decode cX4_best 2 = .ok (.invokevirtual 148, 3) := by decide +kernel
theorem dX4_best_5 : decode cX4_best 5 = .ok (.ifCond .ne 13, 3) := by decide +kernel
theorem dX4_best_8 : decode cX4_best 8 = .ok (.new 62, 3) := by decide +kernel
theorem dX4_best_11 : decode cX4_best 11 = .ok (.dup, 1) := by decide +kernel
theorem dX4_best_12 : decode cX4_best 12 = .ok (.ldc 151, 2) := by decide +kernel
theorem dX4_best_14 : decode cX4_best 14 = .ok (.invokespecial 66, 3) := by decide +kernel
theorem dX4_best_17 : decode cX4_best 17 = .ok (.athrow, 1) := by decide +kernel
theorem dX4_best_18 : decode cX4_best 18 = .ok (.aload_n 0, 1) := by decide +kernel
theorem dX4_best_19 : decode cX4_best 19 = .ok (.getfield 19, 3) := by decide +kernel
theorem dX4_best_22 : decode cX4_best 22 = .ok (.iload_n 1, 1) := by decide +kernel
theorem dX4_best_23 : decode cX4_best 23 = .ok (.invokevirtual 69, 3) := by decide +kernel
theorem dX4_best_26 : decode cX4_best 26 = .ok (.checkcast 145, 3) := by decide +kernel
theorem dX4_best_29 : decode cX4_best 29 = .ok (.astore_n 2, 1) := by decide +kernel
theorem dX4_best_30 : decode cX4_best 30 = .ok (.iconst (-1), 1) := by decide +kernel
theorem dX4_best_31 : decode cX4_best 31 = .ok (.istore_n 3, 1) := by decide +kernel
theorem dX4_best_32 : decode cX4_best 32 = .ok (.iconst (-1), 1) := by decide +kernel
theorem dX4_best_33 : decode cX4_best 33 = .ok (.istore 4, 2) := by decide +kernel
theorem dX4_best_35 : decode cX4_best 35 = .ok (.iconst 0, 1) := by decide +kernel
theorem dX4_best_36 : decode cX4_best 36 = .ok (.istore 5, 2) := by decide +kernel
theorem dX4_best_38 : decode cX4_best 38 = .ok (.iload 5, 2) := by decide +kernel
theorem dX4_best_40 : decode cX4_best 40 = .ok (.aload_n 0, 1) := by decide +kernel
theorem dX4_best_41 : decode cX4_best 41 = .ok (.getfield 10, 3) := by decide +kernel
theorem dX4_best_44 : decode cX4_best 44 = .ok (.invokevirtual 40, 3) := by decide +kernel
theorem dX4_best_47 : decode cX4_best 47 = .ok (.if_icmp .ge 81, 3) := by decide +kernel
theorem dX4_best_50 : decode cX4_best 50 = .ok (.aload_n 0, 1) := by decide +kernel
theorem dX4_best_51 : decode cX4_best 51 = .ok (.getfield 10, 3) := by decide +kernel
theorem dX4_best_54 : decode cX4_best 54 = .ok (.iload 5, 2) := by decide +kernel
theorem dX4_best_56 : decode cX4_best 56 = .ok (.invokevirtual 69, 3) := by decide +kernel
theorem dX4_best_59 : decode cX4_best 59 = .ok (.checkcast 49, 3) := by decide +kernel
theorem dX4_best_62 : decode cX4_best 62 = .ok (.astore 6, 2) := by decide +kernel
theorem dX4_best_64 : decode cX4_best 64 = .ok (.aload 6, 2) := by decide +kernel
theorem dX4_best_66 : decode cX4_best 66 = .ok (.getfield 124, 3) := by decide +kernel
theorem dX4_best_69 : decode cX4_best 69 = .ok (.iload 4, 2) := by decide +kernel
theorem dX4_best_71 : decode cX4_best 71 = .ok (.if_icmp .le 51, 3) := by decide +kernel
theorem dX4_best_74 : decode cX4_best 74 = .ok (.aload 6, 2) := by decide +kernel
theorem dX4_best_76 : decode cX4_best 76 = .ok (.getfield 121, 3) := by decide +kernel
theorem dX4_best_79 : decode cX4_best 79 = .ok (.aload_n 2, 1) := by decide +kernel
theorem dX4_best_80 : decode cX4_best 80 = .ok (.getfield 172, 3) := by decide +kernel
theorem dX4_best_83 : decode cX4_best 83 = .ok (.if_icmp .lt 39, 3) := by decide +kernel
theorem dX4_best_86 : decode cX4_best 86 = .ok (.aload 6, 2) := by decide +kernel
theorem dX4_best_88 : decode cX4_best 88 = .ok (.getfield 127, 3) := by decide +kernel
theorem dX4_best_91 : decode cX4_best 91 = .ok (.aload_n 2, 1) := by decide +kernel
theorem dX4_best_92 : decode cX4_best 92 = .ok (.getfield 169, 3) := by decide +kernel
theorem dX4_best_95 : decode cX4_best 95 = .ok (.if_icmp .gt 27, 3) := by decide +kernel
theorem dX4_best_98 : decode cX4_best 98 = .ok (.aload_n 2, 1) := by decide +kernel
theorem dX4_best_99 : decode cX4_best 99 = .ok (.aload_n 0, 1) := by decide +kernel
theorem dX4_best_100 : decode cX4_best 100 = .ok (.iload 5, 2) := by decide +kernel
theorem dX4_best_102 : decode cX4_best 102 = .ok (.iconst (-1), 1) := by decide +kernel
theorem dX4_best_103 : decode cX4_best 103 = .ok (.invokevirtual 113, 3) := by decide +kernel
theorem dX4_best_106 : decode cX4_best 106 = .ok (.invokevirtual 216, 3) := by decide +kernel
theorem dX4_best_109 : decode cX4_best 109 = .ok (.ifCond .ne 13, 3) := by decide +kernel
theorem dX4_best_112 : decode cX4_best 112 = .ok (.iload 5, 2) := by decide +kernel
theorem dX4_best_114 : decode cX4_best 114 = .ok (.istore_n 3, 1) := by decide +kernel
theorem dX4_best_115 : decode cX4_best 115 = .ok (.aload 6, 2) := by decide +kernel
theorem dX4_best_117 : decode cX4_best 117 = .ok (.getfield 124, 3) := by decide +kernel
theorem dX4_best_120 : decode cX4_best 120 = .ok (.istore 4, 2) := by decide +kernel
theorem dX4_best_122 : decode cX4_best 122 = .ok (.iinc 5 1, 3) := by decide +kernel
theorem dX4_best_125 : decode cX4_best 125 = .ok (.goto (-87), 3) := by decide +kernel
theorem dX4_best_128 : decode cX4_best 128 = .ok (.iload_n 3, 1) := by decide +kernel
theorem dX4_best_129 : decode cX4_best 129 = .ok (.ireturn, 1) := by decide +kernel
set_option maxRecDepth 20000 in
theorem ggX4_most_X3_clear : GoodIn wsX4_most wsX3_clear := goodIn_r _ [9, 10, 11, 12, 13, 14, 15, 100, 101, 102] (by decide +kernel) (by decide +kernel)
set_option maxRecDepth 20000 in
theorem gX4_most_X3_clear : GoodIn wsX4_most (wsV RX4 219 RX3 yX3_clear wsX3_clear) := goodIn_app (goodIn_of _ (by decide +kernel)) ggX4_most_X3_clear
set_option maxRecDepth 20000 in
theorem ggX4_most_X4_allowSeats : GoodIn wsX4_most wsX4_allowSeats := goodIn_r _ [20, 2, 3, 21, 22, 1, 23, 24, 25, 26, 27, 28, 29, 30, 31, 32, 33, 34, 35, 36, 37, 38, 39, 40, 41, 42, 43, 44, 45, 46, 47, 48, 49, 50, 51, 52, 53, 54, 55, 56, 57, 58, 59, 60, 61, 62, 63, 8, 64, 10, 85, 86, 87, 88, 89, 90, 91, 92, 103, 104, 105, 93, 94, 95, 96, 97, 98, 99, 106, 107, 108, 109, 110, 111, 100, 101, 102] (by decide +kernel) (by decide +kernel)
set_option maxRecDepth 20000 in
theorem gX4_most_X4_allowSeats : GoodIn wsX4_most (wsV RX4 222 RX4 yX4_allowSeats wsX4_allowSeats) := goodIn_app (goodIn_of _ (by decide +kernel)) ggX4_most_X4_allowSeats
set_option maxRecDepth 20000 in
theorem ggX4_most_X4_nextDearest : GoodIn wsX4_most wsX4_nextDearest := goodIn_r _ [68, 2, 3, 23, 24, 25, 26, 27, 28, 69, 70, 71, 19, 72, 4, 73, 74, 75, 76, 29, 30, 31, 32, 33, 34, 35, 36, 37, 38, 39, 40, 41, 42, 43, 44, 45, 46, 47, 48, 49, 50, 51, 85, 86, 87, 88, 89, 90, 91, 92, 103, 104, 105, 93, 94, 95, 96, 97, 98, 99] (by decide +kernel) (by decide +kernel)
set_option maxRecDepth 20000 in
theorem gX4_most_X4_nextDearest : GoodIn wsX4_most (wsV RX4 225 RX4 yX4_nextDearest wsX4_nextDearest) := goodIn_app (goodIn_of _ (by decide +kernel)) ggX4_most_X4_nextDearest
set_option maxRecDepth 20000 in
theorem ggX4_most_Jx4a65c_size_8abf5 : GoodIn wsX4_most wsJx4a65c_size_8abf5 := goodIn_r _ [27, 28, 103, 104, 105] (by decide +kernel) (by decide +kernel)
set_option maxRecDepth 20000 in
theorem gX4_most_Jx4a65c_size_8abf5 : GoodIn wsX4_most (wsV RX4 40 RJx4a65c yJx4a65c_size_8abf5 wsJx4a65c_size_8abf5) := goodIn_app (goodIn_of _ (by decide +kernel)) ggX4_most_Jx4a65c_size_8abf5
set_option maxRecDepth 20000 in
theorem ggX4_most_X4_isGuest : GoodIn wsX4_most wsX4_isGuest := goodIn_r _ [76, 2, 23, 24, 25, 26, 27, 28, 85, 86, 87, 88, 89, 90, 91, 92, 103, 104, 105] (by decide +kernel) (by decide +kernel)
set_option maxRecDepth 20000 in
theorem gX4_most_X4_isGuest : GoodIn wsX4_most (wsV RX4 148 RX4 yX4_isGuest wsX4_isGuest) := goodIn_app (goodIn_of _ (by decide +kernel)) ggX4_most_X4_isGuest
set_option maxRecDepth 20000 in
theorem ggX4_most_X3_seat : GoodIn wsX4_most wsX3_seat := goodIn_r _ [80, 81, 82, 83, 8, 84, 10, 11, 100, 101, 102] (by decide +kernel) (by decide +kernel)
set_option maxRecDepth 20000 in
theorem gX4_most_X3_seat : GoodIn wsX4_most (wsV RX4 228 RX3 yX3_seat wsX3_seat) := goodIn_app (goodIn_of _ (by decide +kernel)) ggX4_most_X3_seat
set_option maxRecDepth 20000 in
theorem ggX4_most_Jx4a65c_get_915e3 : GoodIn wsX4_most wsJx4a65c_get_915e3 := goodIn_r _ [32, 28, 33, 34, 35, 36, 37, 38, 39, 40, 41, 42, 43, 26, 44, 45, 103, 104, 105] (by decide +kernel) (by decide +kernel)
set_option maxRecDepth 20000 in
theorem gX4_most_Jx4a65c_get_915e3 : GoodIn wsX4_most (wsV RX4 69 RJx4a65c yJx4a65c_get_915e3 wsJx4a65c_get_915e3) := goodIn_app (goodIn_of _ (by decide +kernel)) ggX4_most_Jx4a65c_get_915e3
theorem dX4_most_0 : decode cX4_most 0 = .ok (.aload_n 0, 1) := by decide +kernel
theorem dX4_most_1 : decode cX4_most 1 = .ok (.getfield 25, 3) := by decide +kernel
theorem dX4_most_4 : decode cX4_most 4 = .ok (.invokevirtual 219, 3) := by decide +kernel
theorem dX4_most_7 : decode cX4_most 7 = .ok (.aload_n 0, 1) := by decide +kernel
theorem dX4_most_8 : decode cX4_most 8 = .ok (.invokevirtual 222, 3) := by decide +kernel
theorem dX4_most_11 : decode cX4_most 11 = .ok (.iconst 0, 1) := by decide +kernel
theorem dX4_most_12 : decode cX4_most 12 = .ok (.istore_n 1, 1) := by decide +kernel
theorem dX4_most_13 : decode cX4_most 13 = .ok (.aload_n 0, 1) := by decide +kernel
theorem dX4_most_14 : decode cX4_most 14 = .ok (.iconst (-1), 1) := by decide +kernel
theorem dX4_most_15 : decode cX4_most 15 = .ok (.invokevirtual 225, 3) := by decide +kernel
theorem dX4_most_18 : decode cX4_most 18 = .ok (.istore_n 2, 1) := by decide +kernel
theorem dX4_most_19 : decode cX4_most 19 = .ok (.iconst 0, 1) := by decide +kernel
theorem dX4_most_20 : decode cX4_most 20 = .ok (.istore_n 3, 1) := by decide +kernel
theorem dX4_most_21 : decode cX4_most 21 = .ok (.iload_n 3, 1) := by decide +kernel
theorem dX4_most_22 : decode cX4_most 22 = .ok (.aload_n 0, 1) := by decide +kernel
theorem dX4_most_23 : decode cX4_most 23 = .ok (.getfield 19, 3) := by decide +kernel
theorem dX4_most_26 : decode cX4_most 26 = .ok (.invokevirtual 40, 3) := by decide +kernel
theorem dX4_most_29 : decode cX4_most 29 = .ok (.if_icmp .ge 51, 3) := by decide +kernel
theorem dX4_most_32 : decode cX4_most 32 = .ok (.aload_n 0, 1) := by decide +kernel
theorem dX4_most_33 : decode cX4_most 33 = .ok (.iload_n 2, 1) := by decide +kernel
theorem dX4_most_34 : decode cX4_most 34 = .ok (.invokevirtual 148, 3) := by decide +kernel
theorem dX4_most_37 : decode cX4_most 37 = .ok (.ifCond .eq 43, 3) := by decide +kernel
theorem dX4_most_40 : decode cX4_most 40 = .ok (.aload_n 0, 1) := by decide +kernel
theorem dX4_most_41 : decode cX4_most 41 = .ok (.getfield 25, 3) := by decide +kernel
theorem dX4_most_44 : decode cX4_most 44 = .ok (.iload_n 2, 1) := by decide +kernel
theorem dX4_most_45 : decode cX4_most 45 = .ok (.invokevirtual 228, 3) := by decide +kernel
theorem dX4_most_48 : decode cX4_most 48 = .ok (.ifCond .eq 20, 3) := by decide +kernel
theorem dX4_most_51 : decode cX4_most 51 = .ok (.iload_n 1, 1) := by decide +kernel
theorem dX4_most_52 : decode cX4_most 52 = .ok (.aload_n 0, 1) := by decide +kernel
theorem dX4_most_53 : decode cX4_most 53 = .ok (.getfield 19, 3) := by decide +kernel
theorem dX4_most_56 : decode cX4_most 56 = .ok (.iload_n 2, 1) := by decide +kernel
theorem dX4_most_57 : decode cX4_most 57 = .ok (.invokevirtual 69, 3) := by decide +kernel
theorem dX4_most_60 : decode cX4_most 60 = .ok (.checkcast 145, 3) := by decide +kernel
theorem dX4_most_63 : decode cX4_most 63 = .ok (.getfield 176, 3) := by decide +kernel
theorem dX4_most_66 : decode cX4_most 66 = .ok (.iadd, 1) := by decide +kernel
theorem dX4_most_67 : decode cX4_most 67 = .ok (.istore_n 1, 1) := by decide +kernel
theorem dX4_most_68 : decode cX4_most 68 = .ok (.aload_n 0, 1) := by decide +kernel
theorem dX4_most_69 : decode cX4_most 69 = .ok (.iload_n 2, 1) := by decide +kernel
theorem dX4_most_70 : decode cX4_most 70 = .ok (.invokevirtual 225, 3) := by decide +kernel
theorem dX4_most_73 : decode cX4_most 73 = .ok (.istore_n 2, 1) := by decide +kernel
theorem dX4_most_74 : decode cX4_most 74 = .ok (.iinc 3 1, 3) := by decide +kernel
theorem dX4_most_77 : decode cX4_most 77 = .ok (.goto (-56), 3) := by decide +kernel
theorem dX4_most_80 : decode cX4_most 80 = .ok (.iload_n 1, 1) := by decide +kernel
theorem dX4_most_81 : decode cX4_most 81 = .ok (.ireturn, 1) := by decide +kernel
set_option maxRecDepth 20000 in
theorem ggX4_scares_X4_isGhost : GoodIn wsX4_scares wsX4_isGhost := goodIn_r _ [7, 8, 9, 10, 11, 12, 13, 14, 102, 103, 104, 105, 106, 107, 108, 109, 110, 111, 112] (by decide +kernel) (by decide +kernel)
set_option maxRecDepth 20000 in
theorem gX4_scares_X4_isGhost : GoodIn wsX4_scares (wsV RX4 102 RX4 yX4_isGhost wsX4_isGhost) := goodIn_app (goodIn_of _ (by decide +kernel)) ggX4_scares_X4_isGhost
set_option maxRecDepth 20000 in
theorem ggX4_scares_X4_backTonight : GoodIn wsX4_scares wsX4_backTonight := goodIn_r _ [18, 19, 20, 21, 9, 10, 11, 12, 13, 14, 22, 23, 24, 6, 25, 26, 27, 28, 29, 30, 31, 32, 33, 34, 35, 36, 37, 38, 39, 40, 41, 42, 43, 44, 45, 46, 47, 48, 49, 50, 51, 52, 53, 54, 55, 56, 57, 58, 59, 60, 61, 62, 63, 64, 65, 66, 67, 68, 69, 70, 71, 72, 73, 74, 75, 8, 76, 77, 78, 79, 80, 81, 82, 83, 84, 85, 86, 87, 88, 89, 90, 91, 92, 93, 94, 95, 96, 97, 98, 99, 100, 101, 102, 103, 104, 105, 106, 107, 108, 109, 110, 111, 112, 113, 114, 115, 116, 117, 118, 119, 120, 121, 122, 123, 124, 125, 126, 127, 128, 129, 130] (by decide +kernel) (by decide +kernel)
set_option maxRecDepth 20000 in
theorem gX4_scares_X4_backTonight : GoodIn wsX4_scares (wsV RX4 231 RX4 yX4_backTonight wsX4_backTonight) := goodIn_app (goodIn_of _ (by decide +kernel)) ggX4_scares_X4_backTonight
theorem dX4_scares_0 : decode cX4_scares 0 = .ok (.aload_n 0, 1) := by decide +kernel
theorem dX4_scares_1 : decode cX4_scares 1 = .ok (.iload_n 1, 1) := by decide +kernel
theorem dX4_scares_2 : decode cX4_scares 2 = .ok (.invokevirtual 102, 3) := by decide +kernel
theorem dX4_scares_5 : decode cX4_scares 5 = .ok (.ifCond .ne 13, 3) := by decide +kernel
theorem dX4_scares_8 : decode cX4_scares 8 = .ok (.new 62, 3) := by decide +kernel
theorem dX4_scares_11 : decode cX4_scares 11 = .ok (.dup, 1) := by decide +kernel
theorem dX4_scares_12 : decode cX4_scares 12 = .ok (.ldc 105, 2) := by decide +kernel
theorem dX4_scares_14 : decode cX4_scares 14 = .ok (.invokespecial 66, 3) := by decide +kernel
theorem dX4_scares_17 : decode cX4_scares 17 = .ok (.athrow, 1) := by decide +kernel
theorem dX4_scares_18 : decode cX4_scares 18 = .ok (.aload_n 0, 1) := by decide +kernel
theorem dX4_scares_19 : decode cX4_scares 19 = .ok (.iconst (-1), 1) := by decide +kernel
theorem dX4_scares_20 : decode cX4_scares 20 = .ok (.invokevirtual 231, 3) := by decide +kernel
theorem dX4_scares_23 : decode cX4_scares 23 = .ok (.aload_n 0, 1) := by decide +kernel
theorem dX4_scares_24 : decode cX4_scares 24 = .ok (.iload_n 1, 1) := by decide +kernel
theorem dX4_scares_25 : decode cX4_scares 25 = .ok (.invokevirtual 231, 3) := by decide +kernel
theorem dX4_scares_28 : decode cX4_scares 28 = .ok (.isub, 1) := by decide +kernel
theorem dX4_scares_29 : decode cX4_scares 29 = .ok (.ireturn, 1) := by decide +kernel
set_option maxRecDepth 20000 in
theorem ggX4_mean_Jx4a65c_size_8abf5 : GoodIn wsX4_mean wsJx4a65c_size_8abf5 := goodIn_r _ [9, 10, 42, 43, 44] (by decide +kernel) (by decide +kernel)
set_option maxRecDepth 20000 in
theorem gX4_mean_Jx4a65c_size_8abf5 : GoodIn wsX4_mean (wsV RX4 40 RJx4a65c yJx4a65c_size_8abf5 wsJx4a65c_size_8abf5) := goodIn_app (goodIn_of _ (by decide +kernel)) ggX4_mean_Jx4a65c_size_8abf5
set_option maxRecDepth 20000 in
theorem ggX4_mean_Jx4a65c_get_915e3 : GoodIn wsX4_mean wsJx4a65c_get_915e3 := goodIn_r _ [14, 10, 15, 16, 17, 18, 19, 20, 21, 22, 23, 24, 25, 8, 26, 27, 42, 43, 44] (by decide +kernel) (by decide +kernel)
set_option maxRecDepth 20000 in
theorem gX4_mean_Jx4a65c_get_915e3 : GoodIn wsX4_mean (wsV RX4 69 RJx4a65c yJx4a65c_get_915e3 wsJx4a65c_get_915e3) := goodIn_app (goodIn_of _ (by decide +kernel)) ggX4_mean_Jx4a65c_get_915e3
theorem dX4_mean_0 : decode cX4_mean 0 = .ok (.iconst 0, 1) := by decide +kernel
theorem dX4_mean_1 : decode cX4_mean 1 = .ok (.istore_n 1, 1) := by decide +kernel
theorem dX4_mean_2 : decode cX4_mean 2 = .ok (.iconst 0, 1) := by decide +kernel
theorem dX4_mean_3 : decode cX4_mean 3 = .ok (.istore_n 2, 1) := by decide +kernel
theorem dX4_mean_4 : decode cX4_mean 4 = .ok (.iload_n 2, 1) := by decide +kernel
theorem dX4_mean_5 : decode cX4_mean 5 = .ok (.aload_n 0, 1) := by decide +kernel
theorem dX4_mean_6 : decode cX4_mean 6 = .ok (.getfield 10, 3) := by decide +kernel
theorem dX4_mean_9 : decode cX4_mean 9 = .ok (.invokevirtual 40, 3) := by decide +kernel
theorem dX4_mean_12 : decode cX4_mean 12 = .ok (.if_icmp .ge 26, 3) := by decide +kernel
theorem dX4_mean_15 : decode cX4_mean 15 = .ok (.iload_n 1, 1) := by decide +kernel
theorem dX4_mean_16 : decode cX4_mean 16 = .ok (.aload_n 0, 1) := by decide +kernel
theorem dX4_mean_17 : decode cX4_mean 17 = .ok (.getfield 10, 3) := by decide +kernel
theorem dX4_mean_20 : decode cX4_mean 20 = .ok (.iload_n 2, 1) := by decide +kernel
theorem dX4_mean_21 : decode cX4_mean 21 = .ok (.invokevirtual 69, 3) := by decide +kernel
theorem dX4_mean_24 : decode cX4_mean 24 = .ok (.checkcast 49, 3) := by decide +kernel
theorem dX4_mean_27 : decode cX4_mean 27 = .ok (.getfield 133, 3) := by decide +kernel
theorem dX4_mean_30 : decode cX4_mean 30 = .ok (.iadd, 1) := by decide +kernel
theorem dX4_mean_31 : decode cX4_mean 31 = .ok (.istore_n 1, 1) := by decide +kernel
theorem dX4_mean_32 : decode cX4_mean 32 = .ok (.iinc 2 1, 3) := by decide +kernel
theorem dX4_mean_35 : decode cX4_mean 35 = .ok (.goto (-31), 3) := by decide +kernel
theorem dX4_mean_38 : decode cX4_mean 38 = .ok (.iload_n 1, 1) := by decide +kernel
theorem dX4_mean_39 : decode cX4_mean 39 = .ok (.ifCond .ne 7, 3) := by decide +kernel
theorem dX4_mean_42 : decode cX4_mean 42 = .ok (.dconst 0, 1) := by decide +kernel
theorem dX4_mean_43 : decode cX4_mean 43 = .ok (.goto 11, 3) := by decide +kernel
theorem dX4_mean_46 : decode cX4_mean 46 = .ok (.aload_n 0, 1) := by decide +kernel
theorem dX4_mean_47 : decode cX4_mean 47 = .ok (.getfield 204, 3) := by decide +kernel
theorem dX4_mean_50 : decode cX4_mean 50 = .ok (.i2d, 1) := by decide +kernel
theorem dX4_mean_51 : decode cX4_mean 51 = .ok (.iload_n 1, 1) := by decide +kernel
theorem dX4_mean_52 : decode cX4_mean 52 = .ok (.i2d, 1) := by decide +kernel
theorem dX4_mean_53 : decode cX4_mean 53 = .ok (.ddiv, 1) := by decide +kernel
theorem dX4_mean_54 : decode cX4_mean 54 = .ok (.dreturn, 1) := by decide +kernel
set_option maxRecDepth 20000 in
theorem ggX4_digest_X4_count : GoodIn wsX4_digest wsX4_count := goodIn_ca (goodIn_r _ [10, 11, 12, 13, 3, 14, 4, 5, 15, 16, 17, 18, 19, 20, 21, 22, 23, 24, 25, 9, 26, 27, 28, 29, 30, 31, 32, 33, 34, 35, 36, 37, 38, 39, 40, 41, 42, 43, 44, 45, 46, 47, 48, 49, 50, 51, 52, 53, 54, 55, 56, 57, 58, 59, 60, 61, 62, 63, 64, 65, 66, 67, 68, 69, 70, 71, 72, 73, 74, 75, 76, 77, 78, 165, 166, 167, 168, 169, 170, 171, 172, 173, 174, 175, 176, 177, 178, 179, 180, 181, 182, 183, 184, 185, 186, 187, 188] (by decide +kernel) (by decide +kernel)) (goodIn_sub (fun _ h => List.mem_cons_of_mem _ (List.mem_append_right _ h)) (by decide +kernel))
set_option maxRecDepth 20000 in
theorem gX4_digest_X4_count : GoodIn wsX4_digest (wsV RX4 238 RX4 yX4_count wsX4_count) := goodIn_app (goodIn_of _ (by decide +kernel)) ggX4_digest_X4_count
set_option maxRecDepth 20000 in
theorem ggX4_digest_Jx4a65c_size_8abf5 : GoodIn wsX4_digest wsJx4a65c_size_8abf5 := goodIn_r _ [21, 22, 173, 174, 175] (by decide +kernel) (by decide +kernel)
set_option maxRecDepth 20000 in
theorem gX4_digest_Jx4a65c_size_8abf5 : GoodIn wsX4_digest (wsV RX4 40 RJx4a65c yJx4a65c_size_8abf5 wsJx4a65c_size_8abf5) := goodIn_app (goodIn_of _ (by decide +kernel)) ggX4_digest_Jx4a65c_size_8abf5
set_option maxRecDepth 20000 in
theorem ggX4_digest_X4_digestRoom : GoodIn wsX4_digest wsX4_digestRoom := goodIn_ca (goodIn_r _ [82, 2, 83, 84, 85, 9, 86, 11, 12, 3, 65, 87, 88, 89, 90, 91, 66, 67, 68, 69, 17, 18, 19, 20, 21, 22, 28, 29, 30, 31, 32, 33, 34, 35, 36, 37, 38, 39, 40, 41, 42, 43, 44, 92, 93, 94, 95, 96, 97, 98, 99, 100, 101, 102, 103, 104, 105, 106, 107, 108, 55, 56, 57, 58, 5, 27, 59, 60, 61, 62, 63, 64, 70, 71, 72, 48, 73, 74, 75, 76, 77, 78, 109, 110, 111, 112, 113, 114, 115, 116, 117, 118, 119, 120, 121, 122, 123, 124, 125, 126, 127, 128, 129, 130, 131, 132, 133, 134, 135, 4, 136, 137, 138, 139, 140, 141, 142, 143, 165, 166, 167, 168, 169, 170, 171, 172, 183, 184, 185, 186, 187, 188, 173, 174, 175, 176, 177, 178, 179, 180, 181, 182, 189, 190, 191, 192, 193] (by decide +kernel) (by decide +kernel)) (goodIn_sub (fun _ h => List.mem_cons_of_mem _ (List.mem_append_right _ h)) (by decide +kernel))
set_option maxRecDepth 20000 in
theorem gX4_digest_X4_digestRoom : GoodIn wsX4_digest (wsV RX4 241 RX4 yX4_digestRoom wsX4_digestRoom) := goodIn_app (goodIn_of _ (by decide +kernel)) ggX4_digest_X4_digestRoom
set_option maxRecDepth 20000 in
theorem ggX4_digest_X4_at : GoodIn wsX4_digest wsX4_at := goodIn_ca (goodIn_r _ [147, 11, 12, 4, 136, 148, 149, 150, 9, 151, 17, 18, 19, 20, 21, 22, 125, 126, 127, 28, 29, 30, 31, 32, 33, 34, 35, 36, 37, 38, 39, 40, 41, 42, 43, 44, 138, 139, 140, 141, 142, 143, 165, 166, 167, 168, 169, 170, 171, 172, 173, 174, 175, 189, 190, 191, 192, 193] (by decide +kernel) (by decide +kernel)) (goodIn_sub (fun _ h => List.mem_cons_of_mem _ (List.mem_append_right _ h)) (by decide +kernel))
set_option maxRecDepth 20000 in
theorem gX4_digest_X4_at : GoodIn wsX4_digest (wsV RX4 245 RX4 yX4_at wsX4_at) := goodIn_app (goodIn_of _ (by decide +kernel)) ggX4_digest_X4_at
set_option maxRecDepth 20000 in
theorem ggX4_digest_X4_guest : GoodIn wsX4_digest wsX4_guest := goodIn_ca (goodIn_r _ [155, 11, 12, 5, 27, 156, 157, 158, 64, 59, 159, 160, 161, 162, 163, 9, 164, 17, 18, 19, 20, 21, 22, 28, 29, 30, 31, 32, 33, 34, 35, 36, 37, 38, 39, 40, 41, 42, 43, 44, 165, 166, 167, 168, 169, 170, 171, 172, 176, 177, 178, 179, 180, 181, 182, 173, 174, 175] (by decide +kernel) (by decide +kernel)) (goodIn_sub (fun _ h => List.mem_cons_of_mem _ (List.mem_append_right _ h)) (by decide +kernel))
set_option maxRecDepth 20000 in
theorem gX4_digest_X4_guest : GoodIn wsX4_digest (wsV RX4 248 RX4 yX4_guest wsX4_guest) := goodIn_app (goodIn_of _ (by decide +kernel)) ggX4_digest_X4_guest
theorem dX4_digest_0 : decode cX4_digest 0 = .ok (.ldc2_w 234, 3) := by decide +kernel
theorem dX4_digest_3 : decode cX4_digest 3 = .ok (.lstore_n 1, 1) := by decide +kernel
theorem dX4_digest_4 : decode cX4_digest 4 = .ok (.iconst 0, 1) := by decide +kernel
theorem dX4_digest_5 : decode cX4_digest 5 = .ok (.istore_n 3, 1) := by decide +kernel
theorem dX4_digest_6 : decode cX4_digest 6 = .ok (.iload_n 3, 1) := by decide +kernel
theorem dX4_digest_7 : decode cX4_digest 7 = .ok (.bipush 9, 2) := by decide +kernel
theorem dX4_digest_9 : decode cX4_digest 9 = .ok (.if_icmp .ge 22, 3) := by decide +kernel
theorem dX4_digest_12 : decode cX4_digest 12 = .ok (.lload_n 1, 1) := by decide +kernel
theorem dX4_digest_13 : decode cX4_digest 13 = .ok (.ldc2_w 236, 3) := by decide +kernel
theorem dX4_digest_16 : decode cX4_digest 16 = .ok (.lmul, 1) := by decide +kernel
theorem dX4_digest_17 : decode cX4_digest 17 = .ok (.aload_n 0, 1) := by decide +kernel
theorem dX4_digest_18 : decode cX4_digest 18 = .ok (.iload_n 3, 1) := by decide +kernel
theorem dX4_digest_19 : decode cX4_digest 19 = .ok (.invokevirtual 238, 3) := by decide +kernel
theorem dX4_digest_22 : decode cX4_digest 22 = .ok (.i2l, 1) := by decide +kernel
theorem dX4_digest_23 : decode cX4_digest 23 = .ok (.ladd, 1) := by decide +kernel
theorem dX4_digest_24 : decode cX4_digest 24 = .ok (.lstore_n 1, 1) := by decide +kernel
theorem dX4_digest_25 : decode cX4_digest 25 = .ok (.iinc 3 1, 3) := by decide +kernel
theorem dX4_digest_28 : decode cX4_digest 28 = .ok (.goto (-22), 3) := by decide +kernel
theorem dX4_digest_31 : decode cX4_digest 31 = .ok (.iconst 0, 1) := by decide +kernel
theorem dX4_digest_32 : decode cX4_digest 32 = .ok (.istore_n 3, 1) := by decide +kernel
theorem dX4_digest_33 : decode cX4_digest 33 = .ok (.iload_n 3, 1) := by decide +kernel
theorem dX4_digest_34 : decode cX4_digest 34 = .ok (.aload_n 0, 1) := by decide +kernel
theorem dX4_digest_35 : decode cX4_digest 35 = .ok (.getfield 10, 3) := by decide +kernel
theorem dX4_digest_38 : decode cX4_digest 38 = .ok (.invokevirtual 40, 3) := by decide +kernel
theorem dX4_digest_41 : decode cX4_digest 41 = .ok (.if_icmp .ge 16, 3) := by decide +kernel
theorem dX4_digest_44 : decode cX4_digest 44 = .ok (.aload_n 0, 1) := by decide +kernel
theorem dX4_digest_45 : decode cX4_digest 45 = .ok (.lload_n 1, 1) := by decide +kernel
theorem dX4_digest_46 : decode cX4_digest 46 = .ok (.iload_n 3, 1) := by decide +kernel
theorem dX4_digest_47 : decode cX4_digest 47 = .ok (.invokevirtual 241, 3) := by decide +kernel
theorem dX4_digest_50 : decode cX4_digest 50 = .ok (.lstore_n 1, 1) := by decide +kernel
theorem dX4_digest_51 : decode cX4_digest 51 = .ok (.iinc 3 1, 3) := by decide +kernel
theorem dX4_digest_54 : decode cX4_digest 54 = .ok (.goto (-21), 3) := by decide +kernel
theorem dX4_digest_57 : decode cX4_digest 57 = .ok (.iconst 0, 1) := by decide +kernel
theorem dX4_digest_58 : decode cX4_digest 58 = .ok (.istore_n 3, 1) := by decide +kernel
theorem dX4_digest_59 : decode cX4_digest 59 = .ok (.iload_n 3, 1) := by decide +kernel
theorem dX4_digest_60 : decode cX4_digest 60 = .ok (.aload_n 0, 1) := by decide +kernel
theorem dX4_digest_61 : decode cX4_digest 61 = .ok (.getfield 16, 3) := by decide +kernel
theorem dX4_digest_64 : decode cX4_digest 64 = .ok (.invokevirtual 40, 3) := by decide +kernel
theorem dX4_digest_67 : decode cX4_digest 67 = .ok (.if_icmp .ge 40, 3) := by decide +kernel
theorem dX4_digest_70 : decode cX4_digest 70 = .ok (.iconst 0, 1) := by decide +kernel
theorem dX4_digest_71 : decode cX4_digest 71 = .ok (.istore 4, 2) := by decide +kernel
theorem dX4_digest_73 : decode cX4_digest 73 = .ok (.iload 4, 2) := by decide +kernel
theorem dX4_digest_75 : decode cX4_digest 75 = .ok (.bipush 12, 2) := by decide +kernel
theorem dX4_digest_77 : decode cX4_digest 77 = .ok (.if_icmp .ge 24, 3) := by decide +kernel
theorem dX4_digest_80 : decode cX4_digest 80 = .ok (.lload_n 1, 1) := by decide +kernel
theorem dX4_digest_81 : decode cX4_digest 81 = .ok (.ldc2_w 236, 3) := by decide +kernel
theorem dX4_digest_84 : decode cX4_digest 84 = .ok (.lmul, 1) := by decide +kernel
theorem dX4_digest_85 : decode cX4_digest 85 = .ok (.aload_n 0, 1) := by decide +kernel
theorem dX4_digest_86 : decode cX4_digest 86 = .ok (.iload_n 3, 1) := by decide +kernel
theorem dX4_digest_87 : decode cX4_digest 87 = .ok (.iload 4, 2) := by decide +kernel
theorem dX4_digest_89 : decode cX4_digest 89 = .ok (.invokevirtual 245, 3) := by decide +kernel
theorem dX4_digest_92 : decode cX4_digest 92 = .ok (.i2l, 1) := by decide +kernel
theorem dX4_digest_93 : decode cX4_digest 93 = .ok (.ladd, 1) := by decide +kernel
theorem dX4_digest_94 : decode cX4_digest 94 = .ok (.lstore_n 1, 1) := by decide +kernel
theorem dX4_digest_95 : decode cX4_digest 95 = .ok (.iinc 4 1, 3) := by decide +kernel
theorem dX4_digest_98 : decode cX4_digest 98 = .ok (.goto (-25), 3) := by decide +kernel
theorem dX4_digest_101 : decode cX4_digest 101 = .ok (.iinc 3 1, 3) := by decide +kernel
theorem dX4_digest_104 : decode cX4_digest 104 = .ok (.goto (-45), 3) := by decide +kernel
theorem dX4_digest_107 : decode cX4_digest 107 = .ok (.iconst 0, 1) := by decide +kernel
theorem dX4_digest_108 : decode cX4_digest 108 = .ok (.istore_n 3, 1) := by decide +kernel
theorem dX4_digest_109 : decode cX4_digest 109 = .ok (.iload_n 3, 1) := by decide +kernel
theorem dX4_digest_110 : decode cX4_digest 110 = .ok (.aload_n 0, 1) := by decide +kernel
theorem dX4_digest_111 : decode cX4_digest 111 = .ok (.getfield 19, 3) := by decide +kernel
theorem dX4_digest_114 : decode cX4_digest 114 = .ok (.invokevirtual 40, 3) := by decide +kernel
theorem dX4_digest_117 : decode cX4_digest 117 = .ok (.if_icmp .ge 40, 3) := by decide +kernel
theorem dX4_digest_120 : decode cX4_digest 120 = .ok (.iconst 0, 1) := by decide +kernel
theorem dX4_digest_121 : decode cX4_digest 121 = .ok (.istore 4, 2) := by decide +kernel
theorem dX4_digest_123 : decode cX4_digest 123 = .ok (.iload 4, 2) := by decide +kernel
theorem dX4_digest_125 : decode cX4_digest 125 = .ok (.bipush 7, 2) := by decide +kernel
theorem dX4_digest_127 : decode cX4_digest 127 = .ok (.if_icmp .ge 24, 3) := by decide +kernel
theorem dX4_digest_130 : decode cX4_digest 130 = .ok (.lload_n 1, 1) := by decide +kernel
theorem dX4_digest_131 : decode cX4_digest 131 = .ok (.ldc2_w 236, 3) := by decide +kernel
theorem dX4_digest_134 : decode cX4_digest 134 = .ok (.lmul, 1) := by decide +kernel
theorem dX4_digest_135 : decode cX4_digest 135 = .ok (.aload_n 0, 1) := by decide +kernel
theorem dX4_digest_136 : decode cX4_digest 136 = .ok (.iload_n 3, 1) := by decide +kernel
theorem dX4_digest_137 : decode cX4_digest 137 = .ok (.iload 4, 2) := by decide +kernel
theorem dX4_digest_139 : decode cX4_digest 139 = .ok (.invokevirtual 248, 3) := by decide +kernel
theorem dX4_digest_142 : decode cX4_digest 142 = .ok (.i2l, 1) := by decide +kernel
theorem dX4_digest_143 : decode cX4_digest 143 = .ok (.ladd, 1) := by decide +kernel
theorem dX4_digest_144 : decode cX4_digest 144 = .ok (.lstore_n 1, 1) := by decide +kernel
theorem dX4_digest_145 : decode cX4_digest 145 = .ok (.iinc 4 1, 3) := by decide +kernel
theorem dX4_digest_148 : decode cX4_digest 148 = .ok (.goto (-25), 3) := by decide +kernel
theorem dX4_digest_151 : decode cX4_digest 151 = .ok (.iinc 3 1, 3) := by decide +kernel
theorem dX4_digest_154 : decode cX4_digest 154 = .ok (.goto (-45), 3) := by decide +kernel
theorem dX4_digest_157 : decode cX4_digest 157 = .ok (.lload_n 1, 1) := by decide +kernel
theorem dX4_digest_158 : decode cX4_digest 158 = .ok (.lreturn, 1) := by decide +kernel
set_option maxRecDepth 20000 in
theorem ggX4_digestRoom_X4_room : GoodIn wsX4_digestRoom wsX4_room := goodIn_ca (goodIn_r _ [6, 7, 8, 9, 10, 11, 12, 13, 14, 15, 16, 17, 18, 5, 19, 20, 21, 22, 23, 24, 25, 26, 27, 28, 29, 30, 31, 32, 33, 34, 35, 36, 37, 38, 39, 40, 41, 42, 43, 44, 45, 46, 47, 48, 49, 50, 51, 52, 53, 54, 55, 118, 119, 120, 121, 122, 123, 124, 125, 126, 127, 128, 129, 130, 131, 132, 133, 134] (by decide +kernel) (by decide +kernel)) (goodIn_sub (fun _ h => List.mem_cons_of_mem _ (List.mem_append_right _ h)) (by decide +kernel))
set_option maxRecDepth 20000 in
theorem gX4_digestRoom_X4_room : GoodIn wsX4_digestRoom (wsV RX4 251 RX4 yX4_room wsX4_room) := goodIn_app (goodIn_of _ (by decide +kernel)) ggX4_digestRoom_X4_room
set_option maxRecDepth 20000 in
theorem ggX4_digestRoom_X4_wins : GoodIn wsX4_digestRoom wsX4_wins := goodIn_ca (goodIn_r _ [59, 7, 8, 16, 17, 18, 5, 19, 9, 20, 21, 22, 23, 24, 25, 60, 61, 62, 63, 64, 65, 66, 26, 27, 28, 29, 30, 31, 32, 33, 34, 35, 36, 37, 38, 39, 40, 41, 42, 67, 68, 69, 70, 71, 10, 72, 73, 74, 75, 76, 77, 78, 79, 80, 81, 82, 83, 84, 85, 13, 86, 87, 88, 89, 90, 91, 92, 93, 118, 119, 120, 121, 122, 123, 124, 125, 132, 133, 134, 135, 136, 137, 138, 139, 140, 141, 126, 127, 128, 129, 130, 131] (by decide +kernel) (by decide +kernel)) (goodIn_sub (fun _ h => List.mem_cons_of_mem _ (List.mem_append_right _ h)) (by decide +kernel))
set_option maxRecDepth 20000 in
theorem gX4_digestRoom_X4_wins : GoodIn wsX4_digestRoom (wsV RX4 254 RX4 yX4_wins wsX4_wins) := goodIn_app (goodIn_of _ (by decide +kernel)) ggX4_digestRoom_X4_wins
set_option maxRecDepth 20000 in
theorem ggX4_digestRoom_X4_haunting : GoodIn wsX4_digestRoom wsX4_haunting := goodIn_ca (goodIn_r _ [97, 7, 8, 16, 17, 18, 5, 19, 9, 20, 21, 22, 23, 24, 25, 98, 99, 100, 101, 102, 103, 104, 105, 106, 107, 108, 109, 110, 111, 26, 27, 28, 29, 30, 31, 32, 33, 34, 35, 36, 37, 38, 39, 40, 41, 42, 112, 113, 114, 115, 116, 117, 118, 119, 120, 121, 122, 123, 124, 125, 132, 133, 134, 142, 143, 144, 145, 146] (by decide +kernel) (by decide +kernel)) (goodIn_sub (fun _ h => List.mem_cons_of_mem _ (List.mem_append_right _ h)) (by decide +kernel))
set_option maxRecDepth 20000 in
theorem gX4_digestRoom_X4_haunting : GoodIn wsX4_digestRoom (wsV RX4 257 RX4 yX4_haunting wsX4_haunting) := goodIn_app (goodIn_of _ (by decide +kernel)) ggX4_digestRoom_X4_haunting
theorem dX4_digestRoom_0 : decode cX4_digestRoom 0 = .ok (.lload_n 1, 1) := by decide +kernel
theorem dX4_digestRoom_1 : decode cX4_digestRoom 1 = .ok (.lstore 4, 2) := by decide +kernel
theorem dX4_digestRoom_3 : decode cX4_digestRoom 3 = .ok (.iconst 0, 1) := by decide +kernel
theorem dX4_digestRoom_4 : decode cX4_digestRoom 4 = .ok (.istore 6, 2) := by decide +kernel
theorem dX4_digestRoom_6 : decode cX4_digestRoom 6 = .ok (.iload 6, 2) := by decide +kernel
theorem dX4_digestRoom_8 : decode cX4_digestRoom 8 = .ok (.bipush 6, 2) := by decide +kernel
theorem dX4_digestRoom_10 : decode cX4_digestRoom 10 = .ok (.if_icmp .ge 26, 3) := by decide +kernel
theorem dX4_digestRoom_13 : decode cX4_digestRoom 13 = .ok (.lload 4, 2) := by decide +kernel
theorem dX4_digestRoom_15 : decode cX4_digestRoom 15 = .ok (.ldc2_w 236, 3) := by decide +kernel
theorem dX4_digestRoom_18 : decode cX4_digestRoom 18 = .ok (.lmul, 1) := by decide +kernel
theorem dX4_digestRoom_19 : decode cX4_digestRoom 19 = .ok (.aload_n 0, 1) := by decide +kernel
theorem dX4_digestRoom_20 : decode cX4_digestRoom 20 = .ok (.iload_n 3, 1) := by decide +kernel
theorem dX4_digestRoom_21 : decode cX4_digestRoom 21 = .ok (.iload 6, 2) := by decide +kernel
theorem dX4_digestRoom_23 : decode cX4_digestRoom 23 = .ok (.invokevirtual 251, 3) := by decide +kernel
theorem dX4_digestRoom_26 : decode cX4_digestRoom 26 = .ok (.i2l, 1) := by decide +kernel
theorem dX4_digestRoom_27 : decode cX4_digestRoom 27 = .ok (.ladd, 1) := by decide +kernel
theorem dX4_digestRoom_28 : decode cX4_digestRoom 28 = .ok (.lstore 4, 2) := by decide +kernel
theorem dX4_digestRoom_30 : decode cX4_digestRoom 30 = .ok (.iinc 6 1, 3) := by decide +kernel
theorem dX4_digestRoom_33 : decode cX4_digestRoom 33 = .ok (.goto (-27), 3) := by decide +kernel
theorem dX4_digestRoom_36 : decode cX4_digestRoom 36 = .ok (.iconst 0, 1) := by decide +kernel
theorem dX4_digestRoom_37 : decode cX4_digestRoom 37 = .ok (.istore 6, 2) := by decide +kernel
theorem dX4_digestRoom_39 : decode cX4_digestRoom 39 = .ok (.iload 6, 2) := by decide +kernel
theorem dX4_digestRoom_41 : decode cX4_digestRoom 41 = .ok (.iconst 3, 1) := by decide +kernel
theorem dX4_digestRoom_42 : decode cX4_digestRoom 42 = .ok (.if_icmp .ge 26, 3) := by decide +kernel
theorem dX4_digestRoom_45 : decode cX4_digestRoom 45 = .ok (.lload 4, 2) := by decide +kernel
theorem dX4_digestRoom_47 : decode cX4_digestRoom 47 = .ok (.ldc2_w 236, 3) := by decide +kernel
theorem dX4_digestRoom_50 : decode cX4_digestRoom 50 = .ok (.lmul, 1) := by decide +kernel
theorem dX4_digestRoom_51 : decode cX4_digestRoom 51 = .ok (.aload_n 0, 1) := by decide +kernel
theorem dX4_digestRoom_52 : decode cX4_digestRoom 52 = .ok (.iload_n 3, 1) := by decide +kernel
theorem dX4_digestRoom_53 : decode cX4_digestRoom 53 = .ok (.iload 6, 2) := by decide +kernel
theorem dX4_digestRoom_55 : decode cX4_digestRoom 55 = .ok (.invokevirtual 254, 3) := by decide +kernel
theorem dX4_digestRoom_58 : decode cX4_digestRoom 58 = .ok (.i2l, 1) := by decide +kernel
theorem dX4_digestRoom_59 : decode cX4_digestRoom 59 = .ok (.ladd, 1) := by decide +kernel
theorem dX4_digestRoom_60 : decode cX4_digestRoom 60 = .ok (.lstore 4, 2) := by decide +kernel
theorem dX4_digestRoom_62 : decode cX4_digestRoom 62 = .ok (.iinc 6 1, 3) := by decide +kernel
theorem dX4_digestRoom_65 : decode cX4_digestRoom 65 = .ok (.goto (-26), 3) := by decide +kernel
theorem dX4_digestRoom_68 : decode cX4_digestRoom 68 = .ok (.lload 4, 2) := by decide +kernel
theorem dX4_digestRoom_70 : decode cX4_digestRoom 70 = .ok (.ldc2_w 236, 3) := by decide +kernel
theorem dX4_digestRoom_73 : decode cX4_digestRoom 73 = .ok (.lmul, 1) := by decide +kernel
theorem dX4_digestRoom_74 : decode cX4_digestRoom 74 = .ok (.aload_n 0, 1) := by decide +kernel
theorem dX4_digestRoom_75 : decode cX4_digestRoom 75 = .ok (.iload_n 3, 1) := by decide +kernel
theorem dX4_digestRoom_76 : decode cX4_digestRoom 76 = .ok (.iconst (-1), 1) := by decide +kernel
theorem dX4_digestRoom_77 : decode cX4_digestRoom 77 = .ok (.invokevirtual 257, 3) := by decide +kernel
theorem dX4_digestRoom_80 : decode cX4_digestRoom 80 = .ok (.i2l, 1) := by decide +kernel
theorem dX4_digestRoom_81 : decode cX4_digestRoom 81 = .ok (.ladd, 1) := by decide +kernel
theorem dX4_digestRoom_82 : decode cX4_digestRoom 82 = .ok (.lreturn, 1) := by decide +kernel
theorem dX4_within_0 : decode cX4_within 0 = .ok (.iload_n 0, 1) := by decide +kernel
theorem dX4_within_1 : decode cX4_within 1 = .ok (.iload_n 1, 1) := by decide +kernel
theorem dX4_within_2 : decode cX4_within 2 = .ok (.if_icmp .lt 12, 3) := by decide +kernel
theorem dX4_within_5 : decode cX4_within 5 = .ok (.iload_n 0, 1) := by decide +kernel
theorem dX4_within_6 : decode cX4_within 6 = .ok (.iload_n 2, 1) := by decide +kernel
theorem dX4_within_7 : decode cX4_within 7 = .ok (.if_icmp .gt 7, 3) := by decide +kernel
theorem dX4_within_10 : decode cX4_within 10 = .ok (.iconst 1, 1) := by decide +kernel
theorem dX4_within_11 : decode cX4_within 11 = .ok (.goto 4, 3) := by decide +kernel
theorem dX4_within_14 : decode cX4_within 14 = .ok (.iconst 0, 1) := by decide +kernel
theorem dX4_within_15 : decode cX4_within 15 = .ok (.ireturn, 1) := by decide +kernel
set_option maxRecDepth 20000 in
theorem ggX4_isRoom_Jx4a65c_size_8abf5 : GoodIn wsX4_isRoom wsJx4a65c_size_8abf5 := goodIn_r _ [6, 7, 16, 17, 18] (by decide +kernel) (by decide +kernel)
set_option maxRecDepth 20000 in
theorem gX4_isRoom_Jx4a65c_size_8abf5 : GoodIn wsX4_isRoom (wsV RX4 40 RJx4a65c yJx4a65c_size_8abf5 wsJx4a65c_size_8abf5) := goodIn_app (goodIn_of _ (by decide +kernel)) ggX4_isRoom_Jx4a65c_size_8abf5
theorem dX4_isRoom_0 : decode cX4_isRoom 0 = .ok (.iload_n 1, 1) := by decide +kernel
theorem dX4_isRoom_1 : decode cX4_isRoom 1 = .ok (.ifCond .lt 18, 3) := by decide +kernel
theorem dX4_isRoom_4 : decode cX4_isRoom 4 = .ok (.iload_n 1, 1) := by decide +kernel
theorem dX4_isRoom_5 : decode cX4_isRoom 5 = .ok (.aload_n 0, 1) := by decide +kernel
theorem dX4_isRoom_6 : decode cX4_isRoom 6 = .ok (.getfield 10, 3) := by decide +kernel
theorem dX4_isRoom_9 : decode cX4_isRoom 9 = .ok (.invokevirtual 40, 3) := by decide +kernel
theorem dX4_isRoom_12 : decode cX4_isRoom 12 = .ok (.if_icmp .ge 7, 3) := by decide +kernel
theorem dX4_isRoom_15 : decode cX4_isRoom 15 = .ok (.iconst 1, 1) := by decide +kernel
theorem dX4_isRoom_16 : decode cX4_isRoom 16 = .ok (.goto 4, 3) := by decide +kernel
theorem dX4_isRoom_19 : decode cX4_isRoom 19 = .ok (.iconst 0, 1) := by decide +kernel
theorem dX4_isRoom_20 : decode cX4_isRoom 20 = .ok (.ireturn, 1) := by decide +kernel
set_option maxRecDepth 20000 in
theorem ggX4_isGhost_Jx4a65c_size_8abf5 : GoodIn wsX4_isGhost wsJx4a65c_size_8abf5 := goodIn_r _ [6, 7, 16, 17, 18] (by decide +kernel) (by decide +kernel)
set_option maxRecDepth 20000 in
theorem gX4_isGhost_Jx4a65c_size_8abf5 : GoodIn wsX4_isGhost (wsV RX4 40 RJx4a65c yJx4a65c_size_8abf5 wsJx4a65c_size_8abf5) := goodIn_app (goodIn_of _ (by decide +kernel)) ggX4_isGhost_Jx4a65c_size_8abf5
theorem dX4_isGhost_0 : decode cX4_isGhost 0 = .ok (.iload_n 1, 1) := by decide +kernel
theorem dX4_isGhost_1 : decode cX4_isGhost 1 = .ok (.ifCond .lt 18, 3) := by decide +kernel
theorem dX4_isGhost_4 : decode cX4_isGhost 4 = .ok (.iload_n 1, 1) := by decide +kernel
theorem dX4_isGhost_5 : decode cX4_isGhost 5 = .ok (.aload_n 0, 1) := by decide +kernel
theorem dX4_isGhost_6 : decode cX4_isGhost 6 = .ok (.getfield 16, 3) := by decide +kernel
theorem dX4_isGhost_9 : decode cX4_isGhost 9 = .ok (.invokevirtual 40, 3) := by decide +kernel
theorem dX4_isGhost_12 : decode cX4_isGhost 12 = .ok (.if_icmp .ge 7, 3) := by decide +kernel
theorem dX4_isGhost_15 : decode cX4_isGhost 15 = .ok (.iconst 1, 1) := by decide +kernel
theorem dX4_isGhost_16 : decode cX4_isGhost 16 = .ok (.goto 4, 3) := by decide +kernel
theorem dX4_isGhost_19 : decode cX4_isGhost 19 = .ok (.iconst 0, 1) := by decide +kernel
theorem dX4_isGhost_20 : decode cX4_isGhost 20 = .ok (.ireturn, 1) := by decide +kernel
set_option maxRecDepth 20000 in
theorem ggX4_isGuest_Jx4a65c_size_8abf5 : GoodIn wsX4_isGuest wsJx4a65c_size_8abf5 := goodIn_r _ [6, 7, 16, 17, 18] (by decide +kernel) (by decide +kernel)
set_option maxRecDepth 20000 in
theorem gX4_isGuest_Jx4a65c_size_8abf5 : GoodIn wsX4_isGuest (wsV RX4 40 RJx4a65c yJx4a65c_size_8abf5 wsJx4a65c_size_8abf5) := goodIn_app (goodIn_of _ (by decide +kernel)) ggX4_isGuest_Jx4a65c_size_8abf5
theorem dX4_isGuest_0 : decode cX4_isGuest 0 = .ok (.iload_n 1, 1) := by decide +kernel
theorem dX4_isGuest_1 : decode cX4_isGuest 1 = .ok (.ifCond .lt 18, 3) := by decide +kernel
theorem dX4_isGuest_4 : decode cX4_isGuest 4 = .ok (.iload_n 1, 1) := by decide +kernel
theorem dX4_isGuest_5 : decode cX4_isGuest 5 = .ok (.aload_n 0, 1) := by decide +kernel
theorem dX4_isGuest_6 : decode cX4_isGuest 6 = .ok (.getfield 19, 3) := by decide +kernel
theorem dX4_isGuest_9 : decode cX4_isGuest 9 = .ok (.invokevirtual 40, 3) := by decide +kernel
theorem dX4_isGuest_12 : decode cX4_isGuest 12 = .ok (.if_icmp .ge 7, 3) := by decide +kernel
theorem dX4_isGuest_15 : decode cX4_isGuest 15 = .ok (.iconst 1, 1) := by decide +kernel
theorem dX4_isGuest_16 : decode cX4_isGuest 16 = .ok (.goto 4, 3) := by decide +kernel
theorem dX4_isGuest_19 : decode cX4_isGuest 19 = .ok (.iconst 0, 1) := by decide +kernel
theorem dX4_isGuest_20 : decode cX4_isGuest 20 = .ok (.ireturn, 1) := by decide +kernel
set_option maxRecDepth 20000 in
theorem ggX4_planAllWays_Jx4a65c_size_8abf5 : GoodIn wsX4_planAllWays wsJx4a65c_size_8abf5 := goodIn_r _ [7, 8, 69, 70, 71] (by decide +kernel) (by decide +kernel)
set_option maxRecDepth 20000 in
theorem gX4_planAllWays_Jx4a65c_size_8abf5 : GoodIn wsX4_planAllWays (wsV RX4 40 RJx4a65c yJx4a65c_size_8abf5 wsJx4a65c_size_8abf5) := goodIn_app (goodIn_of _ (by decide +kernel)) ggX4_planAllWays_Jx4a65c_size_8abf5
set_option maxRecDepth 20000 in
theorem ggX4_planAllWays_Jx4a65c_get_915e3 : GoodIn wsX4_planAllWays wsJx4a65c_get_915e3 := goodIn_r _ [12, 8, 13, 14, 15, 16, 17, 18, 19, 20, 21, 22, 23, 6, 24, 25, 69, 70, 71] (by decide +kernel) (by decide +kernel)
set_option maxRecDepth 20000 in
theorem gX4_planAllWays_Jx4a65c_get_915e3 : GoodIn wsX4_planAllWays (wsV RX4 69 RJx4a65c yJx4a65c_get_915e3 wsJx4a65c_get_915e3) := goodIn_app (goodIn_of _ (by decide +kernel)) ggX4_planAllWays_Jx4a65c_get_915e3
set_option maxRecDepth 20000 in
theorem ggX4_planAllWays_X4_planWay : GoodIn wsX4_planAllWays wsX4_planWay := goodIn_r _ [30, 31, 32, 33, 34, 35, 29, 36, 37, 38, 39, 40, 41, 42, 3, 4, 5, 6, 7, 8, 9, 10, 11, 12, 13, 14, 15, 16, 17, 18, 19, 20, 21, 22, 23, 24, 25, 43, 44, 45, 46, 47, 48, 49, 50, 51, 52, 53, 54, 55, 56, 57, 58, 59, 60, 72, 73, 74, 75, 76, 61, 62, 63, 64, 65, 66, 67, 68, 69, 70, 71, 77, 78, 79, 80, 81, 82] (by decide +kernel) (by decide +kernel)
set_option maxRecDepth 20000 in
theorem gX4_planAllWays_X4_planWay : GoodIn wsX4_planAllWays (wsV RX4 98 RX4 yX4_planWay wsX4_planWay) := goodIn_app (goodIn_of _ (by decide +kernel)) ggX4_planAllWays_X4_planWay
theorem dX4_planAllWays_0 : decode cX4_planAllWays 0 = .ok (.iconst 0, 1) := by decide +kernel
theorem dX4_planAllWays_1 : decode cX4_planAllWays 1 = .ok (.istore_n 1, 1) := by decide +kernel
theorem dX4_planAllWays_2 : decode cX4_planAllWays 2 = .ok (.iload_n 1, 1) := by decide +kernel
theorem dX4_planAllWays_3 : decode cX4_planAllWays 3 = .ok (.aload_n 0, 1) := by decide +kernel
theorem dX4_planAllWays_4 : decode cX4_planAllWays 4 = .ok (.getfield 16, 3) := by decide +kernel
theorem dX4_planAllWays_7 : decode cX4_planAllWays 7 = .ok (.invokevirtual 40, 3) := by decide +kernel
theorem dX4_planAllWays_10 : decode cX4_planAllWays 10 = .ok (.if_icmp .ge 24, 3) := by decide +kernel
theorem dX4_planAllWays_13 : decode cX4_planAllWays 13 = .ok (.aload_n 0, 1) := by decide +kernel
theorem dX4_planAllWays_14 : decode cX4_planAllWays 14 = .ok (.aload_n 0, 1) := by decide +kernel
theorem dX4_planAllWays_15 : decode cX4_planAllWays 15 = .ok (.getfield 16, 3) := by decide +kernel
theorem dX4_planAllWays_18 : decode cX4_planAllWays 18 = .ok (.iload_n 1, 1) := by decide +kernel
theorem dX4_planAllWays_19 : decode cX4_planAllWays 19 = .ok (.invokevirtual 69, 3) := by decide +kernel
theorem dX4_planAllWays_22 : decode cX4_planAllWays 22 = .ok (.checkcast 93, 3) := by decide +kernel
theorem dX4_planAllWays_25 : decode cX4_planAllWays 25 = .ok (.invokevirtual 98, 3) := by decide +kernel
theorem dX4_planAllWays_28 : decode cX4_planAllWays 28 = .ok (.iinc 1 1, 3) := by decide +kernel
theorem dX4_planAllWays_31 : decode cX4_planAllWays 31 = .ok (.goto (-29), 3) := by decide +kernel
theorem dX4_planAllWays_34 : decode cX4_planAllWays 34 = .ok (.return_, 1) := by decide +kernel
set_option maxRecDepth 20000 in
theorem ggX4_planWay_X4_nextRoom : GoodIn wsX4_planWay wsX4_nextRoom := goodIn_r _ [7, 8, 9, 10, 11, 12, 6, 13, 14, 15, 16, 17, 18, 19, 20, 21, 22, 23, 24, 25, 26, 27, 28, 29, 30, 31, 32, 33, 34, 35, 36, 37, 38, 39, 40, 41, 42, 60, 61, 62, 63, 64, 65, 66, 67, 68, 69, 70, 71, 72, 73, 74, 75, 76] (by decide +kernel) (by decide +kernel)
set_option maxRecDepth 20000 in
theorem gX4_planWay_X4_nextRoom : GoodIn wsX4_planWay (wsV RX4 266 RX4 yX4_nextRoom wsX4_nextRoom) := goodIn_app (goodIn_of _ (by decide +kernel)) ggX4_planWay_X4_nextRoom
set_option maxRecDepth 20000 in
theorem ggX4_planWay_X0_isAwakeIn : GoodIn wsX4_planWay wsX0_isAwakeIn := goodIn_r _ [47, 48, 49, 55, 56, 57, 58, 59] (by decide +kernel) (by decide +kernel)
set_option maxRecDepth 20000 in
theorem gX4_planWay_X0_isAwakeIn : GoodIn wsX4_planWay (wsV RX4 269 RX0 yX0_isAwakeIn wsX0_isAwakeIn) := goodIn_app (goodIn_of _ (by decide +kernel)) ggX4_planWay_X0_isAwakeIn
set_option maxRecDepth 20000 in
theorem ggX4_planWay_X0_setPlace : GoodIn wsX4_planWay wsX0_setPlace := goodIn_r _ [53, 54, 55, 56, 57, 58, 59] (by decide +kernel) (by decide +kernel)
set_option maxRecDepth 20000 in
theorem gX4_planWay_X0_setPlace : GoodIn wsX4_planWay (wsV RX4 272 RX0 yX0_setPlace wsX0_setPlace) := goodIn_app (goodIn_of _ (by decide +kernel)) ggX4_planWay_X0_setPlace
theorem dX4_planWay_0 : decode cX4_planWay 0 = .ok (.aload_n 1, 1) := by decide +kernel
theorem dX4_planWay_1 : decode cX4_planWay 1 = .ok (.getfield 260, 3) := by decide +kernel
theorem dX4_planWay_4 : decode cX4_planWay 4 = .ok (.istore_n 2, 1) := by decide +kernel
theorem dX4_planWay_5 : decode cX4_planWay 5 = .ok (.iconst 0, 1) := by decide +kernel
theorem dX4_planWay_6 : decode cX4_planWay 6 = .ok (.istore_n 3, 1) := by decide +kernel
theorem dX4_planWay_7 : decode cX4_planWay 7 = .ok (.iload_n 3, 1) := by decide +kernel
theorem dX4_planWay_8 : decode cX4_planWay 8 = .ok (.bipush 12, 2) := by decide +kernel
theorem dX4_planWay_10 : decode cX4_planWay 10 = .ok (.if_icmp .ge 41, 3) := by decide +kernel
theorem dX4_planWay_13 : decode cX4_planWay 13 = .ok (.iload_n 3, 1) := by decide +kernel
theorem dX4_planWay_14 : decode cX4_planWay 14 = .ok (.aload_n 1, 1) := by decide +kernel
theorem dX4_planWay_15 : decode cX4_planWay 15 = .ok (.getfield 263, 3) := by decide +kernel
theorem dX4_planWay_18 : decode cX4_planWay 18 = .ok (.if_icmp .le 9, 3) := by decide +kernel
theorem dX4_planWay_21 : decode cX4_planWay 21 = .ok (.aload_n 0, 1) := by decide +kernel
theorem dX4_planWay_22 : decode cX4_planWay 22 = .ok (.iload_n 2, 1) := by decide +kernel
theorem dX4_planWay_23 : decode cX4_planWay 23 = .ok (.invokevirtual 266, 3) := by decide +kernel
theorem dX4_planWay_26 : decode cX4_planWay 26 = .ok (.istore_n 2, 1) := by decide +kernel
theorem dX4_planWay_27 : decode cX4_planWay 27 = .ok (.aload_n 1, 1) := by decide +kernel
theorem dX4_planWay_28 : decode cX4_planWay 28 = .ok (.iload_n 3, 1) := by decide +kernel
theorem dX4_planWay_29 : decode cX4_planWay 29 = .ok (.aload_n 1, 1) := by decide +kernel
theorem dX4_planWay_30 : decode cX4_planWay 30 = .ok (.iload_n 3, 1) := by decide +kernel
theorem dX4_planWay_31 : decode cX4_planWay 31 = .ok (.invokevirtual 269, 3) := by decide +kernel
theorem dX4_planWay_34 : decode cX4_planWay 34 = .ok (.ifCond .eq 7, 3) := by decide +kernel
theorem dX4_planWay_37 : decode cX4_planWay 37 = .ok (.iload_n 2, 1) := by decide +kernel
theorem dX4_planWay_38 : decode cX4_planWay 38 = .ok (.goto 4, 3) := by decide +kernel
theorem dX4_planWay_41 : decode cX4_planWay 41 = .ok (.iconst (-1), 1) := by decide +kernel
theorem dX4_planWay_42 : decode cX4_planWay 42 = .ok (.invokevirtual 272, 3) := by decide +kernel
theorem dX4_planWay_45 : decode cX4_planWay 45 = .ok (.iinc 3 1, 3) := by decide +kernel
theorem dX4_planWay_48 : decode cX4_planWay 48 = .ok (.goto (-41), 3) := by decide +kernel
theorem dX4_planWay_51 : decode cX4_planWay 51 = .ok (.return_, 1) := by decide +kernel
set_option maxRecDepth 20000 in
theorem ggX4_nextRoom_X4_isRoom : GoodIn wsX4_nextRoom wsX4_isRoom := goodIn_r _ [7, 1, 8, 9, 10, 11, 12, 13, 37, 38, 39, 40, 41, 42, 43, 44, 45, 46, 47] (by decide +kernel) (by decide +kernel)
set_option maxRecDepth 20000 in
theorem gX4_nextRoom_X4_isRoom : GoodIn wsX4_nextRoom (wsV RX4 58 RX4 yX4_isRoom wsX4_isRoom) := goodIn_app (goodIn_of _ (by decide +kernel)) ggX4_nextRoom_X4_isRoom
set_option maxRecDepth 20000 in
theorem ggX4_nextRoom_Jx4a65c_get_915e3 : GoodIn wsX4_nextRoom wsJx4a65c_get_915e3 := goodIn_r _ [17, 13, 18, 19, 20, 21, 22, 23, 24, 25, 26, 27, 28, 11, 29, 30, 45, 46, 47] (by decide +kernel) (by decide +kernel)
set_option maxRecDepth 20000 in
theorem gX4_nextRoom_Jx4a65c_get_915e3 : GoodIn wsX4_nextRoom (wsV RX4 69 RJx4a65c yJx4a65c_get_915e3 wsJx4a65c_get_915e3) := goodIn_app (goodIn_of _ (by decide +kernel)) ggX4_nextRoom_Jx4a65c_get_915e3
set_option maxRecDepth 20000 in
theorem ggX4_nextRoom_Jx4a65c_size_8abf5 : GoodIn wsX4_nextRoom wsJx4a65c_size_8abf5 := goodIn_r _ [12, 13, 45, 46, 47] (by decide +kernel) (by decide +kernel)
set_option maxRecDepth 20000 in
theorem gX4_nextRoom_Jx4a65c_size_8abf5 : GoodIn wsX4_nextRoom (wsV RX4 40 RJx4a65c yJx4a65c_size_8abf5 wsJx4a65c_size_8abf5) := goodIn_app (goodIn_of _ (by decide +kernel)) ggX4_nextRoom_Jx4a65c_size_8abf5
set_option maxRecDepth 20000 in
theorem ggX4_nextRoom_X2_leadsTo : GoodIn wsX4_nextRoom wsX2_leadsTo := goodIn_r _ [35, 36, 48, 49, 50, 51, 52, 53] (by decide +kernel) (by decide +kernel)
set_option maxRecDepth 20000 in
theorem gX4_nextRoom_X2_leadsTo : GoodIn wsX4_nextRoom (wsV RX4 73 RX2 yX2_leadsTo wsX2_leadsTo) := goodIn_app (goodIn_of _ (by decide +kernel)) ggX4_nextRoom_X2_leadsTo
theorem dX4_nextRoom_0 : decode cX4_nextRoom 0 = .ok (.aload_n 0, 1) := by decide +kernel
theorem dX4_nextRoom_1 : decode cX4_nextRoom 1 = .ok (.iload_n 1, 1) := by decide +kernel
theorem dX4_nextRoom_2 : decode cX4_nextRoom 2 = .ok (.invokevirtual 58, 3) := by decide +kernel
theorem dX4_nextRoom_5 : decode cX4_nextRoom 5 = .ok (.ifCond .ne 5, 3) := by decide +kernel
theorem dX4_nextRoom_8 : decode cX4_nextRoom 8 = .ok (.iload_n 1, 1) := by decide +kernel
theorem dX4_nextRoom_9 : decode cX4_nextRoom 9 = .ok (.ireturn, 1) := by decide +kernel
theorem dX4_nextRoom_10 : decode cX4_nextRoom 10 = .ok (.aload_n 0, 1) := by decide +kernel
theorem dX4_nextRoom_11 : decode cX4_nextRoom 11 = .ok (.getfield 10, 3) := by decide +kernel
theorem dX4_nextRoom_14 : decode cX4_nextRoom 14 = .ok (.iload_n 1, 1) := by decide +kernel
theorem dX4_nextRoom_15 : decode cX4_nextRoom 15 = .ok (.invokevirtual 69, 3) := by decide +kernel
theorem dX4_nextRoom_18 : decode cX4_nextRoom 18 = .ok (.checkcast 49, 3) := by decide +kernel
theorem dX4_nextRoom_21 : decode cX4_nextRoom 21 = .ok (.astore_n 2, 1) := by decide +kernel
theorem dX4_nextRoom_22 : decode cX4_nextRoom 22 = .ok (.iconst (-1), 1) := by decide +kernel
theorem dX4_nextRoom_23 : decode cX4_nextRoom 23 = .ok (.istore_n 3, 1) := by decide +kernel
theorem dX4_nextRoom_24 : decode cX4_nextRoom 24 = .ok (.iconst 0, 1) := by decide +kernel
theorem dX4_nextRoom_25 : decode cX4_nextRoom 25 = .ok (.istore 4, 2) := by decide +kernel
theorem dX4_nextRoom_27 : decode cX4_nextRoom 27 = .ok (.iload 4, 2) := by decide +kernel
theorem dX4_nextRoom_29 : decode cX4_nextRoom 29 = .ok (.aload_n 0, 1) := by decide +kernel
theorem dX4_nextRoom_30 : decode cX4_nextRoom 30 = .ok (.getfield 10, 3) := by decide +kernel
theorem dX4_nextRoom_33 : decode cX4_nextRoom 33 = .ok (.invokevirtual 40, 3) := by decide +kernel
theorem dX4_nextRoom_36 : decode cX4_nextRoom 36 = .ok (.if_icmp .ge 35, 3) := by decide +kernel
theorem dX4_nextRoom_39 : decode cX4_nextRoom 39 = .ok (.aload_n 2, 1) := by decide +kernel
theorem dX4_nextRoom_40 : decode cX4_nextRoom 40 = .ok (.iload 4, 2) := by decide +kernel
theorem dX4_nextRoom_42 : decode cX4_nextRoom 42 = .ok (.invokevirtual 73, 3) := by decide +kernel
theorem dX4_nextRoom_45 : decode cX4_nextRoom 45 = .ok (.ifCond .eq 20, 3) := by decide +kernel
theorem dX4_nextRoom_48 : decode cX4_nextRoom 48 = .ok (.iload 4, 2) := by decide +kernel
theorem dX4_nextRoom_50 : decode cX4_nextRoom 50 = .ok (.iload_n 1, 1) := by decide +kernel
theorem dX4_nextRoom_51 : decode cX4_nextRoom 51 = .ok (.if_icmp .le 6, 3) := by decide +kernel
theorem dX4_nextRoom_54 : decode cX4_nextRoom 54 = .ok (.iload 4, 2) := by decide +kernel
theorem dX4_nextRoom_56 : decode cX4_nextRoom 56 = .ok (.ireturn, 1) := by decide +kernel
theorem dX4_nextRoom_57 : decode cX4_nextRoom 57 = .ok (.iload_n 3, 1) := by decide +kernel
theorem dX4_nextRoom_58 : decode cX4_nextRoom 58 = .ok (.iconst (-1), 1) := by decide +kernel
theorem dX4_nextRoom_59 : decode cX4_nextRoom 59 = .ok (.if_icmp .ne 6, 3) := by decide +kernel
theorem dX4_nextRoom_62 : decode cX4_nextRoom 62 = .ok (.iload 4, 2) := by decide +kernel
theorem dX4_nextRoom_64 : decode cX4_nextRoom 64 = .ok (.istore_n 3, 1) := by decide +kernel
theorem dX4_nextRoom_65 : decode cX4_nextRoom 65 = .ok (.iinc 4 1, 3) := by decide +kernel
theorem dX4_nextRoom_68 : decode cX4_nextRoom 68 = .ok (.goto (-41), 3) := by decide +kernel
theorem dX4_nextRoom_71 : decode cX4_nextRoom 71 = .ok (.iload_n 3, 1) := by decide +kernel
theorem dX4_nextRoom_72 : decode cX4_nextRoom 72 = .ok (.iconst (-1), 1) := by decide +kernel
theorem dX4_nextRoom_73 : decode cX4_nextRoom 73 = .ok (.if_icmp .ne 7, 3) := by decide +kernel
theorem dX4_nextRoom_76 : decode cX4_nextRoom 76 = .ok (.iload_n 1, 1) := by decide +kernel
theorem dX4_nextRoom_77 : decode cX4_nextRoom 77 = .ok (.goto 4, 3) := by decide +kernel
theorem dX4_nextRoom_80 : decode cX4_nextRoom 80 = .ok (.iload_n 3, 1) := by decide +kernel
theorem dX4_nextRoom_81 : decode cX4_nextRoom 81 = .ok (.ireturn, 1) := by decide +kernel
set_option maxRecDepth 20000 in
theorem ggX4_hauntingInHour_Jx4a65c_size_8abf5 : GoodIn wsX4_hauntingInHour wsJx4a65c_size_8abf5 := goodIn_r _ [8, 9, 46, 47, 48] (by decide +kernel) (by decide +kernel)
set_option maxRecDepth 20000 in
theorem gX4_hauntingInHour_Jx4a65c_size_8abf5 : GoodIn wsX4_hauntingInHour (wsV RX4 40 RJx4a65c yJx4a65c_size_8abf5 wsJx4a65c_size_8abf5) := goodIn_app (goodIn_of _ (by decide +kernel)) ggX4_hauntingInHour_Jx4a65c_size_8abf5
set_option maxRecDepth 20000 in
theorem ggX4_hauntingInHour_Jx4a65c_get_915e3 : GoodIn wsX4_hauntingInHour wsJx4a65c_get_915e3 := goodIn_r _ [13, 9, 14, 15, 16, 17, 18, 19, 20, 21, 22, 23, 24, 7, 25, 26, 46, 47, 48] (by decide +kernel) (by decide +kernel)
set_option maxRecDepth 20000 in
theorem gX4_hauntingInHour_Jx4a65c_get_915e3 : GoodIn wsX4_hauntingInHour (wsV RX4 69 RJx4a65c yJx4a65c_get_915e3 wsJx4a65c_get_915e3) := goodIn_app (goodIn_of _ (by decide +kernel)) ggX4_hauntingInHour_Jx4a65c_get_915e3
set_option maxRecDepth 20000 in
theorem ggX4_hauntingInHour_X0_placeIn : GoodIn wsX4_hauntingInHour wsX0_placeIn := goodIn_r _ [31, 32, 41, 42, 43, 44, 45] (by decide +kernel) (by decide +kernel)
set_option maxRecDepth 20000 in
theorem gX4_hauntingInHour_X0_placeIn : GoodIn wsX4_hauntingInHour (wsV RX4 109 RX0 yX0_placeIn wsX0_placeIn) := goodIn_app (goodIn_of _ (by decide +kernel)) ggX4_hauntingInHour_X0_placeIn
theorem dX4_hauntingInHour_0 : decode cX4_hauntingInHour 0 = .ok (.iconst 0, 1) := by decide +kernel
theorem dX4_hauntingInHour_1 : decode cX4_hauntingInHour 1 = .ok (.istore 4, 2) := by decide +kernel
theorem dX4_hauntingInHour_3 : decode cX4_hauntingInHour 3 = .ok (.iconst 0, 1) := by decide +kernel
theorem dX4_hauntingInHour_4 : decode cX4_hauntingInHour 4 = .ok (.istore 5, 2) := by decide +kernel
theorem dX4_hauntingInHour_6 : decode cX4_hauntingInHour 6 = .ok (.iload 5, 2) := by decide +kernel
theorem dX4_hauntingInHour_8 : decode cX4_hauntingInHour 8 = .ok (.aload_n 0, 1) := by decide +kernel
theorem dX4_hauntingInHour_9 : decode cX4_hauntingInHour 9 = .ok (.getfield 16, 3) := by decide +kernel
theorem dX4_hauntingInHour_12 : decode cX4_hauntingInHour 12 = .ok (.invokevirtual 40, 3) := by decide +kernel
theorem dX4_hauntingInHour_15 : decode cX4_hauntingInHour 15 = .ok (.if_icmp .ge 49, 3) := by decide +kernel
theorem dX4_hauntingInHour_18 : decode cX4_hauntingInHour 18 = .ok (.aload_n 0, 1) := by decide +kernel
theorem dX4_hauntingInHour_19 : decode cX4_hauntingInHour 19 = .ok (.getfield 16, 3) := by decide +kernel
theorem dX4_hauntingInHour_22 : decode cX4_hauntingInHour 22 = .ok (.iload 5, 2) := by decide +kernel
theorem dX4_hauntingInHour_24 : decode cX4_hauntingInHour 24 = .ok (.invokevirtual 69, 3) := by decide +kernel
theorem dX4_hauntingInHour_27 : decode cX4_hauntingInHour 27 = .ok (.checkcast 93, 3) := by decide +kernel
theorem dX4_hauntingInHour_30 : decode cX4_hauntingInHour 30 = .ok (.astore 6, 2) := by decide +kernel
theorem dX4_hauntingInHour_32 : decode cX4_hauntingInHour 32 = .ok (.iload 5, 2) := by decide +kernel
theorem dX4_hauntingInHour_34 : decode cX4_hauntingInHour 34 = .ok (.iload_n 3, 1) := by decide +kernel
theorem dX4_hauntingInHour_35 : decode cX4_hauntingInHour 35 = .ok (.if_icmp .eq 23, 3) := by decide +kernel
theorem dX4_hauntingInHour_38 : decode cX4_hauntingInHour 38 = .ok (.aload 6, 2) := by decide +kernel
theorem dX4_hauntingInHour_40 : decode cX4_hauntingInHour 40 = .ok (.iload_n 2, 1) := by decide +kernel
theorem dX4_hauntingInHour_41 : decode cX4_hauntingInHour 41 = .ok (.invokevirtual 109, 3) := by decide +kernel
theorem dX4_hauntingInHour_44 : decode cX4_hauntingInHour 44 = .ok (.iload_n 1, 1) := by decide +kernel
theorem dX4_hauntingInHour_45 : decode cX4_hauntingInHour 45 = .ok (.if_icmp .ne 13, 3) := by decide +kernel
theorem dX4_hauntingInHour_48 : decode cX4_hauntingInHour 48 = .ok (.iload 4, 2) := by decide +kernel
theorem dX4_hauntingInHour_50 : decode cX4_hauntingInHour 50 = .ok (.aload 6, 2) := by decide +kernel
theorem dX4_hauntingInHour_52 : decode cX4_hauntingInHour 52 = .ok (.getfield 275, 3) := by decide +kernel
theorem dX4_hauntingInHour_55 : decode cX4_hauntingInHour 55 = .ok (.iadd, 1) := by decide +kernel
theorem dX4_hauntingInHour_56 : decode cX4_hauntingInHour 56 = .ok (.istore 4, 2) := by decide +kernel
theorem dX4_hauntingInHour_58 : decode cX4_hauntingInHour 58 = .ok (.iinc 5 1, 3) := by decide +kernel
theorem dX4_hauntingInHour_61 : decode cX4_hauntingInHour 61 = .ok (.goto (-55), 3) := by decide +kernel
theorem dX4_hauntingInHour_64 : decode cX4_hauntingInHour 64 = .ok (.iload 4, 2) := by decide +kernel
theorem dX4_hauntingInHour_66 : decode cX4_hauntingInHour 66 = .ok (.ireturn, 1) := by decide +kernel
set_option maxRecDepth 20000 in
theorem ggX4_hauntingOfNight_X4_hauntingInHour : GoodIn wsX4_hauntingOfNight wsX4_hauntingInHour := goodIn_r _ [5, 6, 7, 8, 9, 10, 11, 12, 13, 14, 15, 16, 17, 18, 19, 20, 21, 22, 23, 24, 25, 26, 27, 28, 29, 30, 31, 32, 33, 34, 35, 36, 37, 38, 39, 40, 41, 42, 43, 44, 45, 46, 47, 48, 49, 50, 51, 52, 53] (by decide +kernel) (by decide +kernel)
set_option maxRecDepth 20000 in
theorem gX4_hauntingOfNight_X4_hauntingInHour : GoodIn wsX4_hauntingOfNight (wsV RX4 117 RX4 yX4_hauntingInHour wsX4_hauntingInHour) := goodIn_app (goodIn_of _ (by decide +kernel)) ggX4_hauntingOfNight_X4_hauntingInHour
theorem dX4_hauntingOfNight_0 : decode cX4_hauntingOfNight 0 = .ok (.iconst 0, 1) := by decide +kernel
theorem dX4_hauntingOfNight_1 : decode cX4_hauntingOfNight 1 = .ok (.istore_n 3, 1) := by decide +kernel
theorem dX4_hauntingOfNight_2 : decode cX4_hauntingOfNight 2 = .ok (.iconst 0, 1) := by decide +kernel
theorem dX4_hauntingOfNight_3 : decode cX4_hauntingOfNight 3 = .ok (.istore 4, 2) := by decide +kernel
theorem dX4_hauntingOfNight_5 : decode cX4_hauntingOfNight 5 = .ok (.iload 4, 2) := by decide +kernel
theorem dX4_hauntingOfNight_7 : decode cX4_hauntingOfNight 7 = .ok (.bipush 12, 2) := by decide +kernel
theorem dX4_hauntingOfNight_9 : decode cX4_hauntingOfNight 9 = .ok (.if_icmp .ge 20, 3) := by decide +kernel
theorem dX4_hauntingOfNight_12 : decode cX4_hauntingOfNight 12 = .ok (.iload_n 3, 1) := by decide +kernel
theorem dX4_hauntingOfNight_13 : decode cX4_hauntingOfNight 13 = .ok (.aload_n 0, 1) := by decide +kernel
theorem dX4_hauntingOfNight_14 : decode cX4_hauntingOfNight 14 = .ok (.iload_n 1, 1) := by decide +kernel
theorem dX4_hauntingOfNight_15 : decode cX4_hauntingOfNight 15 = .ok (.iload 4, 2) := by decide +kernel
theorem dX4_hauntingOfNight_17 : decode cX4_hauntingOfNight 17 = .ok (.iload_n 2, 1) := by decide +kernel
theorem dX4_hauntingOfNight_18 : decode cX4_hauntingOfNight 18 = .ok (.invokevirtual 117, 3) := by decide +kernel
theorem dX4_hauntingOfNight_21 : decode cX4_hauntingOfNight 21 = .ok (.iadd, 1) := by decide +kernel
theorem dX4_hauntingOfNight_22 : decode cX4_hauntingOfNight 22 = .ok (.istore_n 3, 1) := by decide +kernel
theorem dX4_hauntingOfNight_23 : decode cX4_hauntingOfNight 23 = .ok (.iinc 4 1, 3) := by decide +kernel
theorem dX4_hauntingOfNight_26 : decode cX4_hauntingOfNight 26 = .ok (.goto (-21), 3) := by decide +kernel
theorem dX4_hauntingOfNight_29 : decode cX4_hauntingOfNight 29 = .ok (.iload_n 3, 1) := by decide +kernel
theorem dX4_hauntingOfNight_30 : decode cX4_hauntingOfNight 30 = .ok (.ireturn, 1) := by decide +kernel
set_option maxRecDepth 20000 in
theorem ggX4_countsFor_X4_isRoom : GoodIn wsX4_countsFor wsX4_isRoom := goodIn_r _ [8, 2, 9, 10, 11, 12, 13, 14, 49, 50, 51, 52, 53, 54, 55, 56, 57, 58, 59] (by decide +kernel) (by decide +kernel)
set_option maxRecDepth 20000 in
theorem gX4_countsFor_X4_isRoom : GoodIn wsX4_countsFor (wsV RX4 58 RX4 yX4_isRoom wsX4_isRoom) := goodIn_app (goodIn_of _ (by decide +kernel)) ggX4_countsFor_X4_isRoom
set_option maxRecDepth 20000 in
theorem ggX4_countsFor_Jx4a65c_get_915e3 : GoodIn wsX4_countsFor wsJx4a65c_get_915e3 := goodIn_r _ [18, 14, 19, 20, 21, 22, 23, 24, 25, 26, 27, 28, 29, 12, 30, 31, 57, 58, 59] (by decide +kernel) (by decide +kernel)
set_option maxRecDepth 20000 in
theorem gX4_countsFor_Jx4a65c_get_915e3 : GoodIn wsX4_countsFor (wsV RX4 69 RJx4a65c yJx4a65c_get_915e3 wsJx4a65c_get_915e3) := goodIn_app (goodIn_of _ (by decide +kernel)) ggX4_countsFor_Jx4a65c_get_915e3
set_option maxRecDepth 20000 in
theorem ggX4_countsFor_X1_couldBidFor : GoodIn wsX4_countsFor wsX1_couldBidFor := goodIn_r _ [36, 37, 38, 39, 40, 41, 42, 43, 44, 45, 46, 47, 48, 60, 61, 62, 63, 64, 65] (by decide +kernel) (by decide +kernel)
set_option maxRecDepth 20000 in
theorem gX4_countsFor_X1_couldBidFor : GoodIn wsX4_countsFor (wsV RX4 159 RX1 yX1_couldBidFor wsX1_couldBidFor) := goodIn_app (goodIn_of _ (by decide +kernel)) ggX4_countsFor_X1_couldBidFor
theorem dX4_countsFor_0 : decode cX4_countsFor 0 = .ok (.aload_n 0, 1) := by decide +kernel
theorem dX4_countsFor_1 : decode cX4_countsFor 1 = .ok (.iload_n 2, 1) := by decide +kernel
theorem dX4_countsFor_2 : decode cX4_countsFor 2 = .ok (.invokevirtual 58, 3) := by decide +kernel
theorem dX4_countsFor_5 : decode cX4_countsFor 5 = .ok (.ifCond .eq 33, 3) := by decide +kernel
theorem dX4_countsFor_8 : decode cX4_countsFor 8 = .ok (.aload_n 1, 1) := by decide +kernel
theorem dX4_countsFor_9 : decode cX4_countsFor 9 = .ok (.getfield 163, 3) := by decide +kernel
theorem dX4_countsFor_12 : decode cX4_countsFor 12 = .ok (.iload_n 2, 1) := by decide +kernel
theorem dX4_countsFor_13 : decode cX4_countsFor 13 = .ok (.if_icmp .ne 25, 3) := by decide +kernel
theorem dX4_countsFor_16 : decode cX4_countsFor 16 = .ok (.aload_n 1, 1) := by decide +kernel
theorem dX4_countsFor_17 : decode cX4_countsFor 17 = .ok (.aload_n 0, 1) := by decide +kernel
theorem dX4_countsFor_18 : decode cX4_countsFor 18 = .ok (.getfield 10, 3) := by decide +kernel
theorem dX4_countsFor_21 : decode cX4_countsFor 21 = .ok (.iload_n 2, 1) := by decide +kernel
theorem dX4_countsFor_22 : decode cX4_countsFor 22 = .ok (.invokevirtual 69, 3) := by decide +kernel
theorem dX4_countsFor_25 : decode cX4_countsFor 25 = .ok (.checkcast 49, 3) := by decide +kernel
theorem dX4_countsFor_28 : decode cX4_countsFor 28 = .ok (.invokevirtual 159, 3) := by decide +kernel
theorem dX4_countsFor_31 : decode cX4_countsFor 31 = .ok (.ifCond .eq 7, 3) := by decide +kernel
theorem dX4_countsFor_34 : decode cX4_countsFor 34 = .ok (.iconst 1, 1) := by decide +kernel
theorem dX4_countsFor_35 : decode cX4_countsFor 35 = .ok (.goto 4, 3) := by decide +kernel
theorem dX4_countsFor_38 : decode cX4_countsFor 38 = .ok (.iconst 0, 1) := by decide +kernel
theorem dX4_countsFor_39 : decode cX4_countsFor 39 = .ok (.ireturn, 1) := by decide +kernel
set_option maxRecDepth 20000 in
theorem ggX4_winnerOf_Jx4a65c_size_8abf5 : GoodIn wsX4_winnerOf wsJx4a65c_size_8abf5 := goodIn_r _ [8, 9, 64, 65, 66] (by decide +kernel) (by decide +kernel)
set_option maxRecDepth 20000 in
theorem gX4_winnerOf_Jx4a65c_size_8abf5 : GoodIn wsX4_winnerOf (wsV RX4 40 RJx4a65c yJx4a65c_size_8abf5 wsJx4a65c_size_8abf5) := goodIn_app (goodIn_of _ (by decide +kernel)) ggX4_winnerOf_Jx4a65c_size_8abf5
set_option maxRecDepth 20000 in
theorem ggX4_winnerOf_Jx4a65c_get_915e3 : GoodIn wsX4_winnerOf wsJx4a65c_get_915e3 := goodIn_r _ [13, 9, 14, 15, 16, 17, 18, 19, 20, 21, 22, 23, 24, 7, 25, 26, 64, 65, 66] (by decide +kernel) (by decide +kernel)
set_option maxRecDepth 20000 in
theorem gX4_winnerOf_Jx4a65c_get_915e3 : GoodIn wsX4_winnerOf (wsV RX4 69 RJx4a65c yJx4a65c_get_915e3 wsJx4a65c_get_915e3) := goodIn_app (goodIn_of _ (by decide +kernel)) ggX4_winnerOf_Jx4a65c_get_915e3
set_option maxRecDepth 20000 in
theorem ggX4_winnerOf_X4_countsFor : GoodIn wsX4_winnerOf wsX4_countsFor := goodIn_r _ [31, 32, 33, 34, 35, 36, 37, 30, 38, 4, 5, 6, 7, 8, 9, 10, 11, 12, 13, 14, 15, 16, 17, 18, 19, 20, 21, 22, 23, 24, 25, 26, 39, 40, 41, 42, 43, 44, 45, 46, 47, 48, 57, 58, 59, 60, 61, 62, 63, 49, 50, 51, 52, 53, 54, 55, 56, 64, 65, 66, 67, 68, 69, 70, 71, 72] (by decide +kernel) (by decide +kernel)
set_option maxRecDepth 20000 in
theorem gX4_winnerOf_X4_countsFor : GoodIn wsX4_winnerOf (wsV RX4 278 RX4 yX4_countsFor wsX4_countsFor) := goodIn_app (goodIn_of _ (by decide +kernel)) ggX4_winnerOf_X4_countsFor
theorem dX4_winnerOf_0 : decode cX4_winnerOf 0 = .ok (.iconst (-1), 1) := by decide +kernel
theorem dX4_winnerOf_1 : decode cX4_winnerOf 1 = .ok (.istore_n 2, 1) := by decide +kernel
theorem dX4_winnerOf_2 : decode cX4_winnerOf 2 = .ok (.iconst 0, 1) := by decide +kernel
theorem dX4_winnerOf_3 : decode cX4_winnerOf 3 = .ok (.istore_n 3, 1) := by decide +kernel
theorem dX4_winnerOf_4 : decode cX4_winnerOf 4 = .ok (.iconst 0, 1) := by decide +kernel
theorem dX4_winnerOf_5 : decode cX4_winnerOf 5 = .ok (.istore 4, 2) := by decide +kernel
theorem dX4_winnerOf_7 : decode cX4_winnerOf 7 = .ok (.iload 4, 2) := by decide +kernel
theorem dX4_winnerOf_9 : decode cX4_winnerOf 9 = .ok (.aload_n 0, 1) := by decide +kernel
theorem dX4_winnerOf_10 : decode cX4_winnerOf 10 = .ok (.getfield 19, 3) := by decide +kernel
theorem dX4_winnerOf_13 : decode cX4_winnerOf 13 = .ok (.invokevirtual 40, 3) := by decide +kernel
theorem dX4_winnerOf_16 : decode cX4_winnerOf 16 = .ok (.if_icmp .ge 51, 3) := by decide +kernel
theorem dX4_winnerOf_19 : decode cX4_winnerOf 19 = .ok (.aload_n 0, 1) := by decide +kernel
theorem dX4_winnerOf_20 : decode cX4_winnerOf 20 = .ok (.getfield 19, 3) := by decide +kernel
theorem dX4_winnerOf_23 : decode cX4_winnerOf 23 = .ok (.iload 4, 2) := by decide +kernel
theorem dX4_winnerOf_25 : decode cX4_winnerOf 25 = .ok (.invokevirtual 69, 3) := by decide +kernel
theorem dX4_winnerOf_28 : decode cX4_winnerOf 28 = .ok (.checkcast 145, 3) := by decide +kernel
theorem dX4_winnerOf_31 : decode cX4_winnerOf 31 = .ok (.astore 5, 2) := by decide +kernel
theorem dX4_winnerOf_33 : decode cX4_winnerOf 33 = .ok (.aload_n 0, 1) := by decide +kernel
theorem dX4_winnerOf_34 : decode cX4_winnerOf 34 = .ok (.aload 5, 2) := by decide +kernel
theorem dX4_winnerOf_36 : decode cX4_winnerOf 36 = .ok (.iload_n 1, 1) := by decide +kernel
theorem dX4_winnerOf_37 : decode cX4_winnerOf 37 = .ok (.invokevirtual 278, 3) := by decide +kernel
theorem dX4_winnerOf_40 : decode cX4_winnerOf 40 = .ok (.ifCond .eq 21, 3) := by decide +kernel
theorem dX4_winnerOf_43 : decode cX4_winnerOf 43 = .ok (.aload 5, 2) := by decide +kernel
theorem dX4_winnerOf_45 : decode cX4_winnerOf 45 = .ok (.getfield 176, 3) := by decide +kernel
theorem dX4_winnerOf_48 : decode cX4_winnerOf 48 = .ok (.iload_n 3, 1) := by decide +kernel
theorem dX4_winnerOf_49 : decode cX4_winnerOf 49 = .ok (.if_icmp .le 12, 3) := by decide +kernel
theorem dX4_winnerOf_52 : decode cX4_winnerOf 52 = .ok (.iload 4, 2) := by decide +kernel
theorem dX4_winnerOf_54 : decode cX4_winnerOf 54 = .ok (.istore_n 2, 1) := by decide +kernel
theorem dX4_winnerOf_55 : decode cX4_winnerOf 55 = .ok (.aload 5, 2) := by decide +kernel
theorem dX4_winnerOf_57 : decode cX4_winnerOf 57 = .ok (.getfield 176, 3) := by decide +kernel
theorem dX4_winnerOf_60 : decode cX4_winnerOf 60 = .ok (.istore_n 3, 1) := by decide +kernel
theorem dX4_winnerOf_61 : decode cX4_winnerOf 61 = .ok (.iinc 4 1, 3) := by decide +kernel
theorem dX4_winnerOf_64 : decode cX4_winnerOf 64 = .ok (.goto (-57), 3) := by decide +kernel
theorem dX4_winnerOf_67 : decode cX4_winnerOf 67 = .ok (.iload_n 2, 1) := by decide +kernel
theorem dX4_winnerOf_68 : decode cX4_winnerOf 68 = .ok (.ireturn, 1) := by decide +kernel
set_option maxRecDepth 20000 in
theorem ggX4_dueFor_X4_isRoom : GoodIn wsX4_dueFor wsX4_isRoom := goodIn_r _ [15, 1, 16, 17, 18, 19, 20, 21, 54, 55, 56, 57, 58, 59, 60, 61, 75, 76, 77] (by decide +kernel) (by decide +kernel)
set_option maxRecDepth 20000 in
theorem gX4_dueFor_X4_isRoom : GoodIn wsX4_dueFor (wsV RX4 58 RX4 yX4_isRoom wsX4_isRoom) := goodIn_app (goodIn_of _ (by decide +kernel)) ggX4_dueFor_X4_isRoom
set_option maxRecDepth 20000 in
theorem ggX4_dueFor_Jx4a65c_get_915e3 : GoodIn wsX4_dueFor wsJx4a65c_get_915e3 := goodIn_r _ [25, 21, 26, 27, 28, 29, 30, 31, 32, 33, 34, 35, 36, 19, 37, 38, 75, 76, 77] (by decide +kernel) (by decide +kernel)
set_option maxRecDepth 20000 in
theorem gX4_dueFor_Jx4a65c_get_915e3 : GoodIn wsX4_dueFor (wsV RX4 69 RJx4a65c yJx4a65c_get_915e3 wsJx4a65c_get_915e3) := goodIn_app (goodIn_of _ (by decide +kernel)) ggX4_dueFor_Jx4a65c_get_915e3
set_option maxRecDepth 20000 in
theorem ggX4_dueFor_Jx4a65c_size_8abf5 : GoodIn wsX4_dueFor wsJx4a65c_size_8abf5 := goodIn_r _ [20, 21, 75, 76, 77] (by decide +kernel) (by decide +kernel)
set_option maxRecDepth 20000 in
theorem gX4_dueFor_Jx4a65c_size_8abf5 : GoodIn wsX4_dueFor (wsV RX4 40 RJx4a65c yJx4a65c_size_8abf5 wsJx4a65c_size_8abf5) := goodIn_app (goodIn_of _ (by decide +kernel)) ggX4_dueFor_Jx4a65c_size_8abf5
set_option maxRecDepth 20000 in
theorem ggX4_dueFor_X4_countsFor : GoodIn wsX4_dueFor wsX4_countsFor := goodIn_r _ [42, 43, 1, 2, 11, 12, 13, 14, 15, 16, 17, 18, 19, 20, 21, 22, 23, 24, 25, 26, 27, 28, 29, 30, 31, 32, 33, 34, 35, 36, 37, 38, 44, 45, 46, 47, 48, 49, 50, 51, 52, 53, 68, 69, 70, 71, 72, 73, 74, 54, 55, 56, 57, 58, 59, 60, 61, 75, 76, 77, 62, 63, 64, 65, 66, 67] (by decide +kernel) (by decide +kernel)
set_option maxRecDepth 20000 in
theorem gX4_dueFor_X4_countsFor : GoodIn wsX4_dueFor (wsV RX4 278 RX4 yX4_countsFor wsX4_countsFor) := goodIn_app (goodIn_of _ (by decide +kernel)) ggX4_dueFor_X4_countsFor
theorem dX4_dueFor_0 : decode cX4_dueFor 0 = .ok (.aload_n 0, 1) := by decide +kernel
theorem dX4_dueFor_1 : decode cX4_dueFor 1 = .ok (.iload_n 1, 1) := by decide +kernel
theorem dX4_dueFor_2 : decode cX4_dueFor 2 = .ok (.invokevirtual 58, 3) := by decide +kernel
theorem dX4_dueFor_5 : decode cX4_dueFor 5 = .ok (.ifCond .eq 8, 3) := by decide +kernel
theorem dX4_dueFor_8 : decode cX4_dueFor 8 = .ok (.iload_n 2, 1) := by decide +kernel
theorem dX4_dueFor_9 : decode cX4_dueFor 9 = .ok (.iconst (-1), 1) := by decide +kernel
theorem dX4_dueFor_10 : decode cX4_dueFor 10 = .ok (.if_icmp .ne 5, 3) := by decide +kernel
theorem dX4_dueFor_13 : decode cX4_dueFor 13 = .ok (.iconst 0, 1) := by decide +kernel
theorem dX4_dueFor_14 : decode cX4_dueFor 14 = .ok (.ireturn, 1) := by decide +kernel
theorem dX4_dueFor_15 : decode cX4_dueFor 15 = .ok (.aload_n 0, 1) := by decide +kernel
theorem dX4_dueFor_16 : decode cX4_dueFor 16 = .ok (.getfield 10, 3) := by decide +kernel
theorem dX4_dueFor_19 : decode cX4_dueFor 19 = .ok (.iload_n 1, 1) := by decide +kernel
theorem dX4_dueFor_20 : decode cX4_dueFor 20 = .ok (.invokevirtual 69, 3) := by decide +kernel
theorem dX4_dueFor_23 : decode cX4_dueFor 23 = .ok (.checkcast 49, 3) := by decide +kernel
theorem dX4_dueFor_26 : decode cX4_dueFor 26 = .ok (.getfield 127, 3) := by decide +kernel
theorem dX4_dueFor_29 : decode cX4_dueFor 29 = .ok (.istore_n 3, 1) := by decide +kernel
theorem dX4_dueFor_30 : decode cX4_dueFor 30 = .ok (.iconst 0, 1) := by decide +kernel
theorem dX4_dueFor_31 : decode cX4_dueFor 31 = .ok (.istore 4, 2) := by decide +kernel
theorem dX4_dueFor_33 : decode cX4_dueFor 33 = .ok (.iload 4, 2) := by decide +kernel
theorem dX4_dueFor_35 : decode cX4_dueFor 35 = .ok (.aload_n 0, 1) := by decide +kernel
theorem dX4_dueFor_36 : decode cX4_dueFor 36 = .ok (.getfield 19, 3) := by decide +kernel
theorem dX4_dueFor_39 : decode cX4_dueFor 39 = .ok (.invokevirtual 40, 3) := by decide +kernel
theorem dX4_dueFor_42 : decode cX4_dueFor 42 = .ok (.if_icmp .ge 49, 3) := by decide +kernel
theorem dX4_dueFor_45 : decode cX4_dueFor 45 = .ok (.aload_n 0, 1) := by decide +kernel
theorem dX4_dueFor_46 : decode cX4_dueFor 46 = .ok (.getfield 19, 3) := by decide +kernel
theorem dX4_dueFor_49 : decode cX4_dueFor 49 = .ok (.iload 4, 2) := by decide +kernel
theorem dX4_dueFor_51 : decode cX4_dueFor 51 = .ok (.invokevirtual 69, 3) := by decide +kernel
theorem dX4_dueFor_54 : decode cX4_dueFor 54 = .ok (.checkcast 145, 3) := by decide +kernel
theorem dX4_dueFor_57 : decode cX4_dueFor 57 = .ok (.astore 5, 2) := by decide +kernel
theorem dX4_dueFor_59 : decode cX4_dueFor 59 = .ok (.iload 4, 2) := by decide +kernel
theorem dX4_dueFor_61 : decode cX4_dueFor 61 = .ok (.iload_n 2, 1) := by decide +kernel
theorem dX4_dueFor_62 : decode cX4_dueFor 62 = .ok (.if_icmp .eq 23, 3) := by decide +kernel
theorem dX4_dueFor_65 : decode cX4_dueFor 65 = .ok (.aload_n 0, 1) := by decide +kernel
theorem dX4_dueFor_66 : decode cX4_dueFor 66 = .ok (.aload 5, 2) := by decide +kernel
theorem dX4_dueFor_68 : decode cX4_dueFor 68 = .ok (.iload_n 1, 1) := by decide +kernel
theorem dX4_dueFor_69 : decode cX4_dueFor 69 = .ok (.invokevirtual 278, 3) := by decide +kernel
theorem dX4_dueFor_72 : decode cX4_dueFor 72 = .ok (.ifCond .eq 13, 3) := by decide +kernel
theorem dX4_dueFor_75 : decode cX4_dueFor 75 = .ok (.iload_n 3, 1) := by decide +kernel
theorem dX4_dueFor_76 : decode cX4_dueFor 76 = .ok (.aload 5, 2) := by decide +kernel
theorem dX4_dueFor_78 : decode cX4_dueFor 78 = .ok (.getfield 176, 3) := by decide +kernel
theorem dX4_dueFor_81 : decode cX4_dueFor 81 = .ok (.invokestatic 282, 3) := by decide +kernel
theorem dX4_dueFor_84 : decode cX4_dueFor 84 = .ok (.istore_n 3, 1) := by decide +kernel
theorem dX4_dueFor_85 : decode cX4_dueFor 85 = .ok (.iinc 4 1, 3) := by decide +kernel
theorem dX4_dueFor_88 : decode cX4_dueFor 88 = .ok (.goto (-55), 3) := by decide +kernel
theorem dX4_dueFor_91 : decode cX4_dueFor 91 = .ok (.iload_n 3, 1) := by decide +kernel
theorem dX4_dueFor_92 : decode cX4_dueFor 92 = .ok (.ireturn, 1) := by decide +kernel
set_option maxRecDepth 20000 in
theorem ggX4_bidsThatCount_Jx4a65c_size_8abf5 : GoodIn wsX4_bidsThatCount wsJx4a65c_size_8abf5 := goodIn_r _ [7, 8, 56, 57, 58] (by decide +kernel) (by decide +kernel)
set_option maxRecDepth 20000 in
theorem gX4_bidsThatCount_Jx4a65c_size_8abf5 : GoodIn wsX4_bidsThatCount (wsV RX4 40 RJx4a65c yJx4a65c_size_8abf5 wsJx4a65c_size_8abf5) := goodIn_app (goodIn_of _ (by decide +kernel)) ggX4_bidsThatCount_Jx4a65c_size_8abf5
set_option maxRecDepth 20000 in
theorem ggX4_bidsThatCount_Jx4a65c_get_915e3 : GoodIn wsX4_bidsThatCount wsJx4a65c_get_915e3 := goodIn_r _ [12, 8, 13, 14, 15, 16, 17, 18, 19, 20, 21, 22, 23, 6, 24, 25, 56, 57, 58] (by decide +kernel) (by decide +kernel)
set_option maxRecDepth 20000 in
theorem gX4_bidsThatCount_Jx4a65c_get_915e3 : GoodIn wsX4_bidsThatCount (wsV RX4 69 RJx4a65c yJx4a65c_get_915e3 wsJx4a65c_get_915e3) := goodIn_app (goodIn_of _ (by decide +kernel)) ggX4_bidsThatCount_Jx4a65c_get_915e3
set_option maxRecDepth 20000 in
theorem ggX4_bidsThatCount_X4_countsFor : GoodIn wsX4_bidsThatCount wsX4_countsFor := goodIn_r _ [30, 31, 32, 33, 34, 35, 36, 29, 37, 3, 4, 5, 6, 7, 8, 9, 10, 11, 12, 13, 14, 15, 16, 17, 18, 19, 20, 21, 22, 23, 24, 25, 38, 39, 40, 41, 42, 43, 44, 45, 46, 47, 59, 60, 61, 62, 63, 64, 65, 48, 49, 50, 51, 52, 53, 54, 55, 56, 57, 58, 66, 67, 68, 69, 70, 71] (by decide +kernel) (by decide +kernel)
set_option maxRecDepth 20000 in
theorem gX4_bidsThatCount_X4_countsFor : GoodIn wsX4_bidsThatCount (wsV RX4 278 RX4 yX4_countsFor wsX4_countsFor) := goodIn_app (goodIn_of _ (by decide +kernel)) ggX4_bidsThatCount_X4_countsFor
theorem dX4_bidsThatCount_0 : decode cX4_bidsThatCount 0 = .ok (.iconst 0, 1) := by decide +kernel
theorem dX4_bidsThatCount_1 : decode cX4_bidsThatCount 1 = .ok (.istore_n 2, 1) := by decide +kernel
theorem dX4_bidsThatCount_2 : decode cX4_bidsThatCount 2 = .ok (.iconst 0, 1) := by decide +kernel
theorem dX4_bidsThatCount_3 : decode cX4_bidsThatCount 3 = .ok (.istore_n 3, 1) := by decide +kernel
theorem dX4_bidsThatCount_4 : decode cX4_bidsThatCount 4 = .ok (.iload_n 3, 1) := by decide +kernel
theorem dX4_bidsThatCount_5 : decode cX4_bidsThatCount 5 = .ok (.aload_n 0, 1) := by decide +kernel
theorem dX4_bidsThatCount_6 : decode cX4_bidsThatCount 6 = .ok (.getfield 19, 3) := by decide +kernel
theorem dX4_bidsThatCount_9 : decode cX4_bidsThatCount 9 = .ok (.invokevirtual 40, 3) := by decide +kernel
theorem dX4_bidsThatCount_12 : decode cX4_bidsThatCount 12 = .ok (.if_icmp .ge 31, 3) := by decide +kernel
theorem dX4_bidsThatCount_15 : decode cX4_bidsThatCount 15 = .ok (.aload_n 0, 1) := by decide +kernel
theorem dX4_bidsThatCount_16 : decode cX4_bidsThatCount 16 = .ok (.aload_n 0, 1) := by decide +kernel
theorem dX4_bidsThatCount_17 : decode cX4_bidsThatCount 17 = .ok (.getfield 19, 3) := by decide +kernel
theorem dX4_bidsThatCount_20 : decode cX4_bidsThatCount 20 = .ok (.iload_n 3, 1) := by decide +kernel
theorem dX4_bidsThatCount_21 : decode cX4_bidsThatCount 21 = .ok (.invokevirtual 69, 3) := by decide +kernel
theorem dX4_bidsThatCount_24 : decode cX4_bidsThatCount 24 = .ok (.checkcast 145, 3) := by decide +kernel
theorem dX4_bidsThatCount_27 : decode cX4_bidsThatCount 27 = .ok (.iload_n 1, 1) := by decide +kernel
theorem dX4_bidsThatCount_28 : decode cX4_bidsThatCount 28 = .ok (.invokevirtual 278, 3) := by decide +kernel
theorem dX4_bidsThatCount_31 : decode cX4_bidsThatCount 31 = .ok (.ifCond .eq 6, 3) := by decide +kernel
theorem dX4_bidsThatCount_34 : decode cX4_bidsThatCount 34 = .ok (.iinc 2 1, 3) := by decide +kernel
theorem dX4_bidsThatCount_37 : decode cX4_bidsThatCount 37 = .ok (.iinc 3 1, 3) := by decide +kernel
theorem dX4_bidsThatCount_40 : decode cX4_bidsThatCount 40 = .ok (.goto (-36), 3) := by decide +kernel
theorem dX4_bidsThatCount_43 : decode cX4_bidsThatCount 43 = .ok (.iload_n 2, 1) := by decide +kernel
theorem dX4_bidsThatCount_44 : decode cX4_bidsThatCount 44 = .ok (.ireturn, 1) := by decide +kernel
set_option maxRecDepth 20000 in
theorem ggX4_bidsWritten_Jx4a65c_size_8abf5 : GoodIn wsX4_bidsWritten wsJx4a65c_size_8abf5 := goodIn_r _ [7, 8, 40, 41, 42] (by decide +kernel) (by decide +kernel)
set_option maxRecDepth 20000 in
theorem gX4_bidsWritten_Jx4a65c_size_8abf5 : GoodIn wsX4_bidsWritten (wsV RX4 40 RJx4a65c yJx4a65c_size_8abf5 wsJx4a65c_size_8abf5) := goodIn_app (goodIn_of _ (by decide +kernel)) ggX4_bidsWritten_Jx4a65c_size_8abf5
set_option maxRecDepth 20000 in
theorem ggX4_bidsWritten_Jx4a65c_get_915e3 : GoodIn wsX4_bidsWritten wsJx4a65c_get_915e3 := goodIn_r _ [12, 8, 13, 14, 15, 16, 17, 18, 19, 20, 21, 22, 23, 6, 24, 25, 40, 41, 42] (by decide +kernel) (by decide +kernel)
set_option maxRecDepth 20000 in
theorem gX4_bidsWritten_Jx4a65c_get_915e3 : GoodIn wsX4_bidsWritten (wsV RX4 69 RJx4a65c yJx4a65c_get_915e3 wsJx4a65c_get_915e3) := goodIn_app (goodIn_of _ (by decide +kernel)) ggX4_bidsWritten_Jx4a65c_get_915e3
set_option maxRecDepth 20000 in
theorem ggX4_bidsWritten_X1_hasBid : GoodIn wsX4_bidsWritten wsX1_hasBid := goodIn_r _ [30, 31, 43, 44, 45, 46, 47, 48, 49] (by decide +kernel) (by decide +kernel)
set_option maxRecDepth 20000 in
theorem gX4_bidsWritten_X1_hasBid : GoodIn wsX4_bidsWritten (wsV RX4 287 RX1 yX1_hasBid wsX1_hasBid) := goodIn_app (goodIn_of _ (by decide +kernel)) ggX4_bidsWritten_X1_hasBid
theorem dX4_bidsWritten_0 : decode cX4_bidsWritten 0 = .ok (.iconst 0, 1) := by decide +kernel
theorem dX4_bidsWritten_1 : decode cX4_bidsWritten 1 = .ok (.istore_n 1, 1) := by decide +kernel
theorem dX4_bidsWritten_2 : decode cX4_bidsWritten 2 = .ok (.iconst 0, 1) := by decide +kernel
theorem dX4_bidsWritten_3 : decode cX4_bidsWritten 3 = .ok (.istore_n 2, 1) := by decide +kernel
theorem dX4_bidsWritten_4 : decode cX4_bidsWritten 4 = .ok (.iload_n 2, 1) := by decide +kernel
theorem dX4_bidsWritten_5 : decode cX4_bidsWritten 5 = .ok (.aload_n 0, 1) := by decide +kernel
theorem dX4_bidsWritten_6 : decode cX4_bidsWritten 6 = .ok (.getfield 19, 3) := by decide +kernel
theorem dX4_bidsWritten_9 : decode cX4_bidsWritten 9 = .ok (.invokevirtual 40, 3) := by decide +kernel
theorem dX4_bidsWritten_12 : decode cX4_bidsWritten 12 = .ok (.if_icmp .ge 29, 3) := by decide +kernel
theorem dX4_bidsWritten_15 : decode cX4_bidsWritten 15 = .ok (.aload_n 0, 1) := by decide +kernel
theorem dX4_bidsWritten_16 : decode cX4_bidsWritten 16 = .ok (.getfield 19, 3) := by decide +kernel
theorem dX4_bidsWritten_19 : decode cX4_bidsWritten 19 = .ok (.iload_n 2, 1) := by decide +kernel
theorem dX4_bidsWritten_20 : decode cX4_bidsWritten 20 = .ok (.invokevirtual 69, 3) := by decide +kernel
theorem dX4_bidsWritten_23 : decode cX4_bidsWritten 23 = .ok (.checkcast 145, 3) := by decide +kernel
theorem dX4_bidsWritten_26 : decode cX4_bidsWritten 26 = .ok (.invokevirtual 287, 3) := by decide +kernel
theorem dX4_bidsWritten_29 : decode cX4_bidsWritten 29 = .ok (.ifCond .eq 6, 3) := by decide +kernel
theorem dX4_bidsWritten_32 : decode cX4_bidsWritten 32 = .ok (.iinc 1 1, 3) := by decide +kernel
theorem dX4_bidsWritten_35 : decode cX4_bidsWritten 35 = .ok (.iinc 2 1, 3) := by decide +kernel
theorem dX4_bidsWritten_38 : decode cX4_bidsWritten 38 = .ok (.goto (-34), 3) := by decide +kernel
theorem dX4_bidsWritten_41 : decode cX4_bidsWritten 41 = .ok (.iload_n 1, 1) := by decide +kernel
theorem dX4_bidsWritten_42 : decode cX4_bidsWritten 42 = .ok (.ireturn, 1) := by decide +kernel
set_option maxRecDepth 20000 in
theorem ggX4_roomsToLet_Jx4a65c_size_8abf5 : GoodIn wsX4_roomsToLet wsJx4a65c_size_8abf5 := goodIn_r _ [6, 7, 61, 62, 63] (by decide +kernel) (by decide +kernel)
set_option maxRecDepth 20000 in
theorem gX4_roomsToLet_Jx4a65c_size_8abf5 : GoodIn wsX4_roomsToLet (wsV RX4 40 RJx4a65c yJx4a65c_size_8abf5 wsJx4a65c_size_8abf5) := goodIn_app (goodIn_of _ (by decide +kernel)) ggX4_roomsToLet_Jx4a65c_size_8abf5
set_option maxRecDepth 20000 in
theorem ggX4_roomsToLet_X4_winnerOf : GoodIn wsX4_roomsToLet wsX4_winnerOf := goodIn_r _ [12, 13, 14, 15, 2, 3, 4, 5, 6, 7, 16, 17, 18, 19, 20, 21, 22, 23, 24, 25, 26, 27, 28, 29, 30, 31, 32, 33, 34, 35, 11, 36, 37, 1, 38, 39, 40, 41, 42, 43, 44, 45, 46, 47, 48, 49, 50, 51, 52, 53, 54, 55, 56, 57, 58, 59, 60, 64, 65, 66, 67, 68, 69, 70, 61, 62, 63, 71, 72, 73, 74, 75, 76] (by decide +kernel) (by decide +kernel)
set_option maxRecDepth 20000 in
theorem gX4_roomsToLet_X4_winnerOf : GoodIn wsX4_roomsToLet (wsV RX4 187 RX4 yX4_winnerOf wsX4_winnerOf) := goodIn_app (goodIn_of _ (by decide +kernel)) ggX4_roomsToLet_X4_winnerOf
theorem dX4_roomsToLet_0 : decode cX4_roomsToLet 0 = .ok (.iconst 0, 1) := by decide +kernel
theorem dX4_roomsToLet_1 : decode cX4_roomsToLet 1 = .ok (.istore_n 1, 1) := by decide +kernel
theorem dX4_roomsToLet_2 : decode cX4_roomsToLet 2 = .ok (.iconst 0, 1) := by decide +kernel
theorem dX4_roomsToLet_3 : decode cX4_roomsToLet 3 = .ok (.istore_n 2, 1) := by decide +kernel
theorem dX4_roomsToLet_4 : decode cX4_roomsToLet 4 = .ok (.iload_n 2, 1) := by decide +kernel
theorem dX4_roomsToLet_5 : decode cX4_roomsToLet 5 = .ok (.aload_n 0, 1) := by decide +kernel
theorem dX4_roomsToLet_6 : decode cX4_roomsToLet 6 = .ok (.getfield 10, 3) := by decide +kernel
theorem dX4_roomsToLet_9 : decode cX4_roomsToLet 9 = .ok (.invokevirtual 40, 3) := by decide +kernel
theorem dX4_roomsToLet_12 : decode cX4_roomsToLet 12 = .ok (.if_icmp .ge 21, 3) := by decide +kernel
theorem dX4_roomsToLet_15 : decode cX4_roomsToLet 15 = .ok (.aload_n 0, 1) := by decide +kernel
theorem dX4_roomsToLet_16 : decode cX4_roomsToLet 16 = .ok (.iload_n 2, 1) := by decide +kernel
theorem dX4_roomsToLet_17 : decode cX4_roomsToLet 17 = .ok (.invokevirtual 187, 3) := by decide +kernel
theorem dX4_roomsToLet_20 : decode cX4_roomsToLet 20 = .ok (.iconst (-1), 1) := by decide +kernel
theorem dX4_roomsToLet_21 : decode cX4_roomsToLet 21 = .ok (.if_icmp .eq 6, 3) := by decide +kernel
theorem dX4_roomsToLet_24 : decode cX4_roomsToLet 24 = .ok (.iinc 1 1, 3) := by decide +kernel
theorem dX4_roomsToLet_27 : decode cX4_roomsToLet 27 = .ok (.iinc 2 1, 3) := by decide +kernel
theorem dX4_roomsToLet_30 : decode cX4_roomsToLet 30 = .ok (.goto (-26), 3) := by decide +kernel
theorem dX4_roomsToLet_33 : decode cX4_roomsToLet 33 = .ok (.iload_n 1, 1) := by decide +kernel
theorem dX4_roomsToLet_34 : decode cX4_roomsToLet 34 = .ok (.ireturn, 1) := by decide +kernel
set_option maxRecDepth 20000 in
theorem ggX4_letRoom_X4_winnerOf : GoodIn wsX4_letRoom wsX4_winnerOf := goodIn_r _ [11, 3, 4, 12, 13, 14, 15, 16, 17, 18, 19, 20, 21, 22, 23, 24, 25, 26, 27, 28, 29, 30, 31, 32, 33, 34, 35, 36, 37, 38, 10, 39, 40, 1, 2, 41, 42, 43, 44, 45, 46, 47, 48, 49, 50, 51, 52, 53, 54, 115, 116, 117, 118, 119, 120, 121, 122, 123, 124, 125, 126, 127, 128, 129, 130, 131, 132, 133, 134, 135, 136, 137, 138] (by decide +kernel) (by decide +kernel)
set_option maxRecDepth 20000 in
theorem gX4_letRoom_X4_winnerOf : GoodIn wsX4_letRoom (wsV RX4 187 RX4 yX4_winnerOf wsX4_winnerOf) := goodIn_app (goodIn_of _ (by decide +kernel)) ggX4_letRoom_X4_winnerOf
set_option maxRecDepth 20000 in
theorem ggX4_letRoom_X4_isRoom : GoodIn wsX4_letRoom wsX4_isRoom := goodIn_r _ [44, 1, 13, 14, 15, 16, 17, 18, 115, 116, 117, 118, 119, 120, 121, 122, 130, 131, 132] (by decide +kernel) (by decide +kernel)
set_option maxRecDepth 20000 in
theorem gX4_letRoom_X4_isRoom : GoodIn wsX4_letRoom (wsV RX4 58 RX4 yX4_isRoom wsX4_isRoom) := goodIn_app (goodIn_of _ (by decide +kernel)) ggX4_letRoom_X4_isRoom
set_option maxRecDepth 20000 in
theorem ggX4_letRoom_X4_isGuest : GoodIn wsX4_letRoom wsX4_isGuest := goodIn_r _ [58, 3, 13, 14, 15, 16, 17, 18, 115, 116, 117, 118, 119, 120, 121, 122, 130, 131, 132] (by decide +kernel) (by decide +kernel)
set_option maxRecDepth 20000 in
theorem gX4_letRoom_X4_isGuest : GoodIn wsX4_letRoom (wsV RX4 148 RX4 yX4_isGuest wsX4_isGuest) := goodIn_app (goodIn_of _ (by decide +kernel)) ggX4_letRoom_X4_isGuest
set_option maxRecDepth 20000 in
theorem ggX4_letRoom_Jx4a65c_get_915e3 : GoodIn wsX4_letRoom wsJx4a65c_get_915e3 := goodIn_r _ [22, 18, 23, 24, 25, 26, 27, 28, 29, 30, 31, 32, 33, 16, 34, 35, 130, 131, 132] (by decide +kernel) (by decide +kernel)
set_option maxRecDepth 20000 in
theorem gX4_letRoom_Jx4a65c_get_915e3 : GoodIn wsX4_letRoom (wsV RX4 69 RJx4a65c yJx4a65c_get_915e3 wsJx4a65c_get_915e3) := goodIn_app (goodIn_of _ (by decide +kernel)) ggX4_letRoom_Jx4a65c_get_915e3
set_option maxRecDepth 20000 in
theorem ggX4_letRoom_X4_hauntingOfNight : GoodIn wsX4_letRoom wsX4_hauntingOfNight := goodIn_r _ [62, 63, 64, 65, 10, 66, 67, 68, 69, 13, 14, 15, 16, 17, 18, 19, 20, 21, 22, 23, 24, 25, 26, 27, 28, 29, 30, 31, 32, 33, 34, 35, 70, 71, 72, 73, 74, 75, 115, 116, 117, 118, 119, 120, 121, 122, 139, 140, 141, 142, 143, 130, 131, 132] (by decide +kernel) (by decide +kernel)
set_option maxRecDepth 20000 in
theorem gX4_letRoom_X4_hauntingOfNight : GoodIn wsX4_letRoom (wsV RX4 113 RX4 yX4_hauntingOfNight wsX4_hauntingOfNight) := goodIn_app (goodIn_of _ (by decide +kernel)) ggX4_letRoom_X4_hauntingOfNight
set_option maxRecDepth 20000 in
theorem ggX4_letRoom_X4_dueFor : GoodIn wsX4_letRoom wsX4_dueFor := goodIn_r _ [79, 1, 2, 80, 3, 4, 12, 81, 82, 83, 84, 41, 42, 43, 10, 44, 13, 14, 15, 16, 17, 18, 19, 20, 21, 22, 23, 24, 25, 26, 27, 28, 29, 30, 31, 32, 33, 34, 35, 36, 37, 38, 39, 40, 45, 46, 47, 48, 49, 50, 51, 52, 53, 54, 115, 116, 117, 118, 119, 120, 121, 122, 133, 134, 135, 136, 137, 138, 123, 124, 125, 126, 127, 128, 129, 130, 131, 132] (by decide +kernel) (by decide +kernel)
set_option maxRecDepth 20000 in
theorem gX4_letRoom_X4_dueFor : GoodIn wsX4_letRoom (wsV RX4 190 RX4 yX4_dueFor wsX4_dueFor) := goodIn_app (goodIn_of _ (by decide +kernel)) ggX4_letRoom_X4_dueFor
set_option maxRecDepth 20000 in
theorem ggX4_letRoom_X1_isUpsetBy : GoodIn wsX4_letRoom wsX1_isUpsetBy := goodIn_r _ [88, 89, 90, 91, 92, 48, 93, 123, 124, 125, 126, 127, 128, 129] (by decide +kernel) (by decide +kernel)
set_option maxRecDepth 20000 in
theorem gX4_letRoom_X1_isUpsetBy : GoodIn wsX4_letRoom (wsV RX4 216 RX1 yX1_isUpsetBy wsX1_isUpsetBy) := goodIn_app (goodIn_of _ (by decide +kernel)) ggX4_letRoom_X1_isUpsetBy
set_option maxRecDepth 20000 in
theorem ggX4_letRoom_X1_isFrightenedBy : GoodIn wsX4_letRoom wsX1_isFrightenedBy := goodIn_r _ [93, 89, 123, 124, 125, 126, 127, 128, 129] (by decide +kernel) (by decide +kernel)
set_option maxRecDepth 20000 in
theorem gX4_letRoom_X1_isFrightenedBy : GoodIn wsX4_letRoom (wsV RX4 291 RX1 yX1_isFrightenedBy wsX1_isFrightenedBy) := goodIn_app (goodIn_of _ (by decide +kernel)) ggX4_letRoom_X1_isFrightenedBy
set_option maxRecDepth 20000 in
theorem ggX4_letRoom_X2_wasLet : GoodIn wsX4_letRoom wsX2_wasLet := goodIn_r _ [99, 100, 101, 102, 103, 82, 83, 84, 133, 134, 135, 136, 137, 138] (by decide +kernel) (by decide +kernel)
set_option maxRecDepth 20000 in
theorem gX4_letRoom_X2_wasLet : GoodIn wsX4_letRoom (wsV RX4 294 RX2 yX2_wasLet wsX2_wasLet) := goodIn_app (goodIn_of _ (by decide +kernel)) ggX4_letRoom_X2_wasLet
set_option maxRecDepth 20000 in
theorem ggX4_letRoom_X1_stayed : GoodIn wsX4_letRoom wsX1_stayed := goodIn_r _ [107, 50, 108, 109, 89, 110, 82, 83, 84, 111, 112, 113, 114, 86, 87, 48, 88, 90, 91, 92, 93, 123, 124, 125, 126, 127, 128, 129] (by decide +kernel) (by decide +kernel)
set_option maxRecDepth 20000 in
theorem gX4_letRoom_X1_stayed : GoodIn wsX4_letRoom (wsV RX4 298 RX1 yX1_stayed wsX1_stayed) := goodIn_app (goodIn_of _ (by decide +kernel)) ggX4_letRoom_X1_stayed
theorem dX4_letRoom_0 : decode cX4_letRoom 0 = .ok (.aload_n 0, 1) := by decide +kernel
theorem dX4_letRoom_1 : decode cX4_letRoom 1 = .ok (.iload_n 1, 1) := by decide +kernel
theorem dX4_letRoom_2 : decode cX4_letRoom 2 = .ok (.invokevirtual 187, 3) := by decide +kernel
theorem dX4_letRoom_5 : decode cX4_letRoom 5 = .ok (.istore_n 2, 1) := by decide +kernel
theorem dX4_letRoom_6 : decode cX4_letRoom 6 = .ok (.aload_n 0, 1) := by decide +kernel
theorem dX4_letRoom_7 : decode cX4_letRoom 7 = .ok (.iload_n 1, 1) := by decide +kernel
theorem dX4_letRoom_8 : decode cX4_letRoom 8 = .ok (.invokevirtual 58, 3) := by decide +kernel
theorem dX4_letRoom_11 : decode cX4_letRoom 11 = .ok (.ifCond .eq 11, 3) := by decide +kernel
theorem dX4_letRoom_14 : decode cX4_letRoom 14 = .ok (.aload_n 0, 1) := by decide +kernel
theorem dX4_letRoom_15 : decode cX4_letRoom 15 = .ok (.iload_n 2, 1) := by decide +kernel
theorem dX4_letRoom_16 : decode cX4_letRoom 16 = .ok (.invokevirtual 148, 3) := by decide +kernel
theorem dX4_letRoom_19 : decode cX4_letRoom 19 = .ok (.ifCond .ne 4, 3) := by decide +kernel
theorem dX4_letRoom_22 : decode cX4_letRoom 22 = .ok (.return_, 1) := by decide +kernel
theorem dX4_letRoom_23 : decode cX4_letRoom 23 = .ok (.aload_n 0, 1) := by decide +kernel
theorem dX4_letRoom_24 : decode cX4_letRoom 24 = .ok (.getfield 10, 3) := by decide +kernel
theorem dX4_letRoom_27 : decode cX4_letRoom 27 = .ok (.iload_n 1, 1) := by decide +kernel
theorem dX4_letRoom_28 : decode cX4_letRoom 28 = .ok (.invokevirtual 69, 3) := by decide +kernel
theorem dX4_letRoom_31 : decode cX4_letRoom 31 = .ok (.checkcast 49, 3) := by decide +kernel
theorem dX4_letRoom_34 : decode cX4_letRoom 34 = .ok (.astore_n 3, 1) := by decide +kernel
theorem dX4_letRoom_35 : decode cX4_letRoom 35 = .ok (.aload_n 0, 1) := by decide +kernel
theorem dX4_letRoom_36 : decode cX4_letRoom 36 = .ok (.getfield 19, 3) := by decide +kernel
theorem dX4_letRoom_39 : decode cX4_letRoom 39 = .ok (.iload_n 2, 1) := by decide +kernel
theorem dX4_letRoom_40 : decode cX4_letRoom 40 = .ok (.invokevirtual 69, 3) := by decide +kernel
theorem dX4_letRoom_43 : decode cX4_letRoom 43 = .ok (.checkcast 145, 3) := by decide +kernel
theorem dX4_letRoom_46 : decode cX4_letRoom 46 = .ok (.astore 4, 2) := by decide +kernel
theorem dX4_letRoom_48 : decode cX4_letRoom 48 = .ok (.aload_n 0, 1) := by decide +kernel
theorem dX4_letRoom_49 : decode cX4_letRoom 49 = .ok (.iload_n 1, 1) := by decide +kernel
theorem dX4_letRoom_50 : decode cX4_letRoom 50 = .ok (.iconst (-1), 1) := by decide +kernel
theorem dX4_letRoom_51 : decode cX4_letRoom 51 = .ok (.invokevirtual 113, 3) := by decide +kernel
theorem dX4_letRoom_54 : decode cX4_letRoom 54 = .ok (.istore 5, 2) := by decide +kernel
theorem dX4_letRoom_56 : decode cX4_letRoom 56 = .ok (.aload_n 0, 1) := by decide +kernel
theorem dX4_letRoom_57 : decode cX4_letRoom 57 = .ok (.iload_n 1, 1) := by decide +kernel
theorem dX4_letRoom_58 : decode cX4_letRoom 58 = .ok (.iload_n 2, 1) := by decide +kernel
theorem dX4_letRoom_59 : decode cX4_letRoom 59 = .ok (.invokevirtual 190, 3) := by decide +kernel
theorem dX4_letRoom_62 : decode cX4_letRoom 62 = .ok (.istore 6, 2) := by decide +kernel
theorem dX4_letRoom_64 : decode cX4_letRoom 64 = .ok (.aload 4, 2) := by decide +kernel
theorem dX4_letRoom_66 : decode cX4_letRoom 66 = .ok (.iload 5, 2) := by decide +kernel
theorem dX4_letRoom_68 : decode cX4_letRoom 68 = .ok (.invokevirtual 216, 3) := by decide +kernel
theorem dX4_letRoom_71 : decode cX4_letRoom 71 = .ok (.ifCond .eq 10, 3) := by decide +kernel
theorem dX4_letRoom_74 : decode cX4_letRoom 74 = .ok (.iload 6, 2) := by decide +kernel
theorem dX4_letRoom_76 : decode cX4_letRoom 76 = .ok (.iconst 2, 1) := by decide +kernel
theorem dX4_letRoom_77 : decode cX4_letRoom 77 = .ok (.idiv, 1) := by decide +kernel
theorem dX4_letRoom_78 : decode cX4_letRoom 78 = .ok (.goto 4, 3) := by decide +kernel
theorem dX4_letRoom_81 : decode cX4_letRoom 81 = .ok (.iconst 0, 1) := by decide +kernel
theorem dX4_letRoom_82 : decode cX4_letRoom 82 = .ok (.istore 7, 2) := by decide +kernel
theorem dX4_letRoom_84 : decode cX4_letRoom 84 = .ok (.aload_n 3, 1) := by decide +kernel
theorem dX4_letRoom_85 : decode cX4_letRoom 85 = .ok (.iload 6, 2) := by decide +kernel
theorem dX4_letRoom_87 : decode cX4_letRoom 87 = .ok (.iload 7, 2) := by decide +kernel
theorem dX4_letRoom_89 : decode cX4_letRoom 89 = .ok (.isub, 1) := by decide +kernel
theorem dX4_letRoom_90 : decode cX4_letRoom 90 = .ok (.aload 4, 2) := by decide +kernel
theorem dX4_letRoom_92 : decode cX4_letRoom 92 = .ok (.iload 5, 2) := by decide +kernel
theorem dX4_letRoom_94 : decode cX4_letRoom 94 = .ok (.invokevirtual 291, 3) := by decide +kernel
theorem dX4_letRoom_97 : decode cX4_letRoom 97 = .ok (.invokevirtual 294, 3) := by decide +kernel
theorem dX4_letRoom_100 : decode cX4_letRoom 100 = .ok (.aload 4, 2) := by decide +kernel
theorem dX4_letRoom_102 : decode cX4_letRoom 102 = .ok (.iload 6, 2) := by decide +kernel
theorem dX4_letRoom_104 : decode cX4_letRoom 104 = .ok (.iload 7, 2) := by decide +kernel
theorem dX4_letRoom_106 : decode cX4_letRoom 106 = .ok (.isub, 1) := by decide +kernel
theorem dX4_letRoom_107 : decode cX4_letRoom 107 = .ok (.iload 5, 2) := by decide +kernel
theorem dX4_letRoom_109 : decode cX4_letRoom 109 = .ok (.invokevirtual 298, 3) := by decide +kernel
theorem dX4_letRoom_112 : decode cX4_letRoom 112 = .ok (.aload_n 0, 1) := by decide +kernel
theorem dX4_letRoom_113 : decode cX4_letRoom 113 = .ok (.dup, 1) := by decide +kernel
theorem dX4_letRoom_114 : decode cX4_letRoom 114 = .ok (.getfield 204, 3) := by decide +kernel
theorem dX4_letRoom_117 : decode cX4_letRoom 117 = .ok (.iload 6, 2) := by decide +kernel
theorem dX4_letRoom_119 : decode cX4_letRoom 119 = .ok (.iload 7, 2) := by decide +kernel
theorem dX4_letRoom_121 : decode cX4_letRoom 121 = .ok (.isub, 1) := by decide +kernel
theorem dX4_letRoom_122 : decode cX4_letRoom 122 = .ok (.iadd, 1) := by decide +kernel
theorem dX4_letRoom_123 : decode cX4_letRoom 123 = .ok (.putfield 204, 3) := by decide +kernel
theorem dX4_letRoom_126 : decode cX4_letRoom 126 = .ok (.aload_n 0, 1) := by decide +kernel
theorem dX4_letRoom_127 : decode cX4_letRoom 127 = .ok (.dup, 1) := by decide +kernel
theorem dX4_letRoom_128 : decode cX4_letRoom 128 = .ok (.getfield 208, 3) := by decide +kernel
theorem dX4_letRoom_131 : decode cX4_letRoom 131 = .ok (.iload 7, 2) := by decide +kernel
theorem dX4_letRoom_133 : decode cX4_letRoom 133 = .ok (.iadd, 1) := by decide +kernel
theorem dX4_letRoom_134 : decode cX4_letRoom 134 = .ok (.putfield 208, 3) := by decide +kernel
theorem dX4_letRoom_137 : decode cX4_letRoom 137 = .ok (.return_, 1) := by decide +kernel
set_option maxRecDepth 20000 in
theorem ggX4_backTonight_Jx4a65c_size_8abf5 : GoodIn wsX4_backTonight wsJx4a65c_size_8abf5 := goodIn_r _ [8, 9, 100, 101, 102] (by decide +kernel) (by decide +kernel)
set_option maxRecDepth 20000 in
theorem gX4_backTonight_Jx4a65c_size_8abf5 : GoodIn wsX4_backTonight (wsV RX4 40 RJx4a65c yJx4a65c_size_8abf5 wsJx4a65c_size_8abf5) := goodIn_app (goodIn_of _ (by decide +kernel)) ggX4_backTonight_Jx4a65c_size_8abf5
set_option maxRecDepth 20000 in
theorem ggX4_backTonight_X4_winnerOf : GoodIn wsX4_backTonight wsX4_winnerOf := goodIn_r _ [14, 2, 3, 15, 4, 5, 6, 7, 8, 9, 16, 17, 18, 19, 20, 21, 22, 23, 24, 25, 26, 27, 28, 29, 30, 31, 32, 33, 34, 35, 13, 36, 37, 1, 38, 39, 40, 41, 42, 43, 44, 45, 46, 47, 48, 49, 50, 51, 52, 92, 93, 94, 95, 96, 97, 98, 99, 103, 104, 105, 106, 107, 108, 109, 100, 101, 102, 110, 111, 112, 113, 114, 115] (by decide +kernel) (by decide +kernel)
set_option maxRecDepth 20000 in
theorem gX4_backTonight_X4_winnerOf : GoodIn wsX4_backTonight (wsV RX4 187 RX4 yX4_winnerOf wsX4_winnerOf) := goodIn_app (goodIn_of _ (by decide +kernel)) ggX4_backTonight_X4_winnerOf
set_option maxRecDepth 20000 in
theorem ggX4_backTonight_X4_isGuest : GoodIn wsX4_backTonight wsX4_isGuest := goodIn_r _ [56, 2, 4, 5, 6, 7, 8, 9, 92, 93, 94, 95, 96, 97, 98, 99, 100, 101, 102] (by decide +kernel) (by decide +kernel)
set_option maxRecDepth 20000 in
theorem gX4_backTonight_X4_isGuest : GoodIn wsX4_backTonight (wsV RX4 148 RX4 yX4_isGuest wsX4_isGuest) := goodIn_app (goodIn_of _ (by decide +kernel)) ggX4_backTonight_X4_isGuest
set_option maxRecDepth 20000 in
theorem ggX4_backTonight_Jx4a65c_get_915e3 : GoodIn wsX4_backTonight wsJx4a65c_get_915e3 := goodIn_r _ [19, 9, 20, 21, 22, 23, 24, 25, 26, 27, 28, 29, 30, 7, 31, 32, 100, 101, 102] (by decide +kernel) (by decide +kernel)
set_option maxRecDepth 20000 in
theorem gX4_backTonight_Jx4a65c_get_915e3 : GoodIn wsX4_backTonight (wsV RX4 69 RJx4a65c yJx4a65c_get_915e3 wsJx4a65c_get_915e3) := goodIn_app (goodIn_of _ (by decide +kernel)) ggX4_backTonight_Jx4a65c_get_915e3
set_option maxRecDepth 20000 in
theorem ggX4_backTonight_X4_hauntingOfNight : GoodIn wsX4_backTonight wsX4_hauntingOfNight := goodIn_r _ [60, 61, 62, 63, 13, 64, 65, 66, 67, 4, 5, 6, 7, 8, 9, 16, 17, 18, 19, 20, 21, 22, 23, 24, 25, 26, 27, 28, 29, 30, 31, 32, 68, 69, 70, 71, 72, 73, 92, 93, 94, 95, 96, 97, 98, 99, 116, 117, 118, 119, 120, 100, 101, 102] (by decide +kernel) (by decide +kernel)
set_option maxRecDepth 20000 in
theorem gX4_backTonight_X4_hauntingOfNight : GoodIn wsX4_backTonight (wsV RX4 113 RX4 yX4_hauntingOfNight wsX4_hauntingOfNight) := goodIn_app (goodIn_of _ (by decide +kernel)) ggX4_backTonight_X4_hauntingOfNight
set_option maxRecDepth 20000 in
theorem ggX4_backTonight_X1_isUpsetBy : GoodIn wsX4_backTonight wsX1_isUpsetBy := goodIn_r _ [77, 78, 79, 80, 81, 46, 82, 103, 104, 105, 106, 107, 108, 109] (by decide +kernel) (by decide +kernel)
set_option maxRecDepth 20000 in
theorem gX4_backTonight_X1_isUpsetBy : GoodIn wsX4_backTonight (wsV RX4 216 RX1 yX1_isUpsetBy wsX1_isUpsetBy) := goodIn_app (goodIn_of _ (by decide +kernel)) ggX4_backTonight_X1_isUpsetBy
set_option maxRecDepth 20000 in
theorem ggX4_backTonight_X4_dueFor : GoodIn wsX4_backTonight wsX4_dueFor := goodIn_r _ [86, 1, 38, 87, 2, 3, 15, 88, 89, 90, 91, 39, 40, 41, 13, 42, 4, 5, 6, 7, 8, 9, 16, 17, 18, 19, 20, 21, 22, 23, 24, 25, 26, 27, 28, 29, 30, 31, 32, 33, 34, 35, 36, 37, 43, 44, 45, 46, 47, 48, 49, 50, 51, 52, 92, 93, 94, 95, 96, 97, 98, 99, 110, 111, 112, 113, 114, 115, 103, 104, 105, 106, 107, 108, 109, 100, 101, 102] (by decide +kernel) (by decide +kernel)
set_option maxRecDepth 20000 in
theorem gX4_backTonight_X4_dueFor : GoodIn wsX4_backTonight (wsV RX4 190 RX4 yX4_dueFor wsX4_dueFor) := goodIn_app (goodIn_of _ (by decide +kernel)) ggX4_backTonight_X4_dueFor
theorem dX4_backTonight_0 : decode cX4_backTonight 0 = .ok (.iconst 0, 1) := by decide +kernel
theorem dX4_backTonight_1 : decode cX4_backTonight 1 = .ok (.istore_n 2, 1) := by decide +kernel
theorem dX4_backTonight_2 : decode cX4_backTonight 2 = .ok (.iconst 0, 1) := by decide +kernel
theorem dX4_backTonight_3 : decode cX4_backTonight 3 = .ok (.istore_n 3, 1) := by decide +kernel
theorem dX4_backTonight_4 : decode cX4_backTonight 4 = .ok (.iload_n 3, 1) := by decide +kernel
theorem dX4_backTonight_5 : decode cX4_backTonight 5 = .ok (.aload_n 0, 1) := by decide +kernel
theorem dX4_backTonight_6 : decode cX4_backTonight 6 = .ok (.getfield 10, 3) := by decide +kernel
theorem dX4_backTonight_9 : decode cX4_backTonight 9 = .ok (.invokevirtual 40, 3) := by decide +kernel
theorem dX4_backTonight_12 : decode cX4_backTonight 12 = .ok (.if_icmp .ge 61, 3) := by decide +kernel
theorem dX4_backTonight_15 : decode cX4_backTonight 15 = .ok (.aload_n 0, 1) := by decide +kernel
theorem dX4_backTonight_16 : decode cX4_backTonight 16 = .ok (.iload_n 3, 1) := by decide +kernel
theorem dX4_backTonight_17 : decode cX4_backTonight 17 = .ok (.invokevirtual 187, 3) := by decide +kernel
theorem dX4_backTonight_20 : decode cX4_backTonight 20 = .ok (.istore 4, 2) := by decide +kernel
theorem dX4_backTonight_22 : decode cX4_backTonight 22 = .ok (.aload_n 0, 1) := by decide +kernel
theorem dX4_backTonight_23 : decode cX4_backTonight 23 = .ok (.iload 4, 2) := by decide +kernel
theorem dX4_backTonight_25 : decode cX4_backTonight 25 = .ok (.invokevirtual 148, 3) := by decide +kernel
theorem dX4_backTonight_28 : decode cX4_backTonight 28 = .ok (.ifCond .eq 39, 3) := by decide +kernel
theorem dX4_backTonight_31 : decode cX4_backTonight 31 = .ok (.aload_n 0, 1) := by decide +kernel
theorem dX4_backTonight_32 : decode cX4_backTonight 32 = .ok (.getfield 19, 3) := by decide +kernel
theorem dX4_backTonight_35 : decode cX4_backTonight 35 = .ok (.iload 4, 2) := by decide +kernel
theorem dX4_backTonight_37 : decode cX4_backTonight 37 = .ok (.invokevirtual 69, 3) := by decide +kernel
theorem dX4_backTonight_40 : decode cX4_backTonight 40 = .ok (.checkcast 145, 3) := by decide +kernel
theorem dX4_backTonight_43 : decode cX4_backTonight 43 = .ok (.aload_n 0, 1) := by decide +kernel
theorem dX4_backTonight_44 : decode cX4_backTonight 44 = .ok (.iload_n 3, 1) := by decide +kernel
theorem dX4_backTonight_45 : decode cX4_backTonight 45 = .ok (.iload_n 1, 1) := by decide +kernel
theorem dX4_backTonight_46 : decode cX4_backTonight 46 = .ok (.invokevirtual 113, 3) := by decide +kernel
theorem dX4_backTonight_49 : decode cX4_backTonight 49 = .ok (.invokevirtual 216, 3) := by decide +kernel
theorem dX4_backTonight_52 : decode cX4_backTonight 52 = .ok (.ifCond .eq 15, 3) := by decide +kernel
theorem dX4_backTonight_55 : decode cX4_backTonight 55 = .ok (.iload_n 2, 1) := by decide +kernel
theorem dX4_backTonight_56 : decode cX4_backTonight 56 = .ok (.aload_n 0, 1) := by decide +kernel
theorem dX4_backTonight_57 : decode cX4_backTonight 57 = .ok (.iload_n 3, 1) := by decide +kernel
theorem dX4_backTonight_58 : decode cX4_backTonight 58 = .ok (.iload 4, 2) := by decide +kernel
theorem dX4_backTonight_60 : decode cX4_backTonight 60 = .ok (.invokevirtual 190, 3) := by decide +kernel
theorem dX4_backTonight_63 : decode cX4_backTonight 63 = .ok (.iconst 2, 1) := by decide +kernel
theorem dX4_backTonight_64 : decode cX4_backTonight 64 = .ok (.idiv, 1) := by decide +kernel
theorem dX4_backTonight_65 : decode cX4_backTonight 65 = .ok (.iadd, 1) := by decide +kernel
theorem dX4_backTonight_66 : decode cX4_backTonight 66 = .ok (.istore_n 2, 1) := by decide +kernel
theorem dX4_backTonight_67 : decode cX4_backTonight 67 = .ok (.iinc 3 1, 3) := by decide +kernel
theorem dX4_backTonight_70 : decode cX4_backTonight 70 = .ok (.goto (-66), 3) := by decide +kernel
theorem dX4_backTonight_73 : decode cX4_backTonight 73 = .ok (.iload_n 2, 1) := by decide +kernel
theorem dX4_backTonight_74 : decode cX4_backTonight 74 = .ok (.ireturn, 1) := by decide +kernel
set_option maxRecDepth 20000 in
theorem ggX4_allowSeats_Jx4a65c_size_8abf5 : GoodIn wsX4_allowSeats wsJx4a65c_size_8abf5 := goodIn_r _ [10, 11, 58, 59, 60] (by decide +kernel) (by decide +kernel)
set_option maxRecDepth 20000 in
theorem gX4_allowSeats_Jx4a65c_size_8abf5 : GoodIn wsX4_allowSeats (wsV RX4 40 RJx4a65c yJx4a65c_size_8abf5 wsJx4a65c_size_8abf5) := goodIn_app (goodIn_of _ (by decide +kernel)) ggX4_allowSeats_Jx4a65c_size_8abf5
set_option maxRecDepth 20000 in
theorem ggX4_allowSeats_Jx4a65c_get_915e3 : GoodIn wsX4_allowSeats wsJx4a65c_get_915e3 := goodIn_r _ [15, 11, 16, 17, 18, 19, 20, 21, 22, 23, 24, 25, 26, 9, 27, 28, 58, 59, 60] (by decide +kernel) (by decide +kernel)
set_option maxRecDepth 20000 in
theorem gX4_allowSeats_Jx4a65c_get_915e3 : GoodIn wsX4_allowSeats (wsV RX4 69 RJx4a65c yJx4a65c_get_915e3 wsJx4a65c_get_915e3) := goodIn_app (goodIn_of _ (by decide +kernel)) ggX4_allowSeats_Jx4a65c_get_915e3
set_option maxRecDepth 20000 in
theorem ggX4_allowSeats_X1_hasBid : GoodIn wsX4_allowSeats wsX1_hasBid := goodIn_r _ [33, 34, 61, 62, 63, 64, 65, 66, 67] (by decide +kernel) (by decide +kernel)
set_option maxRecDepth 20000 in
theorem gX4_allowSeats_X1_hasBid : GoodIn wsX4_allowSeats (wsV RX4 287 RX1 yX1_hasBid wsX1_hasBid) := goodIn_app (goodIn_of _ (by decide +kernel)) ggX4_allowSeats_X1_hasBid
set_option maxRecDepth 20000 in
theorem ggX4_allowSeats_X1_couldBidFor : GoodIn wsX4_allowSeats wsX1_couldBidFor := goodIn_r _ [38, 39, 40, 41, 42, 43, 61, 62, 63, 64, 65, 66, 67, 68, 69, 70, 71, 72, 73] (by decide +kernel) (by decide +kernel)
set_option maxRecDepth 20000 in
theorem gX4_allowSeats_X1_couldBidFor : GoodIn wsX4_allowSeats (wsV RX4 159 RX1 yX1_couldBidFor wsX1_couldBidFor) := goodIn_app (goodIn_of _ (by decide +kernel)) ggX4_allowSeats_X1_couldBidFor
set_option maxRecDepth 20000 in
theorem ggX4_allowSeats_X3_allow : GoodIn wsX4_allowSeats wsX3_allow := goodIn_r _ [48, 49, 74, 75, 76] (by decide +kernel) (by decide +kernel)
set_option maxRecDepth 20000 in
theorem gX4_allowSeats_X3_allow : GoodIn wsX4_allowSeats (wsV RX4 301 RX3 yX3_allow wsX3_allow) := goodIn_app (goodIn_of _ (by decide +kernel)) ggX4_allowSeats_X3_allow
theorem dX4_allowSeats_0 : decode cX4_allowSeats 0 = .ok (.iconst 0, 1) := by decide +kernel
theorem dX4_allowSeats_1 : decode cX4_allowSeats 1 = .ok (.istore_n 1, 1) := by decide +kernel
theorem dX4_allowSeats_2 : decode cX4_allowSeats 2 = .ok (.iload_n 1, 1) := by decide +kernel
theorem dX4_allowSeats_3 : decode cX4_allowSeats 3 = .ok (.aload_n 0, 1) := by decide +kernel
theorem dX4_allowSeats_4 : decode cX4_allowSeats 4 = .ok (.getfield 19, 3) := by decide +kernel
theorem dX4_allowSeats_7 : decode cX4_allowSeats 7 = .ok (.invokevirtual 40, 3) := by decide +kernel
theorem dX4_allowSeats_10 : decode cX4_allowSeats 10 = .ok (.if_icmp .ge 74, 3) := by decide +kernel
theorem dX4_allowSeats_13 : decode cX4_allowSeats 13 = .ok (.aload_n 0, 1) := by decide +kernel
theorem dX4_allowSeats_14 : decode cX4_allowSeats 14 = .ok (.getfield 19, 3) := by decide +kernel
theorem dX4_allowSeats_17 : decode cX4_allowSeats 17 = .ok (.iload_n 1, 1) := by decide +kernel
theorem dX4_allowSeats_18 : decode cX4_allowSeats 18 = .ok (.invokevirtual 69, 3) := by decide +kernel
theorem dX4_allowSeats_21 : decode cX4_allowSeats 21 = .ok (.checkcast 145, 3) := by decide +kernel
theorem dX4_allowSeats_24 : decode cX4_allowSeats 24 = .ok (.astore_n 2, 1) := by decide +kernel
theorem dX4_allowSeats_25 : decode cX4_allowSeats 25 = .ok (.iconst 0, 1) := by decide +kernel
theorem dX4_allowSeats_26 : decode cX4_allowSeats 26 = .ok (.istore_n 3, 1) := by decide +kernel
theorem dX4_allowSeats_27 : decode cX4_allowSeats 27 = .ok (.iload_n 3, 1) := by decide +kernel
theorem dX4_allowSeats_28 : decode cX4_allowSeats 28 = .ok (.aload_n 0, 1) := by decide +kernel
theorem dX4_allowSeats_29 : decode cX4_allowSeats 29 = .ok (.getfield 10, 3) := by decide +kernel
theorem dX4_allowSeats_32 : decode cX4_allowSeats 32 = .ok (.invokevirtual 40, 3) := by decide +kernel
theorem dX4_allowSeats_35 : decode cX4_allowSeats 35 = .ok (.if_icmp .ge 43, 3) := by decide +kernel
theorem dX4_allowSeats_38 : decode cX4_allowSeats 38 = .ok (.aload_n 2, 1) := by decide +kernel
theorem dX4_allowSeats_39 : decode cX4_allowSeats 39 = .ok (.invokevirtual 287, 3) := by decide +kernel
theorem dX4_allowSeats_42 : decode cX4_allowSeats 42 = .ok (.ifCond .eq 30, 3) := by decide +kernel
theorem dX4_allowSeats_45 : decode cX4_allowSeats 45 = .ok (.aload_n 2, 1) := by decide +kernel
theorem dX4_allowSeats_46 : decode cX4_allowSeats 46 = .ok (.aload_n 0, 1) := by decide +kernel
theorem dX4_allowSeats_47 : decode cX4_allowSeats 47 = .ok (.getfield 10, 3) := by decide +kernel
theorem dX4_allowSeats_50 : decode cX4_allowSeats 50 = .ok (.iload_n 3, 1) := by decide +kernel
theorem dX4_allowSeats_51 : decode cX4_allowSeats 51 = .ok (.invokevirtual 69, 3) := by decide +kernel
theorem dX4_allowSeats_54 : decode cX4_allowSeats 54 = .ok (.checkcast 49, 3) := by decide +kernel
theorem dX4_allowSeats_57 : decode cX4_allowSeats 57 = .ok (.invokevirtual 159, 3) := by decide +kernel
theorem dX4_allowSeats_60 : decode cX4_allowSeats 60 = .ok (.ifCond .eq 12, 3) := by decide +kernel
theorem dX4_allowSeats_63 : decode cX4_allowSeats 63 = .ok (.aload_n 0, 1) := by decide +kernel
theorem dX4_allowSeats_64 : decode cX4_allowSeats 64 = .ok (.getfield 25, 3) := by decide +kernel
theorem dX4_allowSeats_67 : decode cX4_allowSeats 67 = .ok (.iload_n 1, 1) := by decide +kernel
theorem dX4_allowSeats_68 : decode cX4_allowSeats 68 = .ok (.iload_n 3, 1) := by decide +kernel
theorem dX4_allowSeats_69 : decode cX4_allowSeats 69 = .ok (.invokevirtual 301, 3) := by decide +kernel
theorem dX4_allowSeats_72 : decode cX4_allowSeats 72 = .ok (.iinc 3 1, 3) := by decide +kernel
theorem dX4_allowSeats_75 : decode cX4_allowSeats 75 = .ok (.goto (-48), 3) := by decide +kernel
theorem dX4_allowSeats_78 : decode cX4_allowSeats 78 = .ok (.iinc 1 1, 3) := by decide +kernel
theorem dX4_allowSeats_81 : decode cX4_allowSeats 81 = .ok (.goto (-79), 3) := by decide +kernel
theorem dX4_allowSeats_84 : decode cX4_allowSeats 84 = .ok (.return_, 1) := by decide +kernel
set_option maxRecDepth 20000 in
theorem ggX4_nextDearest_Jx4a65c_size_8abf5 : GoodIn wsX4_nextDearest wsJx4a65c_size_8abf5 := goodIn_r _ [7, 8, 50, 51, 52] (by decide +kernel) (by decide +kernel)
set_option maxRecDepth 20000 in
theorem gX4_nextDearest_Jx4a65c_size_8abf5 : GoodIn wsX4_nextDearest (wsV RX4 40 RJx4a65c yJx4a65c_size_8abf5 wsJx4a65c_size_8abf5) := goodIn_app (goodIn_of _ (by decide +kernel)) ggX4_nextDearest_Jx4a65c_size_8abf5
set_option maxRecDepth 20000 in
theorem ggX4_nextDearest_X4_isDearer : GoodIn wsX4_nextDearest wsX4_isDearer := goodIn_r _ [13, 1, 2, 14, 15, 16, 17, 12, 18, 3, 4, 5, 6, 7, 8, 19, 20, 21, 22, 23, 24, 25, 26, 27, 28, 29, 30, 31, 32, 33, 34, 35, 42, 43, 44, 45, 46, 47, 48, 49, 53, 54, 55, 56, 57, 58, 59, 50, 51, 52] (by decide +kernel) (by decide +kernel)
set_option maxRecDepth 20000 in
theorem gX4_nextDearest_X4_isDearer : GoodIn wsX4_nextDearest (wsV RX4 304 RX4 yX4_isDearer wsX4_isDearer) := goodIn_app (goodIn_of _ (by decide +kernel)) ggX4_nextDearest_X4_isDearer
set_option maxRecDepth 20000 in
theorem ggX4_nextDearest_Jx4a65c_get_915e3 : GoodIn wsX4_nextDearest wsJx4a65c_get_915e3 := goodIn_r _ [22, 8, 23, 24, 25, 26, 27, 28, 29, 30, 31, 32, 33, 6, 34, 35, 50, 51, 52] (by decide +kernel) (by decide +kernel)
set_option maxRecDepth 20000 in
theorem gX4_nextDearest_Jx4a65c_get_915e3 : GoodIn wsX4_nextDearest (wsV RX4 69 RJx4a65c yJx4a65c_get_915e3 wsJx4a65c_get_915e3) := goodIn_app (goodIn_of _ (by decide +kernel)) ggX4_nextDearest_Jx4a65c_get_915e3
set_option maxRecDepth 20000 in
theorem ggX4_nextDearest_X1_hasBid : GoodIn wsX4_nextDearest wsX1_hasBid := goodIn_r _ [40, 41, 53, 54, 55, 56, 57, 58, 59] (by decide +kernel) (by decide +kernel)
set_option maxRecDepth 20000 in
theorem gX4_nextDearest_X1_hasBid : GoodIn wsX4_nextDearest (wsV RX4 287 RX1 yX1_hasBid wsX1_hasBid) := goodIn_app (goodIn_of _ (by decide +kernel)) ggX4_nextDearest_X1_hasBid
theorem dX4_nextDearest_0 : decode cX4_nextDearest 0 = .ok (.iconst (-1), 1) := by decide +kernel
theorem dX4_nextDearest_1 : decode cX4_nextDearest 1 = .ok (.istore_n 2, 1) := by decide +kernel
theorem dX4_nextDearest_2 : decode cX4_nextDearest 2 = .ok (.iconst 0, 1) := by decide +kernel
theorem dX4_nextDearest_3 : decode cX4_nextDearest 3 = .ok (.istore_n 3, 1) := by decide +kernel
theorem dX4_nextDearest_4 : decode cX4_nextDearest 4 = .ok (.iload_n 3, 1) := by decide +kernel
theorem dX4_nextDearest_5 : decode cX4_nextDearest 5 = .ok (.aload_n 0, 1) := by decide +kernel
theorem dX4_nextDearest_6 : decode cX4_nextDearest 6 = .ok (.getfield 19, 3) := by decide +kernel
theorem dX4_nextDearest_9 : decode cX4_nextDearest 9 = .ok (.invokevirtual 40, 3) := by decide +kernel
theorem dX4_nextDearest_12 : decode cX4_nextDearest 12 = .ok (.if_icmp .ge 68, 3) := by decide +kernel
theorem dX4_nextDearest_15 : decode cX4_nextDearest 15 = .ok (.iload_n 1, 1) := by decide +kernel
theorem dX4_nextDearest_16 : decode cX4_nextDearest 16 = .ok (.iconst (-1), 1) := by decide +kernel
theorem dX4_nextDearest_17 : decode cX4_nextDearest 17 = .ok (.if_icmp .eq 12, 3) := by decide +kernel
theorem dX4_nextDearest_20 : decode cX4_nextDearest 20 = .ok (.aload_n 0, 1) := by decide +kernel
theorem dX4_nextDearest_21 : decode cX4_nextDearest 21 = .ok (.iload_n 1, 1) := by decide +kernel
theorem dX4_nextDearest_22 : decode cX4_nextDearest 22 = .ok (.iload_n 3, 1) := by decide +kernel
theorem dX4_nextDearest_23 : decode cX4_nextDearest 23 = .ok (.invokevirtual 304, 3) := by decide +kernel
theorem dX4_nextDearest_26 : decode cX4_nextDearest 26 = .ok (.ifCond .eq 7, 3) := by decide +kernel
theorem dX4_nextDearest_29 : decode cX4_nextDearest 29 = .ok (.iconst 1, 1) := by decide +kernel
theorem dX4_nextDearest_30 : decode cX4_nextDearest 30 = .ok (.goto 4, 3) := by decide +kernel
theorem dX4_nextDearest_33 : decode cX4_nextDearest 33 = .ok (.iconst 0, 1) := by decide +kernel
theorem dX4_nextDearest_34 : decode cX4_nextDearest 34 = .ok (.istore 4, 2) := by decide +kernel
theorem dX4_nextDearest_36 : decode cX4_nextDearest 36 = .ok (.aload_n 0, 1) := by decide +kernel
theorem dX4_nextDearest_37 : decode cX4_nextDearest 37 = .ok (.getfield 19, 3) := by decide +kernel
theorem dX4_nextDearest_40 : decode cX4_nextDearest 40 = .ok (.iload_n 3, 1) := by decide +kernel
theorem dX4_nextDearest_41 : decode cX4_nextDearest 41 = .ok (.invokevirtual 69, 3) := by decide +kernel
theorem dX4_nextDearest_44 : decode cX4_nextDearest 44 = .ok (.checkcast 145, 3) := by decide +kernel
theorem dX4_nextDearest_47 : decode cX4_nextDearest 47 = .ok (.invokevirtual 287, 3) := by decide +kernel
theorem dX4_nextDearest_50 : decode cX4_nextDearest 50 = .ok (.ifCond .eq 24, 3) := by decide +kernel
theorem dX4_nextDearest_53 : decode cX4_nextDearest 53 = .ok (.iload 4, 2) := by decide +kernel
theorem dX4_nextDearest_55 : decode cX4_nextDearest 55 = .ok (.ifCond .eq 19, 3) := by decide +kernel
theorem dX4_nextDearest_58 : decode cX4_nextDearest 58 = .ok (.iload_n 2, 1) := by decide +kernel
theorem dX4_nextDearest_59 : decode cX4_nextDearest 59 = .ok (.iconst (-1), 1) := by decide +kernel
theorem dX4_nextDearest_60 : decode cX4_nextDearest 60 = .ok (.if_icmp .eq 12, 3) := by decide +kernel
theorem dX4_nextDearest_63 : decode cX4_nextDearest 63 = .ok (.aload_n 0, 1) := by decide +kernel
theorem dX4_nextDearest_64 : decode cX4_nextDearest 64 = .ok (.iload_n 3, 1) := by decide +kernel
theorem dX4_nextDearest_65 : decode cX4_nextDearest 65 = .ok (.iload_n 2, 1) := by decide +kernel
theorem dX4_nextDearest_66 : decode cX4_nextDearest 66 = .ok (.invokevirtual 304, 3) := by decide +kernel
theorem dX4_nextDearest_69 : decode cX4_nextDearest 69 = .ok (.ifCond .eq 5, 3) := by decide +kernel
theorem dX4_nextDearest_72 : decode cX4_nextDearest 72 = .ok (.iload_n 3, 1) := by decide +kernel
theorem dX4_nextDearest_73 : decode cX4_nextDearest 73 = .ok (.istore_n 2, 1) := by decide +kernel
theorem dX4_nextDearest_74 : decode cX4_nextDearest 74 = .ok (.iinc 3 1, 3) := by decide +kernel
theorem dX4_nextDearest_77 : decode cX4_nextDearest 77 = .ok (.goto (-73), 3) := by decide +kernel
theorem dX4_nextDearest_80 : decode cX4_nextDearest 80 = .ok (.iload_n 2, 1) := by decide +kernel
theorem dX4_nextDearest_81 : decode cX4_nextDearest 81 = .ok (.ireturn, 1) := by decide +kernel
set_option maxRecDepth 20000 in
theorem ggX4_isDearer_X4_isGuest : GoodIn wsX4_isDearer wsX4_isGuest := goodIn_r _ [8, 1, 9, 10, 11, 12, 13, 14, 32, 33, 34, 35, 36, 37, 38, 39, 47, 48, 49] (by decide +kernel) (by decide +kernel)
set_option maxRecDepth 20000 in
theorem gX4_isDearer_X4_isGuest : GoodIn wsX4_isDearer (wsV RX4 148 RX4 yX4_isGuest wsX4_isGuest) := goodIn_app (goodIn_of _ (by decide +kernel)) ggX4_isDearer_X4_isGuest
set_option maxRecDepth 20000 in
theorem ggX4_isDearer_Jx4a65c_get_915e3 : GoodIn wsX4_isDearer wsJx4a65c_get_915e3 := goodIn_r _ [18, 14, 19, 20, 21, 22, 23, 24, 25, 26, 27, 28, 29, 12, 30, 31, 47, 48, 49] (by decide +kernel) (by decide +kernel)
set_option maxRecDepth 20000 in
theorem gX4_isDearer_Jx4a65c_get_915e3 : GoodIn wsX4_isDearer (wsV RX4 69 RJx4a65c yJx4a65c_get_915e3 wsJx4a65c_get_915e3) := goodIn_app (goodIn_of _ (by decide +kernel)) ggX4_isDearer_Jx4a65c_get_915e3
theorem dX4_isDearer_0 : decode cX4_isDearer 0 = .ok (.aload_n 0, 1) := by decide +kernel
theorem dX4_isDearer_1 : decode cX4_isDearer 1 = .ok (.iload_n 1, 1) := by decide +kernel
theorem dX4_isDearer_2 : decode cX4_isDearer 2 = .ok (.invokevirtual 148, 3) := by decide +kernel
theorem dX4_isDearer_5 : decode cX4_isDearer 5 = .ok (.ifCond .eq 11, 3) := by decide +kernel
theorem dX4_isDearer_8 : decode cX4_isDearer 8 = .ok (.aload_n 0, 1) := by decide +kernel
theorem dX4_isDearer_9 : decode cX4_isDearer 9 = .ok (.iload_n 2, 1) := by decide +kernel
theorem dX4_isDearer_10 : decode cX4_isDearer 10 = .ok (.invokevirtual 148, 3) := by decide +kernel
theorem dX4_isDearer_13 : decode cX4_isDearer 13 = .ok (.ifCond .ne 5, 3) := by decide +kernel
theorem dX4_isDearer_16 : decode cX4_isDearer 16 = .ok (.iconst 0, 1) := by decide +kernel
theorem dX4_isDearer_17 : decode cX4_isDearer 17 = .ok (.ireturn, 1) := by decide +kernel
theorem dX4_isDearer_18 : decode cX4_isDearer 18 = .ok (.aload_n 0, 1) := by decide +kernel
theorem dX4_isDearer_19 : decode cX4_isDearer 19 = .ok (.getfield 19, 3) := by decide +kernel
theorem dX4_isDearer_22 : decode cX4_isDearer 22 = .ok (.iload_n 1, 1) := by decide +kernel
theorem dX4_isDearer_23 : decode cX4_isDearer 23 = .ok (.invokevirtual 69, 3) := by decide +kernel
theorem dX4_isDearer_26 : decode cX4_isDearer 26 = .ok (.checkcast 145, 3) := by decide +kernel
theorem dX4_isDearer_29 : decode cX4_isDearer 29 = .ok (.getfield 176, 3) := by decide +kernel
theorem dX4_isDearer_32 : decode cX4_isDearer 32 = .ok (.istore_n 3, 1) := by decide +kernel
theorem dX4_isDearer_33 : decode cX4_isDearer 33 = .ok (.aload_n 0, 1) := by decide +kernel
theorem dX4_isDearer_34 : decode cX4_isDearer 34 = .ok (.getfield 19, 3) := by decide +kernel
theorem dX4_isDearer_37 : decode cX4_isDearer 37 = .ok (.iload_n 2, 1) := by decide +kernel
theorem dX4_isDearer_38 : decode cX4_isDearer 38 = .ok (.invokevirtual 69, 3) := by decide +kernel
theorem dX4_isDearer_41 : decode cX4_isDearer 41 = .ok (.checkcast 145, 3) := by decide +kernel
theorem dX4_isDearer_44 : decode cX4_isDearer 44 = .ok (.getfield 176, 3) := by decide +kernel
theorem dX4_isDearer_47 : decode cX4_isDearer 47 = .ok (.istore 4, 2) := by decide +kernel
theorem dX4_isDearer_49 : decode cX4_isDearer 49 = .ok (.iload_n 3, 1) := by decide +kernel
theorem dX4_isDearer_50 : decode cX4_isDearer 50 = .ok (.iload 4, 2) := by decide +kernel
theorem dX4_isDearer_52 : decode cX4_isDearer 52 = .ok (.if_icmp .gt 14, 3) := by decide +kernel
theorem dX4_isDearer_55 : decode cX4_isDearer 55 = .ok (.iload_n 3, 1) := by decide +kernel
theorem dX4_isDearer_56 : decode cX4_isDearer 56 = .ok (.iload 4, 2) := by decide +kernel
theorem dX4_isDearer_58 : decode cX4_isDearer 58 = .ok (.if_icmp .ne 12, 3) := by decide +kernel
theorem dX4_isDearer_61 : decode cX4_isDearer 61 = .ok (.iload_n 1, 1) := by decide +kernel
theorem dX4_isDearer_62 : decode cX4_isDearer 62 = .ok (.iload_n 2, 1) := by decide +kernel
theorem dX4_isDearer_63 : decode cX4_isDearer 63 = .ok (.if_icmp .ge 7, 3) := by decide +kernel
theorem dX4_isDearer_66 : decode cX4_isDearer 66 = .ok (.iconst 1, 1) := by decide +kernel
theorem dX4_isDearer_67 : decode cX4_isDearer 67 = .ok (.goto 4, 3) := by decide +kernel
theorem dX4_isDearer_70 : decode cX4_isDearer 70 = .ok (.iconst 0, 1) := by decide +kernel
theorem dX4_isDearer_71 : decode cX4_isDearer 71 = .ok (.ireturn, 1) := by decide +kernel
end
section
theorem dX5_init_0 : decode cX5_init 0 = .ok (.aload_n 0, 1) := by decide +kernel
theorem dX5_init_1 : decode cX5_init 1 = .ok (.invokespecial 1, 3) := by decide +kernel
theorem dX5_init_4 : decode cX5_init 4 = .ok (.aload_n 0, 1) := by decide +kernel
theorem dX5_init_5 : decode cX5_init 5 = .ok (.bipush 50, 2) := by decide +kernel
theorem dX5_init_7 : decode cX5_init 7 = .ok (.newarray .int, 2) := by decide +kernel
theorem dX5_init_9 : decode cX5_init 9 = .ok (.putfield 9, 3) := by decide +kernel
theorem dX5_init_12 : decode cX5_init 12 = .ok (.aload_n 0, 1) := by decide +kernel
theorem dX5_init_13 : decode cX5_init 13 = .ok (.bipush 10, 2) := by decide +kernel
theorem dX5_init_15 : decode cX5_init 15 = .ok (.newarray .int, 2) := by decide +kernel
theorem dX5_init_17 : decode cX5_init 17 = .ok (.putfield 13, 3) := by decide +kernel
theorem dX5_init_20 : decode cX5_init 20 = .ok (.aload_n 0, 1) := by decide +kernel
theorem dX5_init_21 : decode cX5_init 21 = .ok (.bipush 20, 2) := by decide +kernel
theorem dX5_init_23 : decode cX5_init 23 = .ok (.newarray .int, 2) := by decide +kernel
theorem dX5_init_25 : decode cX5_init 25 = .ok (.putfield 16, 3) := by decide +kernel
theorem dX5_init_28 : decode cX5_init 28 = .ok (.aload_n 0, 1) := by decide +kernel
theorem dX5_init_29 : decode cX5_init 29 = .ok (.bipush 84, 2) := by decide +kernel
theorem dX5_init_31 : decode cX5_init 31 = .ok (.newarray .int, 2) := by decide +kernel
theorem dX5_init_33 : decode cX5_init 33 = .ok (.putfield 19, 3) := by decide +kernel
theorem dX5_init_36 : decode cX5_init 36 = .ok (.aload_n 0, 1) := by decide +kernel
theorem dX5_init_37 : decode cX5_init 37 = .ok (.iconst 3, 1) := by decide +kernel
theorem dX5_init_38 : decode cX5_init 38 = .ok (.newarray .int, 2) := by decide +kernel
theorem dX5_init_40 : decode cX5_init 40 = .ok (.putfield 22, 3) := by decide +kernel
theorem dX5_init_43 : decode cX5_init 43 = .ok (.aload_n 0, 1) := by decide +kernel
theorem dX5_init_44 : decode cX5_init 44 = .ok (.sipush 1024, 3) := by decide +kernel
theorem dX5_init_47 : decode cX5_init 47 = .ok (.newarray .int, 2) := by decide +kernel
theorem dX5_init_49 : decode cX5_init 49 = .ok (.putfield 25, 3) := by decide +kernel
theorem dX5_init_52 : decode cX5_init 52 = .ok (.return_, 1) := by decide +kernel
theorem dX5_thrown_0 : decode cX5_thrown 0 = .ok (.aload_n 0, 1) := by decide +kernel
theorem dX5_thrown_1 : decode cX5_thrown 1 = .ok (.getfield 28, 3) := by decide +kernel
theorem dX5_thrown_4 : decode cX5_thrown 4 = .ok (.ireturn, 1) := by decide +kernel
theorem dX5_fail_0 : decode cX5_fail 0 = .ok (.aload_n 0, 1) := by decide +kernel
theorem dX5_fail_1 : decode cX5_fail 1 = .ok (.iload_n 1, 1) := by decide +kernel
theorem dX5_fail_2 : decode cX5_fail 2 = .ok (.putfield 28, 3) := by decide +kernel
theorem dX5_fail_5 : decode cX5_fail 5 = .ok (.iconst 0, 1) := by decide +kernel
theorem dX5_fail_6 : decode cX5_fail 6 = .ok (.ireturn, 1) := by decide +kernel
theorem dX5_isIn_0 : decode cX5_isIn 0 = .ok (.iload_n 0, 1) := by decide +kernel
theorem dX5_isIn_1 : decode cX5_isIn 1 = .ok (.iload_n 1, 1) := by decide +kernel
theorem dX5_isIn_2 : decode cX5_isIn 2 = .ok (.if_icmp .lt 12, 3) := by decide +kernel
theorem dX5_isIn_5 : decode cX5_isIn 5 = .ok (.iload_n 0, 1) := by decide +kernel
theorem dX5_isIn_6 : decode cX5_isIn 6 = .ok (.iload_n 2, 1) := by decide +kernel
theorem dX5_isIn_7 : decode cX5_isIn 7 = .ok (.if_icmp .gt 7, 3) := by decide +kernel
theorem dX5_isIn_10 : decode cX5_isIn 10 = .ok (.iconst 1, 1) := by decide +kernel
theorem dX5_isIn_11 : decode cX5_isIn 11 = .ok (.goto 4, 3) := by decide +kernel
theorem dX5_isIn_14 : decode cX5_isIn 14 = .ok (.iconst 0, 1) := by decide +kernel
theorem dX5_isIn_15 : decode cX5_isIn 15 = .ok (.ireturn, 1) := by decide +kernel
set_option maxRecDepth 20000 in
theorem ggX5_isRoom_X5_isIn : GoodIn wsX5_isRoom wsX5_isIn := goodIn_r _ [5] (by decide +kernel) (by decide +kernel)
set_option maxRecDepth 20000 in
theorem gX5_isRoom_X5_isIn : GoodIn wsX5_isRoom (va_wsS RX5 35 yX5_isIn wsX5_isIn) := goodIn_app (goodIn_of _ (by decide +kernel)) ggX5_isRoom_X5_isIn
theorem dX5_isRoom_0 : decode cX5_isRoom 0 = .ok (.iload_n 1, 1) := by decide +kernel
theorem dX5_isRoom_1 : decode cX5_isRoom 1 = .ok (.iconst 0, 1) := by decide +kernel
theorem dX5_isRoom_2 : decode cX5_isRoom 2 = .ok (.aload_n 0, 1) := by decide +kernel
theorem dX5_isRoom_3 : decode cX5_isRoom 3 = .ok (.getfield 32, 3) := by decide +kernel
theorem dX5_isRoom_6 : decode cX5_isRoom 6 = .ok (.iconst 1, 1) := by decide +kernel
theorem dX5_isRoom_7 : decode cX5_isRoom 7 = .ok (.isub, 1) := by decide +kernel
theorem dX5_isRoom_8 : decode cX5_isRoom 8 = .ok (.invokestatic 35, 3) := by decide +kernel
theorem dX5_isRoom_11 : decode cX5_isRoom 11 = .ok (.ireturn, 1) := by decide +kernel
set_option maxRecDepth 20000 in
theorem ggX5_isGhost_X5_isIn : GoodIn wsX5_isGhost wsX5_isIn := goodIn_r _ [5] (by decide +kernel) (by decide +kernel)
set_option maxRecDepth 20000 in
theorem gX5_isGhost_X5_isIn : GoodIn wsX5_isGhost (va_wsS RX5 35 yX5_isIn wsX5_isIn) := goodIn_app (goodIn_of _ (by decide +kernel)) ggX5_isGhost_X5_isIn
theorem dX5_isGhost_0 : decode cX5_isGhost 0 = .ok (.iload_n 1, 1) := by decide +kernel
theorem dX5_isGhost_1 : decode cX5_isGhost 1 = .ok (.iconst 0, 1) := by decide +kernel
theorem dX5_isGhost_2 : decode cX5_isGhost 2 = .ok (.aload_n 0, 1) := by decide +kernel
theorem dX5_isGhost_3 : decode cX5_isGhost 3 = .ok (.getfield 39, 3) := by decide +kernel
theorem dX5_isGhost_6 : decode cX5_isGhost 6 = .ok (.iconst 1, 1) := by decide +kernel
theorem dX5_isGhost_7 : decode cX5_isGhost 7 = .ok (.isub, 1) := by decide +kernel
theorem dX5_isGhost_8 : decode cX5_isGhost 8 = .ok (.invokestatic 35, 3) := by decide +kernel
theorem dX5_isGhost_11 : decode cX5_isGhost 11 = .ok (.ireturn, 1) := by decide +kernel
set_option maxRecDepth 20000 in
theorem ggX5_isGuest_X5_isIn : GoodIn wsX5_isGuest wsX5_isIn := goodIn_r _ [5] (by decide +kernel) (by decide +kernel)
set_option maxRecDepth 20000 in
theorem gX5_isGuest_X5_isIn : GoodIn wsX5_isGuest (va_wsS RX5 35 yX5_isIn wsX5_isIn) := goodIn_app (goodIn_of _ (by decide +kernel)) ggX5_isGuest_X5_isIn
theorem dX5_isGuest_0 : decode cX5_isGuest 0 = .ok (.iload_n 1, 1) := by decide +kernel
theorem dX5_isGuest_1 : decode cX5_isGuest 1 = .ok (.iconst 0, 1) := by decide +kernel
theorem dX5_isGuest_2 : decode cX5_isGuest 2 = .ok (.aload_n 0, 1) := by decide +kernel
theorem dX5_isGuest_3 : decode cX5_isGuest 3 = .ok (.getfield 42, 3) := by decide +kernel
theorem dX5_isGuest_6 : decode cX5_isGuest 6 = .ok (.iconst 1, 1) := by decide +kernel
theorem dX5_isGuest_7 : decode cX5_isGuest 7 = .ok (.isub, 1) := by decide +kernel
theorem dX5_isGuest_8 : decode cX5_isGuest 8 = .ok (.invokestatic 35, 3) := by decide +kernel
theorem dX5_isGuest_11 : decode cX5_isGuest 11 = .ok (.ireturn, 1) := by decide +kernel
theorem dX5_ro_0 : decode cX5_ro 0 = .ok (.aload_n 0, 1) := by decide +kernel
theorem dX5_ro_1 : decode cX5_ro 1 = .ok (.getfield 9, 3) := by decide +kernel
theorem dX5_ro_4 : decode cX5_ro 4 = .ok (.iconst 5, 1) := by decide +kernel
theorem dX5_ro_5 : decode cX5_ro 5 = .ok (.iload_n 1, 1) := by decide +kernel
theorem dX5_ro_6 : decode cX5_ro 6 = .ok (.imul, 1) := by decide +kernel
theorem dX5_ro_7 : decode cX5_ro 7 = .ok (.iload_n 2, 1) := by decide +kernel
theorem dX5_ro_8 : decode cX5_ro 8 = .ok (.iadd, 1) := by decide +kernel
theorem dX5_ro_9 : decode cX5_ro 9 = .ok (.iaload, 1) := by decide +kernel
theorem dX5_ro_10 : decode cX5_ro 10 = .ok (.ireturn, 1) := by decide +kernel
theorem dX5_addRo_0 : decode cX5_addRo 0 = .ok (.aload_n 0, 1) := by decide +kernel
theorem dX5_addRo_1 : decode cX5_addRo 1 = .ok (.getfield 9, 3) := by decide +kernel
theorem dX5_addRo_4 : decode cX5_addRo 4 = .ok (.iconst 5, 1) := by decide +kernel
theorem dX5_addRo_5 : decode cX5_addRo 5 = .ok (.iload_n 1, 1) := by decide +kernel
theorem dX5_addRo_6 : decode cX5_addRo 6 = .ok (.imul, 1) := by decide +kernel
theorem dX5_addRo_7 : decode cX5_addRo 7 = .ok (.iload_n 2, 1) := by decide +kernel
theorem dX5_addRo_8 : decode cX5_addRo 8 = .ok (.iadd, 1) := by decide +kernel
theorem dX5_addRo_9 : decode cX5_addRo 9 = .ok (.dup2, 1) := by decide +kernel
theorem dX5_addRo_10 : decode cX5_addRo 10 = .ok (.iaload, 1) := by decide +kernel
theorem dX5_addRo_11 : decode cX5_addRo 11 = .ok (.iload_n 3, 1) := by decide +kernel
theorem dX5_addRo_12 : decode cX5_addRo 12 = .ok (.iadd, 1) := by decide +kernel
theorem dX5_addRo_13 : decode cX5_addRo 13 = .ok (.iastore, 1) := by decide +kernel
theorem dX5_addRo_14 : decode cX5_addRo 14 = .ok (.return_, 1) := by decide +kernel
theorem dX5_sp_0 : decode cX5_sp 0 = .ok (.aload_n 0, 1) := by decide +kernel
theorem dX5_sp_1 : decode cX5_sp 1 = .ok (.getfield 16, 3) := by decide +kernel
theorem dX5_sp_4 : decode cX5_sp 4 = .ok (.iconst 4, 1) := by decide +kernel
theorem dX5_sp_5 : decode cX5_sp 5 = .ok (.iload_n 1, 1) := by decide +kernel
theorem dX5_sp_6 : decode cX5_sp 6 = .ok (.imul, 1) := by decide +kernel
theorem dX5_sp_7 : decode cX5_sp 7 = .ok (.iload_n 2, 1) := by decide +kernel
theorem dX5_sp_8 : decode cX5_sp 8 = .ok (.iadd, 1) := by decide +kernel
theorem dX5_sp_9 : decode cX5_sp 9 = .ok (.iaload, 1) := by decide +kernel
theorem dX5_sp_10 : decode cX5_sp 10 = .ok (.ireturn, 1) := by decide +kernel
theorem dX5_pe_0 : decode cX5_pe 0 = .ok (.aload_n 0, 1) := by decide +kernel
theorem dX5_pe_1 : decode cX5_pe 1 = .ok (.getfield 19, 3) := by decide +kernel
theorem dX5_pe_4 : decode cX5_pe 4 = .ok (.bipush 7, 2) := by decide +kernel
theorem dX5_pe_6 : decode cX5_pe 6 = .ok (.iload_n 1, 1) := by decide +kernel
theorem dX5_pe_7 : decode cX5_pe 7 = .ok (.imul, 1) := by decide +kernel
theorem dX5_pe_8 : decode cX5_pe 8 = .ok (.iload_n 2, 1) := by decide +kernel
theorem dX5_pe_9 : decode cX5_pe 9 = .ok (.iadd, 1) := by decide +kernel
theorem dX5_pe_10 : decode cX5_pe 10 = .ok (.iaload, 1) := by decide +kernel
theorem dX5_pe_11 : decode cX5_pe 11 = .ok (.ireturn, 1) := by decide +kernel
theorem dX5_set_0 : decode cX5_set 0 = .ok (.aload_n 0, 1) := by decide +kernel
theorem dX5_set_1 : decode cX5_set 1 = .ok (.getfield 19, 3) := by decide +kernel
theorem dX5_set_4 : decode cX5_set 4 = .ok (.bipush 7, 2) := by decide +kernel
theorem dX5_set_6 : decode cX5_set 6 = .ok (.iload_n 1, 1) := by decide +kernel
theorem dX5_set_7 : decode cX5_set 7 = .ok (.imul, 1) := by decide +kernel
theorem dX5_set_8 : decode cX5_set 8 = .ok (.iload_n 2, 1) := by decide +kernel
theorem dX5_set_9 : decode cX5_set 9 = .ok (.iadd, 1) := by decide +kernel
theorem dX5_set_10 : decode cX5_set 10 = .ok (.iload_n 3, 1) := by decide +kernel
theorem dX5_set_11 : decode cX5_set 11 = .ok (.iastore, 1) := by decide +kernel
theorem dX5_set_12 : decode cX5_set 12 = .ok (.return_, 1) := by decide +kernel
set_option maxRecDepth 20000 in
theorem ggX5_furnish_X5_isIn : GoodIn wsX5_furnish wsX5_isIn := goodIn_r _ [12] (by decide +kernel) (by decide +kernel)
set_option maxRecDepth 20000 in
theorem gX5_furnish_X5_isIn : GoodIn wsX5_furnish (va_wsS RX5 35 yX5_isIn wsX5_isIn) := goodIn_app (goodIn_of _ (by decide +kernel)) ggX5_furnish_X5_isIn
set_option maxRecDepth 20000 in
theorem ggX5_furnish_X5_fail : GoodIn wsX5_furnish wsX5_fail := goodIn_r _ [16, 1, 17, 18, 19, 20, 21, 22, 23, 24, 25, 26, 27] (by decide +kernel) (by decide +kernel)
set_option maxRecDepth 20000 in
theorem gX5_furnish_X5_fail : GoodIn wsX5_furnish (wsV RX5 45 RX5 yX5_fail wsX5_fail) := goodIn_app (goodIn_of _ (by decide +kernel)) ggX5_furnish_X5_fail
theorem dX5_furnish_0 : decode cX5_furnish 0 = .ok (.aload_n 0, 1) := by decide +kernel
theorem dX5_furnish_1 : decode cX5_furnish 1 = .ok (.iconst 0, 1) := by decide +kernel
theorem dX5_furnish_2 : decode cX5_furnish 2 = .ok (.putfield 28, 3) := by decide +kernel
theorem dX5_furnish_5 : decode cX5_furnish 5 = .ok (.iload_n 1, 1) := by decide +kernel
theorem dX5_furnish_6 : decode cX5_furnish 6 = .ok (.iconst 1, 1) := by decide +kernel
theorem dX5_furnish_7 : decode cX5_furnish 7 = .ok (.bipush 6, 2) := by decide +kernel
theorem dX5_furnish_9 : decode cX5_furnish 9 = .ok (.invokestatic 35, 3) := by decide +kernel
theorem dX5_furnish_12 : decode cX5_furnish 12 = .ok (.ifCond .eq 23, 3) := by decide +kernel
theorem dX5_furnish_15 : decode cX5_furnish 15 = .ok (.iload_n 2, 1) := by decide +kernel
theorem dX5_furnish_16 : decode cX5_furnish 16 = .ok (.iconst 0, 1) := by decide +kernel
theorem dX5_furnish_17 : decode cX5_furnish 17 = .ok (.bipush 9, 2) := by decide +kernel
theorem dX5_furnish_19 : decode cX5_furnish 19 = .ok (.invokestatic 35, 3) := by decide +kernel
theorem dX5_furnish_22 : decode cX5_furnish 22 = .ok (.ifCond .eq 13, 3) := by decide +kernel
theorem dX5_furnish_25 : decode cX5_furnish 25 = .ok (.iload_n 3, 1) := by decide +kernel
theorem dX5_furnish_26 : decode cX5_furnish 26 = .ok (.iconst 0, 1) := by decide +kernel
theorem dX5_furnish_27 : decode cX5_furnish 27 = .ok (.bipush 100, 2) := by decide +kernel
theorem dX5_furnish_29 : decode cX5_furnish 29 = .ok (.invokestatic 35, 3) := by decide +kernel
theorem dX5_furnish_32 : decode cX5_furnish 32 = .ok (.ifCond .ne 9, 3) := by decide +kernel
theorem dX5_furnish_35 : decode cX5_furnish 35 = .ok (.aload_n 0, 1) := by decide +kernel
theorem dX5_furnish_36 : decode cX5_furnish 36 = .ok (.iconst 1, 1) := by decide +kernel
theorem dX5_furnish_37 : decode cX5_furnish 37 = .ok (.invokevirtual 45, 3) := by decide +kernel
theorem dX5_furnish_40 : decode cX5_furnish 40 = .ok (.ireturn, 1) := by decide +kernel
theorem dX5_furnish_41 : decode cX5_furnish 41 = .ok (.aload_n 0, 1) := by decide +kernel
theorem dX5_furnish_42 : decode cX5_furnish 42 = .ok (.getfield 32, 3) := by decide +kernel
theorem dX5_furnish_45 : decode cX5_furnish 45 = .ok (.bipush 10, 2) := by decide +kernel
theorem dX5_furnish_47 : decode cX5_furnish 47 = .ok (.if_icmp .ne 9, 3) := by decide +kernel
theorem dX5_furnish_50 : decode cX5_furnish 50 = .ok (.aload_n 0, 1) := by decide +kernel
theorem dX5_furnish_51 : decode cX5_furnish 51 = .ok (.iconst 2, 1) := by decide +kernel
theorem dX5_furnish_52 : decode cX5_furnish 52 = .ok (.invokevirtual 45, 3) := by decide +kernel
theorem dX5_furnish_55 : decode cX5_furnish 55 = .ok (.ireturn, 1) := by decide +kernel
theorem dX5_furnish_56 : decode cX5_furnish 56 = .ok (.iconst 5, 1) := by decide +kernel
theorem dX5_furnish_57 : decode cX5_furnish 57 = .ok (.newarray .int, 2) := by decide +kernel
theorem dX5_furnish_59 : decode cX5_furnish 59 = .ok (.dup, 1) := by decide +kernel
theorem dX5_furnish_60 : decode cX5_furnish 60 = .ok (.iconst 0, 1) := by decide +kernel
theorem dX5_furnish_61 : decode cX5_furnish 61 = .ok (.iload_n 1, 1) := by decide +kernel
theorem dX5_furnish_62 : decode cX5_furnish 62 = .ok (.iastore, 1) := by decide +kernel
theorem dX5_furnish_63 : decode cX5_furnish 63 = .ok (.dup, 1) := by decide +kernel
theorem dX5_furnish_64 : decode cX5_furnish 64 = .ok (.iconst 1, 1) := by decide +kernel
theorem dX5_furnish_65 : decode cX5_furnish 65 = .ok (.iload_n 2, 1) := by decide +kernel
theorem dX5_furnish_66 : decode cX5_furnish 66 = .ok (.iastore, 1) := by decide +kernel
theorem dX5_furnish_67 : decode cX5_furnish 67 = .ok (.dup, 1) := by decide +kernel
theorem dX5_furnish_68 : decode cX5_furnish 68 = .ok (.iconst 2, 1) := by decide +kernel
theorem dX5_furnish_69 : decode cX5_furnish 69 = .ok (.iload_n 3, 1) := by decide +kernel
theorem dX5_furnish_70 : decode cX5_furnish 70 = .ok (.iastore, 1) := by decide +kernel
theorem dX5_furnish_71 : decode cX5_furnish 71 = .ok (.dup, 1) := by decide +kernel
theorem dX5_furnish_72 : decode cX5_furnish 72 = .ok (.iconst 3, 1) := by decide +kernel
theorem dX5_furnish_73 : decode cX5_furnish 73 = .ok (.iconst 0, 1) := by decide +kernel
theorem dX5_furnish_74 : decode cX5_furnish 74 = .ok (.iastore, 1) := by decide +kernel
theorem dX5_furnish_75 : decode cX5_furnish 75 = .ok (.dup, 1) := by decide +kernel
theorem dX5_furnish_76 : decode cX5_furnish 76 = .ok (.iconst 4, 1) := by decide +kernel
theorem dX5_furnish_77 : decode cX5_furnish 77 = .ok (.iconst 0, 1) := by decide +kernel
theorem dX5_furnish_78 : decode cX5_furnish 78 = .ok (.iastore, 1) := by decide +kernel
theorem dX5_furnish_79 : decode cX5_furnish 79 = .ok (.astore 4, 2) := by decide +kernel
theorem dX5_furnish_81 : decode cX5_furnish 81 = .ok (.aload 4, 2) := by decide +kernel
theorem dX5_furnish_83 : decode cX5_furnish 83 = .ok (.iconst 0, 1) := by decide +kernel
theorem dX5_furnish_84 : decode cX5_furnish 84 = .ok (.aload_n 0, 1) := by decide +kernel
theorem dX5_furnish_85 : decode cX5_furnish 85 = .ok (.getfield 9, 3) := by decide +kernel
theorem dX5_furnish_88 : decode cX5_furnish 88 = .ok (.iconst 5, 1) := by decide +kernel
theorem dX5_furnish_89 : decode cX5_furnish 89 = .ok (.aload_n 0, 1) := by decide +kernel
theorem dX5_furnish_90 : decode cX5_furnish 90 = .ok (.getfield 32, 3) := by decide +kernel
theorem dX5_furnish_93 : decode cX5_furnish 93 = .ok (.imul, 1) := by decide +kernel
theorem dX5_furnish_94 : decode cX5_furnish 94 = .ok (.iconst 5, 1) := by decide +kernel
theorem dX5_furnish_95 : decode cX5_furnish 95 = .ok (.invokestatic 49, 3) := by decide +kernel
theorem dX5_furnish_98 : decode cX5_furnish 98 = .ok (.aload_n 0, 1) := by decide +kernel
theorem dX5_furnish_99 : decode cX5_furnish 99 = .ok (.dup, 1) := by decide +kernel
theorem dX5_furnish_100 : decode cX5_furnish 100 = .ok (.getfield 32, 3) := by decide +kernel
theorem dX5_furnish_103 : decode cX5_furnish 103 = .ok (.iconst 1, 1) := by decide +kernel
theorem dX5_furnish_104 : decode cX5_furnish 104 = .ok (.iadd, 1) := by decide +kernel
theorem dX5_furnish_105 : decode cX5_furnish 105 = .ok (.putfield 32, 3) := by decide +kernel
theorem dX5_furnish_108 : decode cX5_furnish 108 = .ok (.aload_n 0, 1) := by decide +kernel
theorem dX5_furnish_109 : decode cX5_furnish 109 = .ok (.getfield 32, 3) := by decide +kernel
theorem dX5_furnish_112 : decode cX5_furnish 112 = .ok (.iconst 1, 1) := by decide +kernel
theorem dX5_furnish_113 : decode cX5_furnish 113 = .ok (.isub, 1) := by decide +kernel
theorem dX5_furnish_114 : decode cX5_furnish 114 = .ok (.ireturn, 1) := by decide +kernel
set_option maxRecDepth 20000 in
theorem ggX5_door_X5_isRoom : GoodIn wsX5_door wsX5_isRoom := goodIn_r _ [8, 9, 10, 11, 7, 12, 17, 18, 19, 20, 21, 22, 23, 24, 25, 26, 27] (by decide +kernel) (by decide +kernel)
set_option maxRecDepth 20000 in
theorem gX5_door_X5_isRoom : GoodIn wsX5_door (wsV RX5 55 RX5 yX5_isRoom wsX5_isRoom) := goodIn_app (goodIn_of _ (by decide +kernel)) ggX5_door_X5_isRoom
set_option maxRecDepth 20000 in
theorem ggX5_door_X5_fail : GoodIn wsX5_door wsX5_fail := goodIn_r _ [16, 1, 17, 18, 19, 20, 21, 22, 23, 24, 25, 26, 27] (by decide +kernel) (by decide +kernel)
set_option maxRecDepth 20000 in
theorem gX5_door_X5_fail : GoodIn wsX5_door (wsV RX5 45 RX5 yX5_fail wsX5_fail) := goodIn_app (goodIn_of _ (by decide +kernel)) ggX5_door_X5_fail
theorem dX5_door_0 : decode cX5_door 0 = .ok (.aload_n 0, 1) := by decide +kernel
theorem dX5_door_1 : decode cX5_door 1 = .ok (.iconst 0, 1) := by decide +kernel
theorem dX5_door_2 : decode cX5_door 2 = .ok (.putfield 28, 3) := by decide +kernel
theorem dX5_door_5 : decode cX5_door 5 = .ok (.aload_n 0, 1) := by decide +kernel
theorem dX5_door_6 : decode cX5_door 6 = .ok (.iload_n 1, 1) := by decide +kernel
theorem dX5_door_7 : decode cX5_door 7 = .ok (.invokevirtual 55, 3) := by decide +kernel
theorem dX5_door_10 : decode cX5_door 10 = .ok (.ifCond .eq 11, 3) := by decide +kernel
theorem dX5_door_13 : decode cX5_door 13 = .ok (.aload_n 0, 1) := by decide +kernel
theorem dX5_door_14 : decode cX5_door 14 = .ok (.iload_n 2, 1) := by decide +kernel
theorem dX5_door_15 : decode cX5_door 15 = .ok (.invokevirtual 55, 3) := by decide +kernel
theorem dX5_door_18 : decode cX5_door 18 = .ok (.ifCond .ne 9, 3) := by decide +kernel
theorem dX5_door_21 : decode cX5_door 21 = .ok (.aload_n 0, 1) := by decide +kernel
theorem dX5_door_22 : decode cX5_door 22 = .ok (.iconst 1, 1) := by decide +kernel
theorem dX5_door_23 : decode cX5_door 23 = .ok (.invokevirtual 45, 3) := by decide +kernel
theorem dX5_door_26 : decode cX5_door 26 = .ok (.ireturn, 1) := by decide +kernel
theorem dX5_door_27 : decode cX5_door 27 = .ok (.iload_n 1, 1) := by decide +kernel
theorem dX5_door_28 : decode cX5_door 28 = .ok (.iload_n 2, 1) := by decide +kernel
theorem dX5_door_29 : decode cX5_door 29 = .ok (.if_icmp .ne 9, 3) := by decide +kernel
theorem dX5_door_32 : decode cX5_door 32 = .ok (.aload_n 0, 1) := by decide +kernel
theorem dX5_door_33 : decode cX5_door 33 = .ok (.iconst 2, 1) := by decide +kernel
theorem dX5_door_34 : decode cX5_door 34 = .ok (.invokevirtual 45, 3) := by decide +kernel
theorem dX5_door_37 : decode cX5_door 37 = .ok (.ireturn, 1) := by decide +kernel
theorem dX5_door_38 : decode cX5_door 38 = .ok (.aload_n 0, 1) := by decide +kernel
theorem dX5_door_39 : decode cX5_door 39 = .ok (.getfield 13, 3) := by decide +kernel
theorem dX5_door_42 : decode cX5_door 42 = .ok (.iload_n 1, 1) := by decide +kernel
theorem dX5_door_43 : decode cX5_door 43 = .ok (.iaload, 1) := by decide +kernel
theorem dX5_door_44 : decode cX5_door 44 = .ok (.iload_n 2, 1) := by decide +kernel
theorem dX5_door_45 : decode cX5_door 45 = .ok (.ishr, 1) := by decide +kernel
theorem dX5_door_46 : decode cX5_door 46 = .ok (.iconst 1, 1) := by decide +kernel
theorem dX5_door_47 : decode cX5_door 47 = .ok (.iand, 1) := by decide +kernel
theorem dX5_door_48 : decode cX5_door 48 = .ok (.iconst 1, 1) := by decide +kernel
theorem dX5_door_49 : decode cX5_door 49 = .ok (.if_icmp .ne 8, 3) := by decide +kernel
theorem dX5_door_52 : decode cX5_door 52 = .ok (.aload_n 0, 1) := by decide +kernel
theorem dX5_door_53 : decode cX5_door 53 = .ok (.getfield 59, 3) := by decide +kernel
theorem dX5_door_56 : decode cX5_door 56 = .ok (.ireturn, 1) := by decide +kernel
theorem dX5_door_57 : decode cX5_door 57 = .ok (.aload_n 0, 1) := by decide +kernel
theorem dX5_door_58 : decode cX5_door 58 = .ok (.getfield 59, 3) := by decide +kernel
theorem dX5_door_61 : decode cX5_door 61 = .ok (.bipush 20, 2) := by decide +kernel
theorem dX5_door_63 : decode cX5_door 63 = .ok (.if_icmp .ne 9, 3) := by decide +kernel
theorem dX5_door_66 : decode cX5_door 66 = .ok (.aload_n 0, 1) := by decide +kernel
theorem dX5_door_67 : decode cX5_door 67 = .ok (.iconst 3, 1) := by decide +kernel
theorem dX5_door_68 : decode cX5_door 68 = .ok (.invokevirtual 45, 3) := by decide +kernel
theorem dX5_door_71 : decode cX5_door 71 = .ok (.ireturn, 1) := by decide +kernel
theorem dX5_door_72 : decode cX5_door 72 = .ok (.aload_n 0, 1) := by decide +kernel
theorem dX5_door_73 : decode cX5_door 73 = .ok (.getfield 13, 3) := by decide +kernel
theorem dX5_door_76 : decode cX5_door 76 = .ok (.iload_n 1, 1) := by decide +kernel
theorem dX5_door_77 : decode cX5_door 77 = .ok (.dup2, 1) := by decide +kernel
theorem dX5_door_78 : decode cX5_door 78 = .ok (.iaload, 1) := by decide +kernel
theorem dX5_door_79 : decode cX5_door 79 = .ok (.iconst 1, 1) := by decide +kernel
theorem dX5_door_80 : decode cX5_door 80 = .ok (.iload_n 2, 1) := by decide +kernel
theorem dX5_door_81 : decode cX5_door 81 = .ok (.ishl, 1) := by decide +kernel
theorem dX5_door_82 : decode cX5_door 82 = .ok (.ior, 1) := by decide +kernel
theorem dX5_door_83 : decode cX5_door 83 = .ok (.iastore, 1) := by decide +kernel
theorem dX5_door_84 : decode cX5_door 84 = .ok (.aload_n 0, 1) := by decide +kernel
theorem dX5_door_85 : decode cX5_door 85 = .ok (.getfield 13, 3) := by decide +kernel
theorem dX5_door_88 : decode cX5_door 88 = .ok (.iload_n 2, 1) := by decide +kernel
theorem dX5_door_89 : decode cX5_door 89 = .ok (.dup2, 1) := by decide +kernel
theorem dX5_door_90 : decode cX5_door 90 = .ok (.iaload, 1) := by decide +kernel
theorem dX5_door_91 : decode cX5_door 91 = .ok (.iconst 1, 1) := by decide +kernel
theorem dX5_door_92 : decode cX5_door 92 = .ok (.iload_n 1, 1) := by decide +kernel
theorem dX5_door_93 : decode cX5_door 93 = .ok (.ishl, 1) := by decide +kernel
theorem dX5_door_94 : decode cX5_door 94 = .ok (.ior, 1) := by decide +kernel
theorem dX5_door_95 : decode cX5_door 95 = .ok (.iastore, 1) := by decide +kernel
theorem dX5_door_96 : decode cX5_door 96 = .ok (.aload_n 0, 1) := by decide +kernel
theorem dX5_door_97 : decode cX5_door 97 = .ok (.dup, 1) := by decide +kernel
theorem dX5_door_98 : decode cX5_door 98 = .ok (.getfield 59, 3) := by decide +kernel
theorem dX5_door_101 : decode cX5_door 101 = .ok (.iconst 1, 1) := by decide +kernel
theorem dX5_door_102 : decode cX5_door 102 = .ok (.iadd, 1) := by decide +kernel
theorem dX5_door_103 : decode cX5_door 103 = .ok (.putfield 59, 3) := by decide +kernel
theorem dX5_door_106 : decode cX5_door 106 = .ok (.aload_n 0, 1) := by decide +kernel
theorem dX5_door_107 : decode cX5_door 107 = .ok (.getfield 59, 3) := by decide +kernel
theorem dX5_door_110 : decode cX5_door 110 = .ok (.ireturn, 1) := by decide +kernel
set_option maxRecDepth 20000 in
theorem ggX5_haunt_X5_isRoom : GoodIn wsX5_haunt wsX5_isRoom := goodIn_r _ [13, 14, 15, 16, 12, 17, 22, 23, 24, 25, 26, 27, 28, 29, 30, 31, 32] (by decide +kernel) (by decide +kernel)
set_option maxRecDepth 20000 in
theorem gX5_haunt_X5_isRoom : GoodIn wsX5_haunt (wsV RX5 55 RX5 yX5_isRoom wsX5_isRoom) := goodIn_app (goodIn_of _ (by decide +kernel)) ggX5_haunt_X5_isRoom
set_option maxRecDepth 20000 in
theorem ggX5_haunt_X5_fail : GoodIn wsX5_haunt wsX5_fail := goodIn_r _ [21, 1, 22, 23, 24, 25, 26, 27, 28, 29, 30, 31, 32] (by decide +kernel) (by decide +kernel)
set_option maxRecDepth 20000 in
theorem gX5_haunt_X5_fail : GoodIn wsX5_haunt (wsV RX5 45 RX5 yX5_fail wsX5_fail) := goodIn_app (goodIn_of _ (by decide +kernel)) ggX5_haunt_X5_fail
set_option maxRecDepth 20000 in
theorem ggX5_haunt_X5_isIn : GoodIn wsX5_haunt wsX5_isIn := goodIn_r _ [17] (by decide +kernel) (by decide +kernel)
set_option maxRecDepth 20000 in
theorem gX5_haunt_X5_isIn : GoodIn wsX5_haunt (va_wsS RX5 35 yX5_isIn wsX5_isIn) := goodIn_app (goodIn_of _ (by decide +kernel)) ggX5_haunt_X5_isIn
theorem dX5_haunt_0 : decode cX5_haunt 0 = .ok (.aload_n 0, 1) := by decide +kernel
theorem dX5_haunt_1 : decode cX5_haunt 1 = .ok (.iconst 0, 1) := by decide +kernel
theorem dX5_haunt_2 : decode cX5_haunt 2 = .ok (.putfield 28, 3) := by decide +kernel
theorem dX5_haunt_5 : decode cX5_haunt 5 = .ok (.aload_n 0, 1) := by decide +kernel
theorem dX5_haunt_6 : decode cX5_haunt 6 = .ok (.iload_n 1, 1) := by decide +kernel
theorem dX5_haunt_7 : decode cX5_haunt 7 = .ok (.invokevirtual 55, 3) := by decide +kernel
theorem dX5_haunt_10 : decode cX5_haunt 10 = .ok (.ifCond .ne 9, 3) := by decide +kernel
theorem dX5_haunt_13 : decode cX5_haunt 13 = .ok (.aload_n 0, 1) := by decide +kernel
theorem dX5_haunt_14 : decode cX5_haunt 14 = .ok (.iconst 1, 1) := by decide +kernel
theorem dX5_haunt_15 : decode cX5_haunt 15 = .ok (.invokevirtual 45, 3) := by decide +kernel
theorem dX5_haunt_18 : decode cX5_haunt 18 = .ok (.ireturn, 1) := by decide +kernel
theorem dX5_haunt_19 : decode cX5_haunt 19 = .ok (.iload_n 2, 1) := by decide +kernel
theorem dX5_haunt_20 : decode cX5_haunt 20 = .ok (.iconst 1, 1) := by decide +kernel
theorem dX5_haunt_21 : decode cX5_haunt 21 = .ok (.bipush 9, 2) := by decide +kernel
theorem dX5_haunt_23 : decode cX5_haunt 23 = .ok (.invokestatic 35, 3) := by decide +kernel
theorem dX5_haunt_26 : decode cX5_haunt 26 = .ok (.ifCond .eq 26, 3) := by decide +kernel
theorem dX5_haunt_29 : decode cX5_haunt 29 = .ok (.iload_n 3, 1) := by decide +kernel
theorem dX5_haunt_30 : decode cX5_haunt 30 = .ok (.iconst 0, 1) := by decide +kernel
theorem dX5_haunt_31 : decode cX5_haunt 31 = .ok (.bipush 11, 2) := by decide +kernel
theorem dX5_haunt_33 : decode cX5_haunt 33 = .ok (.invokestatic 35, 3) := by decide +kernel
theorem dX5_haunt_36 : decode cX5_haunt 36 = .ok (.ifCond .eq 16, 3) := by decide +kernel
theorem dX5_haunt_39 : decode cX5_haunt 39 = .ok (.iload 4, 2) := by decide +kernel
theorem dX5_haunt_41 : decode cX5_haunt 41 = .ok (.iload_n 3, 1) := by decide +kernel
theorem dX5_haunt_42 : decode cX5_haunt 42 = .ok (.if_icmp .le 10, 3) := by decide +kernel
theorem dX5_haunt_45 : decode cX5_haunt 45 = .ok (.iload 4, 2) := by decide +kernel
theorem dX5_haunt_47 : decode cX5_haunt 47 = .ok (.bipush 12, 2) := by decide +kernel
theorem dX5_haunt_49 : decode cX5_haunt 49 = .ok (.if_icmp .le 9, 3) := by decide +kernel
theorem dX5_haunt_52 : decode cX5_haunt 52 = .ok (.aload_n 0, 1) := by decide +kernel
theorem dX5_haunt_53 : decode cX5_haunt 53 = .ok (.iconst 2, 1) := by decide +kernel
theorem dX5_haunt_54 : decode cX5_haunt 54 = .ok (.invokevirtual 45, 3) := by decide +kernel
theorem dX5_haunt_57 : decode cX5_haunt 57 = .ok (.ireturn, 1) := by decide +kernel
theorem dX5_haunt_58 : decode cX5_haunt 58 = .ok (.aload_n 0, 1) := by decide +kernel
theorem dX5_haunt_59 : decode cX5_haunt 59 = .ok (.getfield 39, 3) := by decide +kernel
theorem dX5_haunt_62 : decode cX5_haunt 62 = .ok (.iconst 5, 1) := by decide +kernel
theorem dX5_haunt_63 : decode cX5_haunt 63 = .ok (.if_icmp .ne 9, 3) := by decide +kernel
theorem dX5_haunt_66 : decode cX5_haunt 66 = .ok (.aload_n 0, 1) := by decide +kernel
theorem dX5_haunt_67 : decode cX5_haunt 67 = .ok (.iconst 3, 1) := by decide +kernel
theorem dX5_haunt_68 : decode cX5_haunt 68 = .ok (.invokevirtual 45, 3) := by decide +kernel
theorem dX5_haunt_71 : decode cX5_haunt 71 = .ok (.ireturn, 1) := by decide +kernel
theorem dX5_haunt_72 : decode cX5_haunt 72 = .ok (.iconst 4, 1) := by decide +kernel
theorem dX5_haunt_73 : decode cX5_haunt 73 = .ok (.newarray .int, 2) := by decide +kernel
theorem dX5_haunt_75 : decode cX5_haunt 75 = .ok (.dup, 1) := by decide +kernel
theorem dX5_haunt_76 : decode cX5_haunt 76 = .ok (.iconst 0, 1) := by decide +kernel
theorem dX5_haunt_77 : decode cX5_haunt 77 = .ok (.iload_n 1, 1) := by decide +kernel
theorem dX5_haunt_78 : decode cX5_haunt 78 = .ok (.iastore, 1) := by decide +kernel
theorem dX5_haunt_79 : decode cX5_haunt 79 = .ok (.dup, 1) := by decide +kernel
theorem dX5_haunt_80 : decode cX5_haunt 80 = .ok (.iconst 1, 1) := by decide +kernel
theorem dX5_haunt_81 : decode cX5_haunt 81 = .ok (.iload_n 2, 1) := by decide +kernel
theorem dX5_haunt_82 : decode cX5_haunt 82 = .ok (.iastore, 1) := by decide +kernel
theorem dX5_haunt_83 : decode cX5_haunt 83 = .ok (.dup, 1) := by decide +kernel
theorem dX5_haunt_84 : decode cX5_haunt 84 = .ok (.iconst 2, 1) := by decide +kernel
theorem dX5_haunt_85 : decode cX5_haunt 85 = .ok (.iload_n 3, 1) := by decide +kernel
theorem dX5_haunt_86 : decode cX5_haunt 86 = .ok (.iastore, 1) := by decide +kernel
theorem dX5_haunt_87 : decode cX5_haunt 87 = .ok (.dup, 1) := by decide +kernel
theorem dX5_haunt_88 : decode cX5_haunt 88 = .ok (.iconst 3, 1) := by decide +kernel
theorem dX5_haunt_89 : decode cX5_haunt 89 = .ok (.iload 4, 2) := by decide +kernel
theorem dX5_haunt_91 : decode cX5_haunt 91 = .ok (.iastore, 1) := by decide +kernel
theorem dX5_haunt_92 : decode cX5_haunt 92 = .ok (.astore 5, 2) := by decide +kernel
theorem dX5_haunt_94 : decode cX5_haunt 94 = .ok (.aload 5, 2) := by decide +kernel
theorem dX5_haunt_96 : decode cX5_haunt 96 = .ok (.iconst 0, 1) := by decide +kernel
theorem dX5_haunt_97 : decode cX5_haunt 97 = .ok (.aload_n 0, 1) := by decide +kernel
theorem dX5_haunt_98 : decode cX5_haunt 98 = .ok (.getfield 16, 3) := by decide +kernel
theorem dX5_haunt_101 : decode cX5_haunt 101 = .ok (.iconst 4, 1) := by decide +kernel
theorem dX5_haunt_102 : decode cX5_haunt 102 = .ok (.aload_n 0, 1) := by decide +kernel
theorem dX5_haunt_103 : decode cX5_haunt 103 = .ok (.getfield 39, 3) := by decide +kernel
theorem dX5_haunt_106 : decode cX5_haunt 106 = .ok (.imul, 1) := by decide +kernel
theorem dX5_haunt_107 : decode cX5_haunt 107 = .ok (.iconst 4, 1) := by decide +kernel
theorem dX5_haunt_108 : decode cX5_haunt 108 = .ok (.invokestatic 49, 3) := by decide +kernel
theorem dX5_haunt_111 : decode cX5_haunt 111 = .ok (.aload_n 0, 1) := by decide +kernel
theorem dX5_haunt_112 : decode cX5_haunt 112 = .ok (.dup, 1) := by decide +kernel
theorem dX5_haunt_113 : decode cX5_haunt 113 = .ok (.getfield 39, 3) := by decide +kernel
theorem dX5_haunt_116 : decode cX5_haunt 116 = .ok (.iconst 1, 1) := by decide +kernel
theorem dX5_haunt_117 : decode cX5_haunt 117 = .ok (.iadd, 1) := by decide +kernel
theorem dX5_haunt_118 : decode cX5_haunt 118 = .ok (.putfield 39, 3) := by decide +kernel
theorem dX5_haunt_121 : decode cX5_haunt 121 = .ok (.aload_n 0, 1) := by decide +kernel
theorem dX5_haunt_122 : decode cX5_haunt 122 = .ok (.getfield 39, 3) := by decide +kernel
theorem dX5_haunt_125 : decode cX5_haunt 125 = .ok (.iconst 1, 1) := by decide +kernel
theorem dX5_haunt_126 : decode cX5_haunt 126 = .ok (.isub, 1) := by decide +kernel
theorem dX5_haunt_127 : decode cX5_haunt 127 = .ok (.ireturn, 1) := by decide +kernel
set_option maxRecDepth 20000 in
theorem ggX5_next_J6_numberOfTrailingZeros_0f7a4 : GoodIn wsX5_next wsJ6_numberOfTrailingZeros_0f7a4 := goodIn_r _ [5, 6] (by decide +kernel) (by decide +kernel)
set_option maxRecDepth 20000 in
theorem gX5_next_J6_numberOfTrailingZeros_0f7a4 : GoodIn wsX5_next (va_wsS RX5 62 yJ6_numberOfTrailingZeros_0f7a4 wsJ6_numberOfTrailingZeros_0f7a4) := goodIn_app (goodIn_of _ (by decide +kernel)) ggX5_next_J6_numberOfTrailingZeros_0f7a4
theorem dX5_next_0 : decode cX5_next 0 = .ok (.aload_n 0, 1) := by decide +kernel
theorem dX5_next_1 : decode cX5_next 1 = .ok (.getfield 13, 3) := by decide +kernel
theorem dX5_next_4 : decode cX5_next 4 = .ok (.iload_n 1, 1) := by decide +kernel
theorem dX5_next_5 : decode cX5_next 5 = .ok (.iaload, 1) := by decide +kernel
theorem dX5_next_6 : decode cX5_next 6 = .ok (.ifCond .ne 5, 3) := by decide +kernel
theorem dX5_next_9 : decode cX5_next 9 = .ok (.iload_n 1, 1) := by decide +kernel
theorem dX5_next_10 : decode cX5_next 10 = .ok (.ireturn, 1) := by decide +kernel
theorem dX5_next_11 : decode cX5_next 11 = .ok (.aload_n 0, 1) := by decide +kernel
theorem dX5_next_12 : decode cX5_next 12 = .ok (.getfield 13, 3) := by decide +kernel
theorem dX5_next_15 : decode cX5_next 15 = .ok (.iload_n 1, 1) := by decide +kernel
theorem dX5_next_16 : decode cX5_next 16 = .ok (.iaload, 1) := by decide +kernel
theorem dX5_next_17 : decode cX5_next 17 = .ok (.iload_n 1, 1) := by decide +kernel
theorem dX5_next_18 : decode cX5_next 18 = .ok (.iconst 1, 1) := by decide +kernel
theorem dX5_next_19 : decode cX5_next 19 = .ok (.iadd, 1) := by decide +kernel
theorem dX5_next_20 : decode cX5_next 20 = .ok (.ishr, 1) := by decide +kernel
theorem dX5_next_21 : decode cX5_next 21 = .ok (.istore_n 2, 1) := by decide +kernel
theorem dX5_next_22 : decode cX5_next 22 = .ok (.iload_n 2, 1) := by decide +kernel
theorem dX5_next_23 : decode cX5_next 23 = .ok (.ifCond .ne 15, 3) := by decide +kernel
theorem dX5_next_26 : decode cX5_next 26 = .ok (.aload_n 0, 1) := by decide +kernel
theorem dX5_next_27 : decode cX5_next 27 = .ok (.getfield 13, 3) := by decide +kernel
theorem dX5_next_30 : decode cX5_next 30 = .ok (.iload_n 1, 1) := by decide +kernel
theorem dX5_next_31 : decode cX5_next 31 = .ok (.iaload, 1) := by decide +kernel
theorem dX5_next_32 : decode cX5_next 32 = .ok (.invokestatic 62, 3) := by decide +kernel
theorem dX5_next_35 : decode cX5_next 35 = .ok (.goto 11, 3) := by decide +kernel
theorem dX5_next_38 : decode cX5_next 38 = .ok (.iload_n 1, 1) := by decide +kernel
theorem dX5_next_39 : decode cX5_next 39 = .ok (.iconst 1, 1) := by decide +kernel
theorem dX5_next_40 : decode cX5_next 40 = .ok (.iadd, 1) := by decide +kernel
theorem dX5_next_41 : decode cX5_next 41 = .ok (.iload_n 2, 1) := by decide +kernel
theorem dX5_next_42 : decode cX5_next 42 = .ok (.invokestatic 62, 3) := by decide +kernel
theorem dX5_next_45 : decode cX5_next 45 = .ok (.iadd, 1) := by decide +kernel
theorem dX5_next_46 : decode cX5_next 46 = .ok (.ireturn, 1) := by decide +kernel
set_option maxRecDepth 20000 in
theorem ggX5_place_X5_sp : GoodIn wsX5_place wsX5_sp := goodIn_r _ [5, 6, 17, 18, 19, 20, 21, 22, 23, 24, 25, 26, 27] (by decide +kernel) (by decide +kernel)
set_option maxRecDepth 20000 in
theorem gX5_place_X5_sp : GoodIn wsX5_place (wsV RX5 67 RX5 yX5_sp wsX5_sp) := goodIn_app (goodIn_of _ (by decide +kernel)) ggX5_place_X5_sp
set_option maxRecDepth 20000 in
theorem ggX5_place_X5_next : GoodIn wsX5_place wsX5_next := goodIn_r _ [10, 11, 12, 13, 14, 15, 16, 17, 18, 19, 20, 21, 22, 23, 24, 25, 26, 27] (by decide +kernel) (by decide +kernel)
set_option maxRecDepth 20000 in
theorem gX5_place_X5_next : GoodIn wsX5_place (wsV RX5 71 RX5 yX5_next wsX5_next) := goodIn_app (goodIn_of _ (by decide +kernel)) ggX5_place_X5_next
theorem dX5_place_0 : decode cX5_place 0 = .ok (.iload_n 2, 1) := by decide +kernel
theorem dX5_place_1 : decode cX5_place 1 = .ok (.aload_n 0, 1) := by decide +kernel
theorem dX5_place_2 : decode cX5_place 2 = .ok (.iload_n 1, 1) := by decide +kernel
theorem dX5_place_3 : decode cX5_place 3 = .ok (.iconst 2, 1) := by decide +kernel
theorem dX5_place_4 : decode cX5_place 4 = .ok (.invokevirtual 67, 3) := by decide +kernel
theorem dX5_place_7 : decode cX5_place 7 = .ok (.if_icmp .lt 13, 3) := by decide +kernel
theorem dX5_place_10 : decode cX5_place 10 = .ok (.iload_n 2, 1) := by decide +kernel
theorem dX5_place_11 : decode cX5_place 11 = .ok (.aload_n 0, 1) := by decide +kernel
theorem dX5_place_12 : decode cX5_place 12 = .ok (.iload_n 1, 1) := by decide +kernel
theorem dX5_place_13 : decode cX5_place 13 = .ok (.iconst 3, 1) := by decide +kernel
theorem dX5_place_14 : decode cX5_place 14 = .ok (.invokevirtual 67, 3) := by decide +kernel
theorem dX5_place_17 : decode cX5_place 17 = .ok (.if_icmp .lt 5, 3) := by decide +kernel
theorem dX5_place_20 : decode cX5_place 20 = .ok (.iconst (-1), 1) := by decide +kernel
theorem dX5_place_21 : decode cX5_place 21 = .ok (.ireturn, 1) := by decide +kernel
theorem dX5_place_22 : decode cX5_place 22 = .ok (.aload_n 0, 1) := by decide +kernel
theorem dX5_place_23 : decode cX5_place 23 = .ok (.iload_n 1, 1) := by decide +kernel
theorem dX5_place_24 : decode cX5_place 24 = .ok (.iconst 0, 1) := by decide +kernel
theorem dX5_place_25 : decode cX5_place 25 = .ok (.invokevirtual 67, 3) := by decide +kernel
theorem dX5_place_28 : decode cX5_place 28 = .ok (.istore_n 3, 1) := by decide +kernel
theorem dX5_place_29 : decode cX5_place 29 = .ok (.aload_n 0, 1) := by decide +kernel
theorem dX5_place_30 : decode cX5_place 30 = .ok (.iload_n 1, 1) := by decide +kernel
theorem dX5_place_31 : decode cX5_place 31 = .ok (.iconst 2, 1) := by decide +kernel
theorem dX5_place_32 : decode cX5_place 32 = .ok (.invokevirtual 67, 3) := by decide +kernel
theorem dX5_place_35 : decode cX5_place 35 = .ok (.istore 4, 2) := by decide +kernel
theorem dX5_place_37 : decode cX5_place 37 = .ok (.iload 4, 2) := by decide +kernel
theorem dX5_place_39 : decode cX5_place 39 = .ok (.iload_n 2, 1) := by decide +kernel
theorem dX5_place_40 : decode cX5_place 40 = .ok (.if_icmp .ge 15, 3) := by decide +kernel
theorem dX5_place_43 : decode cX5_place 43 = .ok (.aload_n 0, 1) := by decide +kernel
theorem dX5_place_44 : decode cX5_place 44 = .ok (.iload_n 3, 1) := by decide +kernel
theorem dX5_place_45 : decode cX5_place 45 = .ok (.invokevirtual 71, 3) := by decide +kernel
theorem dX5_place_48 : decode cX5_place 48 = .ok (.istore_n 3, 1) := by decide +kernel
theorem dX5_place_49 : decode cX5_place 49 = .ok (.iinc 4 1, 3) := by decide +kernel
theorem dX5_place_52 : decode cX5_place 52 = .ok (.goto (-15), 3) := by decide +kernel
theorem dX5_place_55 : decode cX5_place 55 = .ok (.iload_n 3, 1) := by decide +kernel
theorem dX5_place_56 : decode cX5_place 56 = .ok (.ireturn, 1) := by decide +kernel
set_option maxRecDepth 20000 in
theorem ggX5_at_X5_isGhost : GoodIn wsX5_at wsX5_isGhost := goodIn_r _ [6, 7, 8, 9, 5, 10, 34, 35, 36, 37, 38, 39, 40, 41, 42, 43, 44] (by decide +kernel) (by decide +kernel)
set_option maxRecDepth 20000 in
theorem gX5_at_X5_isGhost : GoodIn wsX5_at (wsV RX5 74 RX5 yX5_isGhost wsX5_isGhost) := goodIn_app (goodIn_of _ (by decide +kernel)) ggX5_at_X5_isGhost
set_option maxRecDepth 20000 in
theorem ggX5_at_X5_isIn : GoodIn wsX5_at wsX5_isIn := goodIn_r _ [10] (by decide +kernel) (by decide +kernel)
set_option maxRecDepth 20000 in
theorem gX5_at_X5_isIn : GoodIn wsX5_at (va_wsS RX5 35 yX5_isIn wsX5_isIn) := goodIn_app (goodIn_of _ (by decide +kernel)) ggX5_at_X5_isIn
set_option maxRecDepth 20000 in
theorem ggX5_at_X5_place : GoodIn wsX5_at wsX5_place := goodIn_r _ [14, 15, 16, 17, 5, 18, 19, 20, 21, 22, 23, 24, 25, 26, 27, 28, 29, 34, 35, 36, 37, 38, 39, 40, 41, 42, 43, 44] (by decide +kernel) (by decide +kernel)
set_option maxRecDepth 20000 in
theorem gX5_at_X5_place : GoodIn wsX5_at (wsV RX5 77 RX5 yX5_place wsX5_place) := goodIn_app (goodIn_of _ (by decide +kernel)) ggX5_at_X5_place
set_option maxRecDepth 20000 in
theorem ggX5_at_X5_fail : GoodIn wsX5_at wsX5_fail := goodIn_r _ [33, 1, 34, 35, 36, 37, 38, 39, 40, 41, 42, 43, 44] (by decide +kernel) (by decide +kernel)
set_option maxRecDepth 20000 in
theorem gX5_at_X5_fail : GoodIn wsX5_at (wsV RX5 45 RX5 yX5_fail wsX5_fail) := goodIn_app (goodIn_of _ (by decide +kernel)) ggX5_at_X5_fail
theorem dX5_at_0 : decode cX5_at 0 = .ok (.aload_n 0, 1) := by decide +kernel
theorem dX5_at_1 : decode cX5_at 1 = .ok (.iconst 0, 1) := by decide +kernel
theorem dX5_at_2 : decode cX5_at 2 = .ok (.putfield 28, 3) := by decide +kernel
theorem dX5_at_5 : decode cX5_at 5 = .ok (.aload_n 0, 1) := by decide +kernel
theorem dX5_at_6 : decode cX5_at 6 = .ok (.iload_n 1, 1) := by decide +kernel
theorem dX5_at_7 : decode cX5_at 7 = .ok (.invokevirtual 74, 3) := by decide +kernel
theorem dX5_at_10 : decode cX5_at 10 = .ok (.ifCond .eq 22, 3) := by decide +kernel
theorem dX5_at_13 : decode cX5_at 13 = .ok (.iload_n 2, 1) := by decide +kernel
theorem dX5_at_14 : decode cX5_at 14 = .ok (.iconst 0, 1) := by decide +kernel
theorem dX5_at_15 : decode cX5_at 15 = .ok (.bipush 11, 2) := by decide +kernel
theorem dX5_at_17 : decode cX5_at 17 = .ok (.invokestatic 35, 3) := by decide +kernel
theorem dX5_at_20 : decode cX5_at 20 = .ok (.ifCond .eq 12, 3) := by decide +kernel
theorem dX5_at_23 : decode cX5_at 23 = .ok (.aload_n 0, 1) := by decide +kernel
theorem dX5_at_24 : decode cX5_at 24 = .ok (.iload_n 1, 1) := by decide +kernel
theorem dX5_at_25 : decode cX5_at 25 = .ok (.iload_n 2, 1) := by decide +kernel
theorem dX5_at_26 : decode cX5_at 26 = .ok (.invokevirtual 77, 3) := by decide +kernel
theorem dX5_at_29 : decode cX5_at 29 = .ok (.goto 8, 3) := by decide +kernel
theorem dX5_at_32 : decode cX5_at 32 = .ok (.aload_n 0, 1) := by decide +kernel
theorem dX5_at_33 : decode cX5_at 33 = .ok (.iconst 1, 1) := by decide +kernel
theorem dX5_at_34 : decode cX5_at 34 = .ok (.invokevirtual 45, 3) := by decide +kernel
theorem dX5_at_37 : decode cX5_at 37 = .ok (.ireturn, 1) := by decide +kernel
set_option maxRecDepth 20000 in
theorem ggX5_haunted_X5_place : GoodIn wsX5_haunted wsX5_place := goodIn_r _ [6, 7, 8, 9, 5, 10, 11, 12, 13, 14, 15, 16, 17, 18, 19, 20, 21, 22, 23, 24, 25, 26, 27, 28, 29, 30, 31, 32] (by decide +kernel) (by decide +kernel)
set_option maxRecDepth 20000 in
theorem gX5_haunted_X5_place : GoodIn wsX5_haunted (wsV RX5 77 RX5 yX5_place wsX5_place) := goodIn_app (goodIn_of _ (by decide +kernel)) ggX5_haunted_X5_place
set_option maxRecDepth 20000 in
theorem ggX5_haunted_X5_sp : GoodIn wsX5_haunted wsX5_sp := goodIn_r _ [10, 11, 22, 23, 24, 25, 26, 27, 28, 29, 30, 31, 32] (by decide +kernel) (by decide +kernel)
set_option maxRecDepth 20000 in
theorem gX5_haunted_X5_sp : GoodIn wsX5_haunted (wsV RX5 67 RX5 yX5_sp wsX5_sp) := goodIn_app (goodIn_of _ (by decide +kernel)) ggX5_haunted_X5_sp
theorem dX5_haunted_0 : decode cX5_haunted 0 = .ok (.iconst 0, 1) := by decide +kernel
theorem dX5_haunted_1 : decode cX5_haunted 1 = .ok (.istore_n 3, 1) := by decide +kernel
theorem dX5_haunted_2 : decode cX5_haunted 2 = .ok (.iconst 0, 1) := by decide +kernel
theorem dX5_haunted_3 : decode cX5_haunted 3 = .ok (.istore 4, 2) := by decide +kernel
theorem dX5_haunted_5 : decode cX5_haunted 5 = .ok (.iload 4, 2) := by decide +kernel
theorem dX5_haunted_7 : decode cX5_haunted 7 = .ok (.aload_n 0, 1) := by decide +kernel
theorem dX5_haunted_8 : decode cX5_haunted 8 = .ok (.getfield 39, 3) := by decide +kernel
theorem dX5_haunted_11 : decode cX5_haunted 11 = .ok (.if_icmp .ge 57, 3) := by decide +kernel
theorem dX5_haunted_14 : decode cX5_haunted 14 = .ok (.iconst 0, 1) := by decide +kernel
theorem dX5_haunted_15 : decode cX5_haunted 15 = .ok (.istore 5, 2) := by decide +kernel
theorem dX5_haunted_17 : decode cX5_haunted 17 = .ok (.iload 5, 2) := by decide +kernel
theorem dX5_haunted_19 : decode cX5_haunted 19 = .ok (.bipush 12, 2) := by decide +kernel
theorem dX5_haunted_21 : decode cX5_haunted 21 = .ok (.if_icmp .ge 41, 3) := by decide +kernel
theorem dX5_haunted_24 : decode cX5_haunted 24 = .ok (.iload 4, 2) := by decide +kernel
theorem dX5_haunted_26 : decode cX5_haunted 26 = .ok (.iload_n 2, 1) := by decide +kernel
theorem dX5_haunted_27 : decode cX5_haunted 27 = .ok (.if_icmp .eq 35, 3) := by decide +kernel
theorem dX5_haunted_30 : decode cX5_haunted 30 = .ok (.iload_n 3, 1) := by decide +kernel
theorem dX5_haunted_31 : decode cX5_haunted 31 = .ok (.aload_n 0, 1) := by decide +kernel
theorem dX5_haunted_32 : decode cX5_haunted 32 = .ok (.iload 4, 2) := by decide +kernel
theorem dX5_haunted_34 : decode cX5_haunted 34 = .ok (.iload 5, 2) := by decide +kernel
theorem dX5_haunted_36 : decode cX5_haunted 36 = .ok (.invokevirtual 77, 3) := by decide +kernel
theorem dX5_haunted_39 : decode cX5_haunted 39 = .ok (.iload_n 1, 1) := by decide +kernel
theorem dX5_haunted_40 : decode cX5_haunted 40 = .ok (.if_icmp .ne 13, 3) := by decide +kernel
theorem dX5_haunted_43 : decode cX5_haunted 43 = .ok (.aload_n 0, 1) := by decide +kernel
theorem dX5_haunted_44 : decode cX5_haunted 44 = .ok (.iload 4, 2) := by decide +kernel
theorem dX5_haunted_46 : decode cX5_haunted 46 = .ok (.iconst 1, 1) := by decide +kernel
theorem dX5_haunted_47 : decode cX5_haunted 47 = .ok (.invokevirtual 67, 3) := by decide +kernel
theorem dX5_haunted_50 : decode cX5_haunted 50 = .ok (.goto 4, 3) := by decide +kernel
theorem dX5_haunted_53 : decode cX5_haunted 53 = .ok (.iconst 0, 1) := by decide +kernel
theorem dX5_haunted_54 : decode cX5_haunted 54 = .ok (.iadd, 1) := by decide +kernel
theorem dX5_haunted_55 : decode cX5_haunted 55 = .ok (.istore_n 3, 1) := by decide +kernel
theorem dX5_haunted_56 : decode cX5_haunted 56 = .ok (.iinc 5 1, 3) := by decide +kernel
theorem dX5_haunted_59 : decode cX5_haunted 59 = .ok (.goto (-42), 3) := by decide +kernel
theorem dX5_haunted_62 : decode cX5_haunted 62 = .ok (.iinc 4 1, 3) := by decide +kernel
theorem dX5_haunted_65 : decode cX5_haunted 65 = .ok (.goto (-60), 3) := by decide +kernel
theorem dX5_haunted_68 : decode cX5_haunted 68 = .ok (.iload_n 3, 1) := by decide +kernel
theorem dX5_haunted_69 : decode cX5_haunted 69 = .ok (.ireturn, 1) := by decide +kernel
set_option maxRecDepth 20000 in
theorem ggX5_haunting_X5_isRoom : GoodIn wsX5_haunting wsX5_isRoom := goodIn_r _ [7, 8, 9, 10, 6, 11, 39, 40, 41, 42, 43, 44, 45, 46, 47, 48, 49] (by decide +kernel) (by decide +kernel)
set_option maxRecDepth 20000 in
theorem gX5_haunting_X5_isRoom : GoodIn wsX5_haunting (wsV RX5 55 RX5 yX5_isRoom wsX5_isRoom) := goodIn_app (goodIn_of _ (by decide +kernel)) ggX5_haunting_X5_isRoom
set_option maxRecDepth 20000 in
theorem ggX5_haunting_X5_isIn : GoodIn wsX5_haunting wsX5_isIn := goodIn_r _ [11] (by decide +kernel) (by decide +kernel)
set_option maxRecDepth 20000 in
theorem gX5_haunting_X5_isIn : GoodIn wsX5_haunting (va_wsS RX5 35 yX5_isIn wsX5_isIn) := goodIn_app (goodIn_of _ (by decide +kernel)) ggX5_haunting_X5_isIn
set_option maxRecDepth 20000 in
theorem ggX5_haunting_X5_fail : GoodIn wsX5_haunting wsX5_fail := goodIn_r _ [15, 1, 39, 40, 41, 42, 43, 44, 45, 46, 47, 48, 49] (by decide +kernel) (by decide +kernel)
set_option maxRecDepth 20000 in
theorem gX5_haunting_X5_fail : GoodIn wsX5_haunting (wsV RX5 45 RX5 yX5_fail wsX5_fail) := goodIn_app (goodIn_of _ (by decide +kernel)) ggX5_haunting_X5_fail
set_option maxRecDepth 20000 in
theorem ggX5_haunting_X5_haunted : GoodIn wsX5_haunting wsX5_haunted := goodIn_r _ [19, 2, 20, 21, 22, 6, 23, 24, 25, 26, 27, 28, 29, 30, 31, 32, 33, 34, 35, 36, 37, 38, 39, 40, 41, 42, 43, 44, 45, 46, 47, 48, 49] (by decide +kernel) (by decide +kernel)
set_option maxRecDepth 20000 in
theorem gX5_haunting_X5_haunted : GoodIn wsX5_haunting (wsV RX5 80 RX5 yX5_haunted wsX5_haunted) := goodIn_app (goodIn_of _ (by decide +kernel)) ggX5_haunting_X5_haunted
set_option maxRecDepth 20000 in
theorem ggX5_haunting_X5_place : GoodIn wsX5_haunting wsX5_place := goodIn_r _ [23, 24, 25, 26, 6, 27, 28, 29, 30, 31, 32, 33, 34, 35, 36, 37, 38, 39, 40, 41, 42, 43, 44, 45, 46, 47, 48, 49] (by decide +kernel) (by decide +kernel)
set_option maxRecDepth 20000 in
theorem gX5_haunting_X5_place : GoodIn wsX5_haunting (wsV RX5 77 RX5 yX5_place wsX5_place) := goodIn_app (goodIn_of _ (by decide +kernel)) ggX5_haunting_X5_place
set_option maxRecDepth 20000 in
theorem ggX5_haunting_X5_sp : GoodIn wsX5_haunting wsX5_sp := goodIn_r _ [27, 28, 39, 40, 41, 42, 43, 44, 45, 46, 47, 48, 49] (by decide +kernel) (by decide +kernel)
set_option maxRecDepth 20000 in
theorem gX5_haunting_X5_sp : GoodIn wsX5_haunting (wsV RX5 67 RX5 yX5_sp wsX5_sp) := goodIn_app (goodIn_of _ (by decide +kernel)) ggX5_haunting_X5_sp
theorem dX5_haunting_0 : decode cX5_haunting 0 = .ok (.aload_n 0, 1) := by decide +kernel
theorem dX5_haunting_1 : decode cX5_haunting 1 = .ok (.iconst 0, 1) := by decide +kernel
theorem dX5_haunting_2 : decode cX5_haunting 2 = .ok (.putfield 28, 3) := by decide +kernel
theorem dX5_haunting_5 : decode cX5_haunting 5 = .ok (.aload_n 0, 1) := by decide +kernel
theorem dX5_haunting_6 : decode cX5_haunting 6 = .ok (.iload_n 1, 1) := by decide +kernel
theorem dX5_haunting_7 : decode cX5_haunting 7 = .ok (.invokevirtual 55, 3) := by decide +kernel
theorem dX5_haunting_10 : decode cX5_haunting 10 = .ok (.ifCond .eq 13, 3) := by decide +kernel
theorem dX5_haunting_13 : decode cX5_haunting 13 = .ok (.iload_n 2, 1) := by decide +kernel
theorem dX5_haunting_14 : decode cX5_haunting 14 = .ok (.iconst (-1), 1) := by decide +kernel
theorem dX5_haunting_15 : decode cX5_haunting 15 = .ok (.bipush 11, 2) := by decide +kernel
theorem dX5_haunting_17 : decode cX5_haunting 17 = .ok (.invokestatic 35, 3) := by decide +kernel
theorem dX5_haunting_20 : decode cX5_haunting 20 = .ok (.ifCond .ne 9, 3) := by decide +kernel
theorem dX5_haunting_23 : decode cX5_haunting 23 = .ok (.aload_n 0, 1) := by decide +kernel
theorem dX5_haunting_24 : decode cX5_haunting 24 = .ok (.iconst 1, 1) := by decide +kernel
theorem dX5_haunting_25 : decode cX5_haunting 25 = .ok (.invokevirtual 45, 3) := by decide +kernel
theorem dX5_haunting_28 : decode cX5_haunting 28 = .ok (.ireturn, 1) := by decide +kernel
theorem dX5_haunting_29 : decode cX5_haunting 29 = .ok (.iload_n 2, 1) := by decide +kernel
theorem dX5_haunting_30 : decode cX5_haunting 30 = .ok (.ifCond .ge 10, 3) := by decide +kernel
theorem dX5_haunting_33 : decode cX5_haunting 33 = .ok (.aload_n 0, 1) := by decide +kernel
theorem dX5_haunting_34 : decode cX5_haunting 34 = .ok (.iload_n 1, 1) := by decide +kernel
theorem dX5_haunting_35 : decode cX5_haunting 35 = .ok (.iconst (-1), 1) := by decide +kernel
theorem dX5_haunting_36 : decode cX5_haunting 36 = .ok (.invokevirtual 80, 3) := by decide +kernel
theorem dX5_haunting_39 : decode cX5_haunting 39 = .ok (.ireturn, 1) := by decide +kernel
theorem dX5_haunting_40 : decode cX5_haunting 40 = .ok (.iconst 0, 1) := by decide +kernel
theorem dX5_haunting_41 : decode cX5_haunting 41 = .ok (.istore_n 3, 1) := by decide +kernel
theorem dX5_haunting_42 : decode cX5_haunting 42 = .ok (.iconst 0, 1) := by decide +kernel
theorem dX5_haunting_43 : decode cX5_haunting 43 = .ok (.istore 4, 2) := by decide +kernel
theorem dX5_haunting_45 : decode cX5_haunting 45 = .ok (.iload 4, 2) := by decide +kernel
theorem dX5_haunting_47 : decode cX5_haunting 47 = .ok (.aload_n 0, 1) := by decide +kernel
theorem dX5_haunting_48 : decode cX5_haunting 48 = .ok (.getfield 39, 3) := by decide +kernel
theorem dX5_haunting_51 : decode cX5_haunting 51 = .ok (.if_icmp .ge 34, 3) := by decide +kernel
theorem dX5_haunting_54 : decode cX5_haunting 54 = .ok (.iload_n 3, 1) := by decide +kernel
theorem dX5_haunting_55 : decode cX5_haunting 55 = .ok (.aload_n 0, 1) := by decide +kernel
theorem dX5_haunting_56 : decode cX5_haunting 56 = .ok (.iload 4, 2) := by decide +kernel
theorem dX5_haunting_58 : decode cX5_haunting 58 = .ok (.iload_n 2, 1) := by decide +kernel
theorem dX5_haunting_59 : decode cX5_haunting 59 = .ok (.invokevirtual 77, 3) := by decide +kernel
theorem dX5_haunting_62 : decode cX5_haunting 62 = .ok (.iload_n 1, 1) := by decide +kernel
theorem dX5_haunting_63 : decode cX5_haunting 63 = .ok (.if_icmp .ne 13, 3) := by decide +kernel
theorem dX5_haunting_66 : decode cX5_haunting 66 = .ok (.aload_n 0, 1) := by decide +kernel
theorem dX5_haunting_67 : decode cX5_haunting 67 = .ok (.iload 4, 2) := by decide +kernel
theorem dX5_haunting_69 : decode cX5_haunting 69 = .ok (.iconst 1, 1) := by decide +kernel
theorem dX5_haunting_70 : decode cX5_haunting 70 = .ok (.invokevirtual 67, 3) := by decide +kernel
theorem dX5_haunting_73 : decode cX5_haunting 73 = .ok (.goto 4, 3) := by decide +kernel
theorem dX5_haunting_76 : decode cX5_haunting 76 = .ok (.iconst 0, 1) := by decide +kernel
theorem dX5_haunting_77 : decode cX5_haunting 77 = .ok (.iadd, 1) := by decide +kernel
theorem dX5_haunting_78 : decode cX5_haunting 78 = .ok (.istore_n 3, 1) := by decide +kernel
theorem dX5_haunting_79 : decode cX5_haunting 79 = .ok (.iinc 4 1, 3) := by decide +kernel
theorem dX5_haunting_82 : decode cX5_haunting 82 = .ok (.goto (-37), 3) := by decide +kernel
theorem dX5_haunting_85 : decode cX5_haunting 85 = .ok (.iload_n 3, 1) := by decide +kernel
theorem dX5_haunting_86 : decode cX5_haunting 86 = .ok (.ireturn, 1) := by decide +kernel
set_option maxRecDepth 20000 in
theorem ggX5_roomTold_X5_ro : GoodIn wsX5_roomTold wsX5_ro := goodIn_r _ [6, 7, 15, 16, 17, 18, 19, 20, 21, 22, 23, 24, 25] (by decide +kernel) (by decide +kernel)
set_option maxRecDepth 20000 in
theorem gX5_roomTold_X5_ro : GoodIn wsX5_roomTold (wsV RX5 83 RX5 yX5_ro wsX5_ro) := goodIn_app (goodIn_of _ (by decide +kernel)) ggX5_roomTold_X5_ro
set_option maxRecDepth 20000 in
theorem ggX5_roomTold_J6_bitCount_0f7a4 : GoodIn wsX5_roomTold wsJ6_bitCount_0f7a4 := goodIn_r _ [11, 12, 13, 14] (by decide +kernel) (by decide +kernel)
set_option maxRecDepth 20000 in
theorem gX5_roomTold_J6_bitCount_0f7a4 : GoodIn wsX5_roomTold (va_wsS RX5 86 yJ6_bitCount_0f7a4 wsJ6_bitCount_0f7a4) := goodIn_app (goodIn_of _ (by decide +kernel)) ggX5_roomTold_J6_bitCount_0f7a4
theorem dX5_roomTold_0 : decode cX5_roomTold 0 = .ok (.iload_n 2, 1) := by decide +kernel
theorem dX5_roomTold_1 : decode cX5_roomTold 1 = .ok (.iconst 3, 1) := by decide +kernel
theorem dX5_roomTold_2 : decode cX5_roomTold 2 = .ok (.if_icmp .ge 12, 3) := by decide +kernel
theorem dX5_roomTold_5 : decode cX5_roomTold 5 = .ok (.aload_n 0, 1) := by decide +kernel
theorem dX5_roomTold_6 : decode cX5_roomTold 6 = .ok (.iload_n 1, 1) := by decide +kernel
theorem dX5_roomTold_7 : decode cX5_roomTold 7 = .ok (.iload_n 2, 1) := by decide +kernel
theorem dX5_roomTold_8 : decode cX5_roomTold 8 = .ok (.invokevirtual 83, 3) := by decide +kernel
theorem dX5_roomTold_11 : decode cX5_roomTold 11 = .ok (.goto 28, 3) := by decide +kernel
theorem dX5_roomTold_14 : decode cX5_roomTold 14 = .ok (.iload_n 2, 1) := by decide +kernel
theorem dX5_roomTold_15 : decode cX5_roomTold 15 = .ok (.iconst 3, 1) := by decide +kernel
theorem dX5_roomTold_16 : decode cX5_roomTold 16 = .ok (.if_icmp .ne 15, 3) := by decide +kernel
theorem dX5_roomTold_19 : decode cX5_roomTold 19 = .ok (.aload_n 0, 1) := by decide +kernel
theorem dX5_roomTold_20 : decode cX5_roomTold 20 = .ok (.getfield 13, 3) := by decide +kernel
theorem dX5_roomTold_23 : decode cX5_roomTold 23 = .ok (.iload_n 1, 1) := by decide +kernel
theorem dX5_roomTold_24 : decode cX5_roomTold 24 = .ok (.iaload, 1) := by decide +kernel
theorem dX5_roomTold_25 : decode cX5_roomTold 25 = .ok (.invokestatic 86, 3) := by decide +kernel
theorem dX5_roomTold_28 : decode cX5_roomTold 28 = .ok (.goto 11, 3) := by decide +kernel
theorem dX5_roomTold_31 : decode cX5_roomTold 31 = .ok (.aload_n 0, 1) := by decide +kernel
theorem dX5_roomTold_32 : decode cX5_roomTold 32 = .ok (.iload_n 1, 1) := by decide +kernel
theorem dX5_roomTold_33 : decode cX5_roomTold 33 = .ok (.iload_n 2, 1) := by decide +kernel
theorem dX5_roomTold_34 : decode cX5_roomTold 34 = .ok (.iconst 1, 1) := by decide +kernel
theorem dX5_roomTold_35 : decode cX5_roomTold 35 = .ok (.isub, 1) := by decide +kernel
theorem dX5_roomTold_36 : decode cX5_roomTold 36 = .ok (.invokevirtual 83, 3) := by decide +kernel
theorem dX5_roomTold_39 : decode cX5_roomTold 39 = .ok (.ireturn, 1) := by decide +kernel
set_option maxRecDepth 20000 in
theorem ggX5_room_X5_isRoom : GoodIn wsX5_room wsX5_isRoom := goodIn_r _ [6, 7, 8, 9, 5, 10, 32, 33, 34, 35, 36, 37, 38, 39, 40, 41, 42] (by decide +kernel) (by decide +kernel)
set_option maxRecDepth 20000 in
theorem gX5_room_X5_isRoom : GoodIn wsX5_room (wsV RX5 55 RX5 yX5_isRoom wsX5_isRoom) := goodIn_app (goodIn_of _ (by decide +kernel)) ggX5_room_X5_isRoom
set_option maxRecDepth 20000 in
theorem ggX5_room_X5_isIn : GoodIn wsX5_room wsX5_isIn := goodIn_r _ [10] (by decide +kernel) (by decide +kernel)
set_option maxRecDepth 20000 in
theorem gX5_room_X5_isIn : GoodIn wsX5_room (va_wsS RX5 35 yX5_isIn wsX5_isIn) := goodIn_app (goodIn_of _ (by decide +kernel)) ggX5_room_X5_isIn
set_option maxRecDepth 20000 in
theorem ggX5_room_X5_roomTold : GoodIn wsX5_room wsX5_roomTold := goodIn_r _ [14, 15, 16, 17, 18, 5, 19, 20, 21, 22, 23, 24, 25, 26, 27, 32, 33, 34, 35, 36, 37, 38, 39, 40, 41, 42] (by decide +kernel) (by decide +kernel)
set_option maxRecDepth 20000 in
theorem gX5_room_X5_roomTold : GoodIn wsX5_room (wsV RX5 89 RX5 yX5_roomTold wsX5_roomTold) := goodIn_app (goodIn_of _ (by decide +kernel)) ggX5_room_X5_roomTold
set_option maxRecDepth 20000 in
theorem ggX5_room_X5_fail : GoodIn wsX5_room wsX5_fail := goodIn_r _ [31, 1, 32, 33, 34, 35, 36, 37, 38, 39, 40, 41, 42] (by decide +kernel) (by decide +kernel)
set_option maxRecDepth 20000 in
theorem gX5_room_X5_fail : GoodIn wsX5_room (wsV RX5 45 RX5 yX5_fail wsX5_fail) := goodIn_app (goodIn_of _ (by decide +kernel)) ggX5_room_X5_fail
theorem dX5_room_0 : decode cX5_room 0 = .ok (.aload_n 0, 1) := by decide +kernel
theorem dX5_room_1 : decode cX5_room 1 = .ok (.iconst 0, 1) := by decide +kernel
theorem dX5_room_2 : decode cX5_room 2 = .ok (.putfield 28, 3) := by decide +kernel
theorem dX5_room_5 : decode cX5_room 5 = .ok (.aload_n 0, 1) := by decide +kernel
theorem dX5_room_6 : decode cX5_room 6 = .ok (.iload_n 1, 1) := by decide +kernel
theorem dX5_room_7 : decode cX5_room 7 = .ok (.invokevirtual 55, 3) := by decide +kernel
theorem dX5_room_10 : decode cX5_room 10 = .ok (.ifCond .eq 21, 3) := by decide +kernel
theorem dX5_room_13 : decode cX5_room 13 = .ok (.iload_n 2, 1) := by decide +kernel
theorem dX5_room_14 : decode cX5_room 14 = .ok (.iconst 0, 1) := by decide +kernel
theorem dX5_room_15 : decode cX5_room 15 = .ok (.iconst 5, 1) := by decide +kernel
theorem dX5_room_16 : decode cX5_room 16 = .ok (.invokestatic 35, 3) := by decide +kernel
theorem dX5_room_19 : decode cX5_room 19 = .ok (.ifCond .eq 12, 3) := by decide +kernel
theorem dX5_room_22 : decode cX5_room 22 = .ok (.aload_n 0, 1) := by decide +kernel
theorem dX5_room_23 : decode cX5_room 23 = .ok (.iload_n 1, 1) := by decide +kernel
theorem dX5_room_24 : decode cX5_room 24 = .ok (.iload_n 2, 1) := by decide +kernel
theorem dX5_room_25 : decode cX5_room 25 = .ok (.invokevirtual 89, 3) := by decide +kernel
theorem dX5_room_28 : decode cX5_room 28 = .ok (.goto 8, 3) := by decide +kernel
theorem dX5_room_31 : decode cX5_room 31 = .ok (.aload_n 0, 1) := by decide +kernel
theorem dX5_room_32 : decode cX5_room 32 = .ok (.iconst 1, 1) := by decide +kernel
theorem dX5_room_33 : decode cX5_room 33 = .ok (.invokevirtual 45, 3) := by decide +kernel
theorem dX5_room_36 : decode cX5_room 36 = .ok (.ireturn, 1) := by decide +kernel
set_option maxRecDepth 20000 in
theorem ggX5_come_X5_isIn : GoodIn wsX5_come wsX5_isIn := goodIn_r _ [12] (by decide +kernel) (by decide +kernel)
set_option maxRecDepth 20000 in
theorem gX5_come_X5_isIn : GoodIn wsX5_come (va_wsS RX5 35 yX5_isIn wsX5_isIn) := goodIn_app (goodIn_of _ (by decide +kernel)) ggX5_come_X5_isIn
set_option maxRecDepth 20000 in
theorem ggX5_come_X5_fail : GoodIn wsX5_come wsX5_fail := goodIn_r _ [16, 1, 17, 18, 19, 20, 21, 22, 23, 24, 25, 26, 27] (by decide +kernel) (by decide +kernel)
set_option maxRecDepth 20000 in
theorem gX5_come_X5_fail : GoodIn wsX5_come (wsV RX5 45 RX5 yX5_fail wsX5_fail) := goodIn_app (goodIn_of _ (by decide +kernel)) ggX5_come_X5_fail
theorem dX5_come_0 : decode cX5_come 0 = .ok (.aload_n 0, 1) := by decide +kernel
theorem dX5_come_1 : decode cX5_come 1 = .ok (.iconst 0, 1) := by decide +kernel
theorem dX5_come_2 : decode cX5_come 2 = .ok (.putfield 28, 3) := by decide +kernel
theorem dX5_come_5 : decode cX5_come 5 = .ok (.iload_n 1, 1) := by decide +kernel
theorem dX5_come_6 : decode cX5_come 6 = .ok (.iconst 0, 1) := by decide +kernel
theorem dX5_come_7 : decode cX5_come 7 = .ok (.sipush 1000, 3) := by decide +kernel
theorem dX5_come_10 : decode cX5_come 10 = .ok (.invokestatic 35, 3) := by decide +kernel
theorem dX5_come_13 : decode cX5_come 13 = .ok (.ifCond .eq 24, 3) := by decide +kernel
theorem dX5_come_16 : decode cX5_come 16 = .ok (.iload_n 2, 1) := by decide +kernel
theorem dX5_come_17 : decode cX5_come 17 = .ok (.iconst 1, 1) := by decide +kernel
theorem dX5_come_18 : decode cX5_come 18 = .ok (.bipush 6, 2) := by decide +kernel
theorem dX5_come_20 : decode cX5_come 20 = .ok (.invokestatic 35, 3) := by decide +kernel
theorem dX5_come_23 : decode cX5_come 23 = .ok (.ifCond .eq 14, 3) := by decide +kernel
theorem dX5_come_26 : decode cX5_come 26 = .ok (.iload_n 3, 1) := by decide +kernel
theorem dX5_come_27 : decode cX5_come 27 = .ok (.bipush (-9), 2) := by decide +kernel
theorem dX5_come_29 : decode cX5_come 29 = .ok (.bipush 90, 2) := by decide +kernel
theorem dX5_come_31 : decode cX5_come 31 = .ok (.invokestatic 35, 3) := by decide +kernel
theorem dX5_come_34 : decode cX5_come 34 = .ok (.ifCond .ne 9, 3) := by decide +kernel
theorem dX5_come_37 : decode cX5_come 37 = .ok (.aload_n 0, 1) := by decide +kernel
theorem dX5_come_38 : decode cX5_come 38 = .ok (.iconst 1, 1) := by decide +kernel
theorem dX5_come_39 : decode cX5_come 39 = .ok (.invokevirtual 45, 3) := by decide +kernel
theorem dX5_come_42 : decode cX5_come 42 = .ok (.ireturn, 1) := by decide +kernel
theorem dX5_come_43 : decode cX5_come 43 = .ok (.aload_n 0, 1) := by decide +kernel
theorem dX5_come_44 : decode cX5_come 44 = .ok (.getfield 42, 3) := by decide +kernel
theorem dX5_come_47 : decode cX5_come 47 = .ok (.bipush 12, 2) := by decide +kernel
theorem dX5_come_49 : decode cX5_come 49 = .ok (.if_icmp .ne 9, 3) := by decide +kernel
theorem dX5_come_52 : decode cX5_come 52 = .ok (.aload_n 0, 1) := by decide +kernel
theorem dX5_come_53 : decode cX5_come 53 = .ok (.iconst 2, 1) := by decide +kernel
theorem dX5_come_54 : decode cX5_come 54 = .ok (.invokevirtual 45, 3) := by decide +kernel
theorem dX5_come_57 : decode cX5_come 57 = .ok (.ireturn, 1) := by decide +kernel
theorem dX5_come_58 : decode cX5_come 58 = .ok (.bipush 7, 2) := by decide +kernel
theorem dX5_come_60 : decode cX5_come 60 = .ok (.newarray .int, 2) := by decide +kernel
theorem dX5_come_62 : decode cX5_come 62 = .ok (.dup, 1) := by decide +kernel
theorem dX5_come_63 : decode cX5_come 63 = .ok (.iconst 0, 1) := by decide +kernel
theorem dX5_come_64 : decode cX5_come 64 = .ok (.iload_n 1, 1) := by decide +kernel
theorem dX5_come_65 : decode cX5_come 65 = .ok (.iastore, 1) := by decide +kernel
theorem dX5_come_66 : decode cX5_come 66 = .ok (.dup, 1) := by decide +kernel
theorem dX5_come_67 : decode cX5_come 67 = .ok (.iconst 1, 1) := by decide +kernel
theorem dX5_come_68 : decode cX5_come 68 = .ok (.iload_n 2, 1) := by decide +kernel
theorem dX5_come_69 : decode cX5_come 69 = .ok (.iastore, 1) := by decide +kernel
theorem dX5_come_70 : decode cX5_come 70 = .ok (.dup, 1) := by decide +kernel
theorem dX5_come_71 : decode cX5_come 71 = .ok (.iconst 2, 1) := by decide +kernel
theorem dX5_come_72 : decode cX5_come 72 = .ok (.iload_n 3, 1) := by decide +kernel
theorem dX5_come_73 : decode cX5_come 73 = .ok (.iastore, 1) := by decide +kernel
theorem dX5_come_74 : decode cX5_come 74 = .ok (.dup, 1) := by decide +kernel
theorem dX5_come_75 : decode cX5_come 75 = .ok (.iconst 3, 1) := by decide +kernel
theorem dX5_come_76 : decode cX5_come 76 = .ok (.iconst (-1), 1) := by decide +kernel
theorem dX5_come_77 : decode cX5_come 77 = .ok (.iastore, 1) := by decide +kernel
theorem dX5_come_78 : decode cX5_come 78 = .ok (.dup, 1) := by decide +kernel
theorem dX5_come_79 : decode cX5_come 79 = .ok (.iconst 4, 1) := by decide +kernel
theorem dX5_come_80 : decode cX5_come 80 = .ok (.iconst 0, 1) := by decide +kernel
theorem dX5_come_81 : decode cX5_come 81 = .ok (.iastore, 1) := by decide +kernel
theorem dX5_come_82 : decode cX5_come 82 = .ok (.dup, 1) := by decide +kernel
theorem dX5_come_83 : decode cX5_come 83 = .ok (.iconst 5, 1) := by decide +kernel
theorem dX5_come_84 : decode cX5_come 84 = .ok (.iconst 0, 1) := by decide +kernel
theorem dX5_come_85 : decode cX5_come 85 = .ok (.iastore, 1) := by decide +kernel
theorem dX5_come_86 : decode cX5_come 86 = .ok (.dup, 1) := by decide +kernel
theorem dX5_come_87 : decode cX5_come 87 = .ok (.bipush 6, 2) := by decide +kernel
theorem dX5_come_89 : decode cX5_come 89 = .ok (.iconst 0, 1) := by decide +kernel
theorem dX5_come_90 : decode cX5_come 90 = .ok (.iastore, 1) := by decide +kernel
theorem dX5_come_91 : decode cX5_come 91 = .ok (.astore 4, 2) := by decide +kernel
theorem dX5_come_93 : decode cX5_come 93 = .ok (.aload 4, 2) := by decide +kernel
theorem dX5_come_95 : decode cX5_come 95 = .ok (.iconst 0, 1) := by decide +kernel
theorem dX5_come_96 : decode cX5_come 96 = .ok (.aload_n 0, 1) := by decide +kernel
theorem dX5_come_97 : decode cX5_come 97 = .ok (.getfield 19, 3) := by decide +kernel
theorem dX5_come_100 : decode cX5_come 100 = .ok (.bipush 7, 2) := by decide +kernel
theorem dX5_come_102 : decode cX5_come 102 = .ok (.aload_n 0, 1) := by decide +kernel
theorem dX5_come_103 : decode cX5_come 103 = .ok (.getfield 42, 3) := by decide +kernel
theorem dX5_come_106 : decode cX5_come 106 = .ok (.imul, 1) := by decide +kernel
theorem dX5_come_107 : decode cX5_come 107 = .ok (.bipush 7, 2) := by decide +kernel
theorem dX5_come_109 : decode cX5_come 109 = .ok (.invokestatic 49, 3) := by decide +kernel
theorem dX5_come_112 : decode cX5_come 112 = .ok (.aload_n 0, 1) := by decide +kernel
theorem dX5_come_113 : decode cX5_come 113 = .ok (.dup, 1) := by decide +kernel
theorem dX5_come_114 : decode cX5_come 114 = .ok (.getfield 42, 3) := by decide +kernel
theorem dX5_come_117 : decode cX5_come 117 = .ok (.iconst 1, 1) := by decide +kernel
theorem dX5_come_118 : decode cX5_come 118 = .ok (.iadd, 1) := by decide +kernel
theorem dX5_come_119 : decode cX5_come 119 = .ok (.putfield 42, 3) := by decide +kernel
theorem dX5_come_122 : decode cX5_come 122 = .ok (.aload_n 0, 1) := by decide +kernel
theorem dX5_come_123 : decode cX5_come 123 = .ok (.getfield 42, 3) := by decide +kernel
theorem dX5_come_126 : decode cX5_come 126 = .ok (.iconst 1, 1) := by decide +kernel
theorem dX5_come_127 : decode cX5_come 127 = .ok (.isub, 1) := by decide +kernel
theorem dX5_come_128 : decode cX5_come 128 = .ok (.ireturn, 1) := by decide +kernel
set_option maxRecDepth 20000 in
theorem ggX5_suits_X5_pe : GoodIn wsX5_suits wsX5_pe := goodIn_r _ [5, 6, 12, 13, 14, 15, 16, 17, 18, 19, 20, 21, 22] (by decide +kernel) (by decide +kernel)
set_option maxRecDepth 20000 in
theorem gX5_suits_X5_pe : GoodIn wsX5_suits (wsV RX5 92 RX5 yX5_pe wsX5_pe) := goodIn_app (goodIn_of _ (by decide +kernel)) ggX5_suits_X5_pe
set_option maxRecDepth 20000 in
theorem ggX5_suits_X5_ro : GoodIn wsX5_suits wsX5_ro := goodIn_r _ [10, 11, 12, 13, 14, 15, 16, 17, 18, 19, 20, 21, 22] (by decide +kernel) (by decide +kernel)
set_option maxRecDepth 20000 in
theorem gX5_suits_X5_ro : GoodIn wsX5_suits (wsV RX5 83 RX5 yX5_ro wsX5_ro) := goodIn_app (goodIn_of _ (by decide +kernel)) ggX5_suits_X5_ro
theorem dX5_suits_0 : decode cX5_suits 0 = .ok (.aload_n 0, 1) := by decide +kernel
theorem dX5_suits_1 : decode cX5_suits 1 = .ok (.iload_n 1, 1) := by decide +kernel
theorem dX5_suits_2 : decode cX5_suits 2 = .ok (.iconst 0, 1) := by decide +kernel
theorem dX5_suits_3 : decode cX5_suits 3 = .ok (.invokevirtual 92, 3) := by decide +kernel
theorem dX5_suits_6 : decode cX5_suits 6 = .ok (.aload_n 0, 1) := by decide +kernel
theorem dX5_suits_7 : decode cX5_suits 7 = .ok (.iload_n 1, 1) := by decide +kernel
theorem dX5_suits_8 : decode cX5_suits 8 = .ok (.iconst 4, 1) := by decide +kernel
theorem dX5_suits_9 : decode cX5_suits 9 = .ok (.invokevirtual 92, 3) := by decide +kernel
theorem dX5_suits_12 : decode cX5_suits 12 = .ok (.if_icmp .lt 37, 3) := by decide +kernel
theorem dX5_suits_15 : decode cX5_suits 15 = .ok (.aload_n 0, 1) := by decide +kernel
theorem dX5_suits_16 : decode cX5_suits 16 = .ok (.iload_n 2, 1) := by decide +kernel
theorem dX5_suits_17 : decode cX5_suits 17 = .ok (.iconst 0, 1) := by decide +kernel
theorem dX5_suits_18 : decode cX5_suits 18 = .ok (.invokevirtual 83, 3) := by decide +kernel
theorem dX5_suits_21 : decode cX5_suits 21 = .ok (.aload_n 0, 1) := by decide +kernel
theorem dX5_suits_22 : decode cX5_suits 22 = .ok (.iload_n 1, 1) := by decide +kernel
theorem dX5_suits_23 : decode cX5_suits 23 = .ok (.iconst 1, 1) := by decide +kernel
theorem dX5_suits_24 : decode cX5_suits 24 = .ok (.invokevirtual 92, 3) := by decide +kernel
theorem dX5_suits_27 : decode cX5_suits 27 = .ok (.if_icmp .lt 22, 3) := by decide +kernel
theorem dX5_suits_30 : decode cX5_suits 30 = .ok (.aload_n 0, 1) := by decide +kernel
theorem dX5_suits_31 : decode cX5_suits 31 = .ok (.iload_n 1, 1) := by decide +kernel
theorem dX5_suits_32 : decode cX5_suits 32 = .ok (.iconst 4, 1) := by decide +kernel
theorem dX5_suits_33 : decode cX5_suits 33 = .ok (.invokevirtual 92, 3) := by decide +kernel
theorem dX5_suits_36 : decode cX5_suits 36 = .ok (.aload_n 0, 1) := by decide +kernel
theorem dX5_suits_37 : decode cX5_suits 37 = .ok (.iload_n 2, 1) := by decide +kernel
theorem dX5_suits_38 : decode cX5_suits 38 = .ok (.iconst 2, 1) := by decide +kernel
theorem dX5_suits_39 : decode cX5_suits 39 = .ok (.invokevirtual 83, 3) := by decide +kernel
theorem dX5_suits_42 : decode cX5_suits 42 = .ok (.if_icmp .lt 7, 3) := by decide +kernel
theorem dX5_suits_45 : decode cX5_suits 45 = .ok (.iconst 1, 1) := by decide +kernel
theorem dX5_suits_46 : decode cX5_suits 46 = .ok (.goto 4, 3) := by decide +kernel
theorem dX5_suits_49 : decode cX5_suits 49 = .ok (.iconst 0, 1) := by decide +kernel
theorem dX5_suits_50 : decode cX5_suits 50 = .ok (.ireturn, 1) := by decide +kernel
set_option maxRecDepth 20000 in
theorem ggX5_bid_X5_isGuest : GoodIn wsX5_bid wsX5_isGuest := goodIn_r _ [6, 7, 8, 9, 5, 10, 34, 35, 36, 37, 38, 39, 40, 41, 42, 43, 44] (by decide +kernel) (by decide +kernel)
set_option maxRecDepth 20000 in
theorem gX5_bid_X5_isGuest : GoodIn wsX5_bid (wsV RX5 95 RX5 yX5_isGuest wsX5_isGuest) := goodIn_app (goodIn_of _ (by decide +kernel)) ggX5_bid_X5_isGuest
set_option maxRecDepth 20000 in
theorem ggX5_bid_X5_isRoom : GoodIn wsX5_bid wsX5_isRoom := goodIn_r _ [14, 15, 8, 9, 5, 10, 34, 35, 36, 37, 38, 39, 40, 41, 42, 43, 44] (by decide +kernel) (by decide +kernel)
set_option maxRecDepth 20000 in
theorem gX5_bid_X5_isRoom : GoodIn wsX5_bid (wsV RX5 55 RX5 yX5_isRoom wsX5_isRoom) := goodIn_app (goodIn_of _ (by decide +kernel)) ggX5_bid_X5_isRoom
set_option maxRecDepth 20000 in
theorem ggX5_bid_X5_isIn : GoodIn wsX5_bid wsX5_isIn := goodIn_r _ [10] (by decide +kernel) (by decide +kernel)
set_option maxRecDepth 20000 in
theorem gX5_bid_X5_isIn : GoodIn wsX5_bid (va_wsS RX5 35 yX5_isIn wsX5_isIn) := goodIn_app (goodIn_of _ (by decide +kernel)) ggX5_bid_X5_isIn
set_option maxRecDepth 20000 in
theorem ggX5_bid_X5_set : GoodIn wsX5_bid wsX5_set := goodIn_r _ [19, 20, 34, 35, 36, 37, 38, 39, 40, 41, 42, 43, 44] (by decide +kernel) (by decide +kernel)
set_option maxRecDepth 20000 in
theorem gX5_bid_X5_set : GoodIn wsX5_bid (wsV RX5 98 RX5 yX5_set wsX5_set) := goodIn_app (goodIn_of _ (by decide +kernel)) ggX5_bid_X5_set
set_option maxRecDepth 20000 in
theorem ggX5_bid_X5_suits : GoodIn wsX5_bid wsX5_suits := goodIn_r _ [24, 25, 26, 27, 5, 28, 20, 29, 30, 31, 32, 33, 34, 35, 36, 37, 38, 39, 40, 41, 42, 43, 44] (by decide +kernel) (by decide +kernel)
set_option maxRecDepth 20000 in
theorem gX5_bid_X5_suits : GoodIn wsX5_bid (wsV RX5 102 RX5 yX5_suits wsX5_suits) := goodIn_app (goodIn_of _ (by decide +kernel)) ggX5_bid_X5_suits
theorem dX5_bid_0 : decode cX5_bid 0 = .ok (.aload_n 0, 1) := by decide +kernel
theorem dX5_bid_1 : decode cX5_bid 1 = .ok (.aload_n 0, 1) := by decide +kernel
theorem dX5_bid_2 : decode cX5_bid 2 = .ok (.iload_n 1, 1) := by decide +kernel
theorem dX5_bid_3 : decode cX5_bid 3 = .ok (.invokevirtual 95, 3) := by decide +kernel
theorem dX5_bid_6 : decode cX5_bid 6 = .ok (.ifCond .eq 11, 3) := by decide +kernel
theorem dX5_bid_9 : decode cX5_bid 9 = .ok (.aload_n 0, 1) := by decide +kernel
theorem dX5_bid_10 : decode cX5_bid 10 = .ok (.iload_n 2, 1) := by decide +kernel
theorem dX5_bid_11 : decode cX5_bid 11 = .ok (.invokevirtual 55, 3) := by decide +kernel
theorem dX5_bid_14 : decode cX5_bid 14 = .ok (.ifCond .ne 7, 3) := by decide +kernel
theorem dX5_bid_17 : decode cX5_bid 17 = .ok (.iconst 1, 1) := by decide +kernel
theorem dX5_bid_18 : decode cX5_bid 18 = .ok (.goto 19, 3) := by decide +kernel
theorem dX5_bid_21 : decode cX5_bid 21 = .ok (.iload_n 3, 1) := by decide +kernel
theorem dX5_bid_22 : decode cX5_bid 22 = .ok (.iconst 1, 1) := by decide +kernel
theorem dX5_bid_23 : decode cX5_bid 23 = .ok (.sipush 200, 3) := by decide +kernel
theorem dX5_bid_26 : decode cX5_bid 26 = .ok (.invokestatic 35, 3) := by decide +kernel
theorem dX5_bid_29 : decode cX5_bid 29 = .ok (.ifCond .ne 7, 3) := by decide +kernel
theorem dX5_bid_32 : decode cX5_bid 32 = .ok (.iconst 2, 1) := by decide +kernel
theorem dX5_bid_33 : decode cX5_bid 33 = .ok (.goto 4, 3) := by decide +kernel
theorem dX5_bid_36 : decode cX5_bid 36 = .ok (.iconst 0, 1) := by decide +kernel
theorem dX5_bid_37 : decode cX5_bid 37 = .ok (.putfield 28, 3) := by decide +kernel
theorem dX5_bid_40 : decode cX5_bid 40 = .ok (.aload_n 0, 1) := by decide +kernel
theorem dX5_bid_41 : decode cX5_bid 41 = .ok (.getfield 28, 3) := by decide +kernel
theorem dX5_bid_44 : decode cX5_bid 44 = .ok (.ifCond .eq 5, 3) := by decide +kernel
theorem dX5_bid_47 : decode cX5_bid 47 = .ok (.iconst 0, 1) := by decide +kernel
theorem dX5_bid_48 : decode cX5_bid 48 = .ok (.ireturn, 1) := by decide +kernel
theorem dX5_bid_49 : decode cX5_bid 49 = .ok (.aload_n 0, 1) := by decide +kernel
theorem dX5_bid_50 : decode cX5_bid 50 = .ok (.iload_n 1, 1) := by decide +kernel
theorem dX5_bid_51 : decode cX5_bid 51 = .ok (.iconst 3, 1) := by decide +kernel
theorem dX5_bid_52 : decode cX5_bid 52 = .ok (.iload_n 2, 1) := by decide +kernel
theorem dX5_bid_53 : decode cX5_bid 53 = .ok (.invokevirtual 98, 3) := by decide +kernel
theorem dX5_bid_56 : decode cX5_bid 56 = .ok (.aload_n 0, 1) := by decide +kernel
theorem dX5_bid_57 : decode cX5_bid 57 = .ok (.iload_n 1, 1) := by decide +kernel
theorem dX5_bid_58 : decode cX5_bid 58 = .ok (.iconst 4, 1) := by decide +kernel
theorem dX5_bid_59 : decode cX5_bid 59 = .ok (.iload_n 3, 1) := by decide +kernel
theorem dX5_bid_60 : decode cX5_bid 60 = .ok (.invokevirtual 98, 3) := by decide +kernel
theorem dX5_bid_63 : decode cX5_bid 63 = .ok (.aload_n 0, 1) := by decide +kernel
theorem dX5_bid_64 : decode cX5_bid 64 = .ok (.iload_n 1, 1) := by decide +kernel
theorem dX5_bid_65 : decode cX5_bid 65 = .ok (.iload_n 2, 1) := by decide +kernel
theorem dX5_bid_66 : decode cX5_bid 66 = .ok (.invokevirtual 102, 3) := by decide +kernel
theorem dX5_bid_69 : decode cX5_bid 69 = .ok (.ireturn, 1) := by decide +kernel
set_option maxRecDepth 20000 in
theorem ggX5_withdraw_X5_set : GoodIn wsX5_withdraw wsX5_set := goodIn_r _ [5, 6, 7, 8, 9, 10, 11, 12, 13, 14, 15, 16, 17] (by decide +kernel) (by decide +kernel)
set_option maxRecDepth 20000 in
theorem gX5_withdraw_X5_set : GoodIn wsX5_withdraw (wsV RX5 98 RX5 yX5_set wsX5_set) := goodIn_app (goodIn_of _ (by decide +kernel)) ggX5_withdraw_X5_set
theorem dX5_withdraw_0 : decode cX5_withdraw 0 = .ok (.aload_n 0, 1) := by decide +kernel
theorem dX5_withdraw_1 : decode cX5_withdraw 1 = .ok (.iload_n 1, 1) := by decide +kernel
theorem dX5_withdraw_2 : decode cX5_withdraw 2 = .ok (.iconst 3, 1) := by decide +kernel
theorem dX5_withdraw_3 : decode cX5_withdraw 3 = .ok (.iconst (-1), 1) := by decide +kernel
theorem dX5_withdraw_4 : decode cX5_withdraw 4 = .ok (.invokevirtual 98, 3) := by decide +kernel
theorem dX5_withdraw_7 : decode cX5_withdraw 7 = .ok (.aload_n 0, 1) := by decide +kernel
theorem dX5_withdraw_8 : decode cX5_withdraw 8 = .ok (.iload_n 1, 1) := by decide +kernel
theorem dX5_withdraw_9 : decode cX5_withdraw 9 = .ok (.iconst 4, 1) := by decide +kernel
theorem dX5_withdraw_10 : decode cX5_withdraw 10 = .ok (.iconst 0, 1) := by decide +kernel
theorem dX5_withdraw_11 : decode cX5_withdraw 11 = .ok (.invokevirtual 98, 3) := by decide +kernel
theorem dX5_withdraw_14 : decode cX5_withdraw 14 = .ok (.return_, 1) := by decide +kernel
set_option maxRecDepth 20000 in
theorem ggX5_leave_X5_isGuest : GoodIn wsX5_leave wsX5_isGuest := goodIn_r _ [6, 7, 8, 9, 5, 10, 28, 29, 30, 31, 32, 33, 34, 35, 36, 37, 38] (by decide +kernel) (by decide +kernel)
set_option maxRecDepth 20000 in
theorem gX5_leave_X5_isGuest : GoodIn wsX5_leave (wsV RX5 95 RX5 yX5_isGuest wsX5_isGuest) := goodIn_app (goodIn_of _ (by decide +kernel)) ggX5_leave_X5_isGuest
set_option maxRecDepth 20000 in
theorem ggX5_leave_X5_fail : GoodIn wsX5_leave wsX5_fail := goodIn_r _ [14, 1, 28, 29, 30, 31, 32, 33, 34, 35, 36, 37, 38] (by decide +kernel) (by decide +kernel)
set_option maxRecDepth 20000 in
theorem gX5_leave_X5_fail : GoodIn wsX5_leave (wsV RX5 45 RX5 yX5_fail wsX5_fail) := goodIn_app (goodIn_of _ (by decide +kernel)) ggX5_leave_X5_fail
set_option maxRecDepth 20000 in
theorem ggX5_leave_X5_pe : GoodIn wsX5_leave wsX5_pe := goodIn_r _ [18, 19, 28, 29, 30, 31, 32, 33, 34, 35, 36, 37, 38] (by decide +kernel) (by decide +kernel)
set_option maxRecDepth 20000 in
theorem gX5_leave_X5_pe : GoodIn wsX5_leave (wsV RX5 92 RX5 yX5_pe wsX5_pe) := goodIn_app (goodIn_of _ (by decide +kernel)) ggX5_leave_X5_pe
set_option maxRecDepth 20000 in
theorem ggX5_leave_X5_withdraw : GoodIn wsX5_leave wsX5_withdraw := goodIn_r _ [23, 24, 25, 26, 5, 27, 19, 28, 29, 30, 31, 32, 33, 34, 35, 36, 37, 38] (by decide +kernel) (by decide +kernel)
set_option maxRecDepth 20000 in
theorem gX5_leave_X5_withdraw : GoodIn wsX5_leave (wsV RX5 106 RX5 yX5_withdraw wsX5_withdraw) := goodIn_app (goodIn_of _ (by decide +kernel)) ggX5_leave_X5_withdraw
theorem dX5_leave_0 : decode cX5_leave 0 = .ok (.aload_n 0, 1) := by decide +kernel
theorem dX5_leave_1 : decode cX5_leave 1 = .ok (.iconst 0, 1) := by decide +kernel
theorem dX5_leave_2 : decode cX5_leave 2 = .ok (.putfield 28, 3) := by decide +kernel
theorem dX5_leave_5 : decode cX5_leave 5 = .ok (.aload_n 0, 1) := by decide +kernel
theorem dX5_leave_6 : decode cX5_leave 6 = .ok (.iload_n 1, 1) := by decide +kernel
theorem dX5_leave_7 : decode cX5_leave 7 = .ok (.invokevirtual 95, 3) := by decide +kernel
theorem dX5_leave_10 : decode cX5_leave 10 = .ok (.ifCond .ne 9, 3) := by decide +kernel
theorem dX5_leave_13 : decode cX5_leave 13 = .ok (.aload_n 0, 1) := by decide +kernel
theorem dX5_leave_14 : decode cX5_leave 14 = .ok (.iconst 1, 1) := by decide +kernel
theorem dX5_leave_15 : decode cX5_leave 15 = .ok (.invokevirtual 45, 3) := by decide +kernel
theorem dX5_leave_18 : decode cX5_leave 18 = .ok (.ireturn, 1) := by decide +kernel
theorem dX5_leave_19 : decode cX5_leave 19 = .ok (.aload_n 0, 1) := by decide +kernel
theorem dX5_leave_20 : decode cX5_leave 20 = .ok (.iload_n 1, 1) := by decide +kernel
theorem dX5_leave_21 : decode cX5_leave 21 = .ok (.iconst 3, 1) := by decide +kernel
theorem dX5_leave_22 : decode cX5_leave 22 = .ok (.invokevirtual 92, 3) := by decide +kernel
theorem dX5_leave_25 : decode cX5_leave 25 = .ok (.istore_n 2, 1) := by decide +kernel
theorem dX5_leave_26 : decode cX5_leave 26 = .ok (.aload_n 0, 1) := by decide +kernel
theorem dX5_leave_27 : decode cX5_leave 27 = .ok (.iload_n 1, 1) := by decide +kernel
theorem dX5_leave_28 : decode cX5_leave 28 = .ok (.invokevirtual 106, 3) := by decide +kernel
theorem dX5_leave_31 : decode cX5_leave 31 = .ok (.iload_n 2, 1) := by decide +kernel
theorem dX5_leave_32 : decode cX5_leave 32 = .ok (.ireturn, 1) := by decide +kernel
set_option maxRecDepth 20000 in
theorem ggX5_guest_X5_isGuest : GoodIn wsX5_guest wsX5_isGuest := goodIn_r _ [6, 7, 8, 9, 5, 10, 20, 21, 22, 23, 24, 25, 26, 27, 28, 29, 30] (by decide +kernel) (by decide +kernel)
set_option maxRecDepth 20000 in
theorem gX5_guest_X5_isGuest : GoodIn wsX5_guest (wsV RX5 95 RX5 yX5_isGuest wsX5_isGuest) := goodIn_app (goodIn_of _ (by decide +kernel)) ggX5_guest_X5_isGuest
set_option maxRecDepth 20000 in
theorem ggX5_guest_X5_isIn : GoodIn wsX5_guest wsX5_isIn := goodIn_r _ [10] (by decide +kernel) (by decide +kernel)
set_option maxRecDepth 20000 in
theorem gX5_guest_X5_isIn : GoodIn wsX5_guest (va_wsS RX5 35 yX5_isIn wsX5_isIn) := goodIn_app (goodIn_of _ (by decide +kernel)) ggX5_guest_X5_isIn
set_option maxRecDepth 20000 in
theorem ggX5_guest_X5_pe : GoodIn wsX5_guest wsX5_pe := goodIn_r _ [14, 15, 20, 21, 22, 23, 24, 25, 26, 27, 28, 29, 30] (by decide +kernel) (by decide +kernel)
set_option maxRecDepth 20000 in
theorem gX5_guest_X5_pe : GoodIn wsX5_guest (wsV RX5 92 RX5 yX5_pe wsX5_pe) := goodIn_app (goodIn_of _ (by decide +kernel)) ggX5_guest_X5_pe
set_option maxRecDepth 20000 in
theorem ggX5_guest_X5_fail : GoodIn wsX5_guest wsX5_fail := goodIn_r _ [19, 1, 20, 21, 22, 23, 24, 25, 26, 27, 28, 29, 30] (by decide +kernel) (by decide +kernel)
set_option maxRecDepth 20000 in
theorem gX5_guest_X5_fail : GoodIn wsX5_guest (wsV RX5 45 RX5 yX5_fail wsX5_fail) := goodIn_app (goodIn_of _ (by decide +kernel)) ggX5_guest_X5_fail
theorem dX5_guest_0 : decode cX5_guest 0 = .ok (.aload_n 0, 1) := by decide +kernel
theorem dX5_guest_1 : decode cX5_guest 1 = .ok (.iconst 0, 1) := by decide +kernel
theorem dX5_guest_2 : decode cX5_guest 2 = .ok (.putfield 28, 3) := by decide +kernel
theorem dX5_guest_5 : decode cX5_guest 5 = .ok (.aload_n 0, 1) := by decide +kernel
theorem dX5_guest_6 : decode cX5_guest 6 = .ok (.iload_n 1, 1) := by decide +kernel
theorem dX5_guest_7 : decode cX5_guest 7 = .ok (.invokevirtual 95, 3) := by decide +kernel
theorem dX5_guest_10 : decode cX5_guest 10 = .ok (.ifCond .eq 22, 3) := by decide +kernel
theorem dX5_guest_13 : decode cX5_guest 13 = .ok (.iload_n 2, 1) := by decide +kernel
theorem dX5_guest_14 : decode cX5_guest 14 = .ok (.iconst 0, 1) := by decide +kernel
theorem dX5_guest_15 : decode cX5_guest 15 = .ok (.bipush 6, 2) := by decide +kernel
theorem dX5_guest_17 : decode cX5_guest 17 = .ok (.invokestatic 35, 3) := by decide +kernel
theorem dX5_guest_20 : decode cX5_guest 20 = .ok (.ifCond .eq 12, 3) := by decide +kernel
theorem dX5_guest_23 : decode cX5_guest 23 = .ok (.aload_n 0, 1) := by decide +kernel
theorem dX5_guest_24 : decode cX5_guest 24 = .ok (.iload_n 1, 1) := by decide +kernel
theorem dX5_guest_25 : decode cX5_guest 25 = .ok (.iload_n 2, 1) := by decide +kernel
theorem dX5_guest_26 : decode cX5_guest 26 = .ok (.invokevirtual 92, 3) := by decide +kernel
theorem dX5_guest_29 : decode cX5_guest 29 = .ok (.goto 8, 3) := by decide +kernel
theorem dX5_guest_32 : decode cX5_guest 32 = .ok (.aload_n 0, 1) := by decide +kernel
theorem dX5_guest_33 : decode cX5_guest 33 = .ok (.iconst 1, 1) := by decide +kernel
theorem dX5_guest_34 : decode cX5_guest 34 = .ok (.invokevirtual 45, 3) := by decide +kernel
theorem dX5_guest_37 : decode cX5_guest 37 = .ok (.ireturn, 1) := by decide +kernel
set_option maxRecDepth 20000 in
theorem ggX5_counts_X5_pe : GoodIn wsX5_counts wsX5_pe := goodIn_r _ [5, 6, 16, 17, 18, 19, 20, 21, 22, 23, 24, 25, 26] (by decide +kernel) (by decide +kernel)
set_option maxRecDepth 20000 in
theorem gX5_counts_X5_pe : GoodIn wsX5_counts (wsV RX5 92 RX5 yX5_pe wsX5_pe) := goodIn_app (goodIn_of _ (by decide +kernel)) ggX5_counts_X5_pe
set_option maxRecDepth 20000 in
theorem ggX5_counts_X5_suits : GoodIn wsX5_counts wsX5_suits := goodIn_r _ [10, 1, 2, 3, 4, 5, 6, 11, 12, 13, 14, 15, 16, 17, 18, 19, 20, 21, 22, 23, 24, 25, 26] (by decide +kernel) (by decide +kernel)
set_option maxRecDepth 20000 in
theorem gX5_counts_X5_suits : GoodIn wsX5_counts (wsV RX5 102 RX5 yX5_suits wsX5_suits) := goodIn_app (goodIn_of _ (by decide +kernel)) ggX5_counts_X5_suits
theorem dX5_counts_0 : decode cX5_counts 0 = .ok (.aload_n 0, 1) := by decide +kernel
theorem dX5_counts_1 : decode cX5_counts 1 = .ok (.iload_n 1, 1) := by decide +kernel
theorem dX5_counts_2 : decode cX5_counts 2 = .ok (.iconst 3, 1) := by decide +kernel
theorem dX5_counts_3 : decode cX5_counts 3 = .ok (.invokevirtual 92, 3) := by decide +kernel
theorem dX5_counts_6 : decode cX5_counts 6 = .ok (.iload_n 2, 1) := by decide +kernel
theorem dX5_counts_7 : decode cX5_counts 7 = .ok (.if_icmp .ne 16, 3) := by decide +kernel
theorem dX5_counts_10 : decode cX5_counts 10 = .ok (.aload_n 0, 1) := by decide +kernel
theorem dX5_counts_11 : decode cX5_counts 11 = .ok (.iload_n 1, 1) := by decide +kernel
theorem dX5_counts_12 : decode cX5_counts 12 = .ok (.iload_n 2, 1) := by decide +kernel
theorem dX5_counts_13 : decode cX5_counts 13 = .ok (.invokevirtual 102, 3) := by decide +kernel
theorem dX5_counts_16 : decode cX5_counts 16 = .ok (.ifCond .eq 7, 3) := by decide +kernel
theorem dX5_counts_19 : decode cX5_counts 19 = .ok (.iconst 1, 1) := by decide +kernel
theorem dX5_counts_20 : decode cX5_counts 20 = .ok (.goto 4, 3) := by decide +kernel
theorem dX5_counts_23 : decode cX5_counts 23 = .ok (.iconst 0, 1) := by decide +kernel
theorem dX5_counts_24 : decode cX5_counts 24 = .ok (.ireturn, 1) := by decide +kernel
set_option maxRecDepth 20000 in
theorem ggX5_winner_X5_counts : GoodIn wsX5_winner wsX5_counts := goodIn_r _ [6, 7, 8, 9, 5, 10, 11, 12, 13, 14, 15, 16, 17, 18, 19, 20, 21, 22, 23, 24, 25, 26, 27, 28, 29, 30, 31] (by decide +kernel) (by decide +kernel)
set_option maxRecDepth 20000 in
theorem gX5_winner_X5_counts : GoodIn wsX5_winner (wsV RX5 110 RX5 yX5_counts wsX5_counts) := goodIn_app (goodIn_of _ (by decide +kernel)) ggX5_winner_X5_counts
set_option maxRecDepth 20000 in
theorem ggX5_winner_X5_pe : GoodIn wsX5_winner wsX5_pe := goodIn_r _ [10, 11, 21, 22, 23, 24, 25, 26, 27, 28, 29, 30, 31] (by decide +kernel) (by decide +kernel)
set_option maxRecDepth 20000 in
theorem gX5_winner_X5_pe : GoodIn wsX5_winner (wsV RX5 92 RX5 yX5_pe wsX5_pe) := goodIn_app (goodIn_of _ (by decide +kernel)) ggX5_winner_X5_pe
theorem dX5_winner_0 : decode cX5_winner 0 = .ok (.iconst (-1), 1) := by decide +kernel
theorem dX5_winner_1 : decode cX5_winner 1 = .ok (.istore_n 2, 1) := by decide +kernel
theorem dX5_winner_2 : decode cX5_winner 2 = .ok (.iconst 0, 1) := by decide +kernel
theorem dX5_winner_3 : decode cX5_winner 3 = .ok (.istore_n 3, 1) := by decide +kernel
theorem dX5_winner_4 : decode cX5_winner 4 = .ok (.iload_n 3, 1) := by decide +kernel
theorem dX5_winner_5 : decode cX5_winner 5 = .ok (.aload_n 0, 1) := by decide +kernel
theorem dX5_winner_6 : decode cX5_winner 6 = .ok (.getfield 42, 3) := by decide +kernel
theorem dX5_winner_9 : decode cX5_winner 9 = .ok (.if_icmp .ge 40, 3) := by decide +kernel
theorem dX5_winner_12 : decode cX5_winner 12 = .ok (.aload_n 0, 1) := by decide +kernel
theorem dX5_winner_13 : decode cX5_winner 13 = .ok (.iload_n 3, 1) := by decide +kernel
theorem dX5_winner_14 : decode cX5_winner 14 = .ok (.iload_n 1, 1) := by decide +kernel
theorem dX5_winner_15 : decode cX5_winner 15 = .ok (.invokevirtual 110, 3) := by decide +kernel
theorem dX5_winner_18 : decode cX5_winner 18 = .ok (.ifCond .eq 25, 3) := by decide +kernel
theorem dX5_winner_21 : decode cX5_winner 21 = .ok (.iload_n 2, 1) := by decide +kernel
theorem dX5_winner_22 : decode cX5_winner 22 = .ok (.iconst (-1), 1) := by decide +kernel
theorem dX5_winner_23 : decode cX5_winner 23 = .ok (.if_icmp .eq 18, 3) := by decide +kernel
theorem dX5_winner_26 : decode cX5_winner 26 = .ok (.aload_n 0, 1) := by decide +kernel
theorem dX5_winner_27 : decode cX5_winner 27 = .ok (.iload_n 3, 1) := by decide +kernel
theorem dX5_winner_28 : decode cX5_winner 28 = .ok (.iconst 4, 1) := by decide +kernel
theorem dX5_winner_29 : decode cX5_winner 29 = .ok (.invokevirtual 92, 3) := by decide +kernel
theorem dX5_winner_32 : decode cX5_winner 32 = .ok (.aload_n 0, 1) := by decide +kernel
theorem dX5_winner_33 : decode cX5_winner 33 = .ok (.iload_n 2, 1) := by decide +kernel
theorem dX5_winner_34 : decode cX5_winner 34 = .ok (.iconst 4, 1) := by decide +kernel
theorem dX5_winner_35 : decode cX5_winner 35 = .ok (.invokevirtual 92, 3) := by decide +kernel
theorem dX5_winner_38 : decode cX5_winner 38 = .ok (.if_icmp .le 5, 3) := by decide +kernel
theorem dX5_winner_41 : decode cX5_winner 41 = .ok (.iload_n 3, 1) := by decide +kernel
theorem dX5_winner_42 : decode cX5_winner 42 = .ok (.istore_n 2, 1) := by decide +kernel
theorem dX5_winner_43 : decode cX5_winner 43 = .ok (.iinc 3 1, 3) := by decide +kernel
theorem dX5_winner_46 : decode cX5_winner 46 = .ok (.goto (-42), 3) := by decide +kernel
theorem dX5_winner_49 : decode cX5_winner 49 = .ok (.iload_n 2, 1) := by decide +kernel
theorem dX5_winner_50 : decode cX5_winner 50 = .ok (.ireturn, 1) := by decide +kernel
set_option maxRecDepth 20000 in
theorem ggX5_pays_X5_winner : GoodIn wsX5_pays wsX5_winner := goodIn_r _ [10, 1, 11, 12, 13, 9, 14, 15, 16, 17, 18, 19, 20, 21, 22, 23, 24, 25, 26, 27, 28, 29, 30, 31, 32, 33, 34, 35, 36, 37, 38, 39] (by decide +kernel) (by decide +kernel)
set_option maxRecDepth 20000 in
theorem gX5_pays_X5_winner : GoodIn wsX5_pays (wsV RX5 113 RX5 yX5_winner wsX5_winner) := goodIn_app (goodIn_of _ (by decide +kernel)) ggX5_pays_X5_winner
set_option maxRecDepth 20000 in
theorem ggX5_pays_X5_ro : GoodIn wsX5_pays wsX5_ro := goodIn_r _ [27, 28, 29, 30, 31, 32, 33, 34, 35, 36, 37, 38, 39] (by decide +kernel) (by decide +kernel)
set_option maxRecDepth 20000 in
theorem gX5_pays_X5_ro : GoodIn wsX5_pays (wsV RX5 83 RX5 yX5_ro wsX5_ro) := goodIn_app (goodIn_of _ (by decide +kernel)) ggX5_pays_X5_ro
set_option maxRecDepth 20000 in
theorem ggX5_pays_X5_counts : GoodIn wsX5_pays wsX5_counts := goodIn_r _ [14, 15, 16, 17, 9, 18, 19, 20, 21, 22, 23, 24, 25, 26, 27, 28, 29, 30, 31, 32, 33, 34, 35, 36, 37, 38, 39] (by decide +kernel) (by decide +kernel)
set_option maxRecDepth 20000 in
theorem gX5_pays_X5_counts : GoodIn wsX5_pays (wsV RX5 110 RX5 yX5_counts wsX5_counts) := goodIn_app (goodIn_of _ (by decide +kernel)) ggX5_pays_X5_counts
set_option maxRecDepth 20000 in
theorem ggX5_pays_X5_pe : GoodIn wsX5_pays wsX5_pe := goodIn_r _ [18, 19, 29, 30, 31, 32, 33, 34, 35, 36, 37, 38, 39] (by decide +kernel) (by decide +kernel)
set_option maxRecDepth 20000 in
theorem gX5_pays_X5_pe : GoodIn wsX5_pays (wsV RX5 92 RX5 yX5_pe wsX5_pe) := goodIn_app (goodIn_of _ (by decide +kernel)) ggX5_pays_X5_pe
theorem dX5_pays_0 : decode cX5_pays 0 = .ok (.aload_n 0, 1) := by decide +kernel
theorem dX5_pays_1 : decode cX5_pays 1 = .ok (.iload_n 1, 1) := by decide +kernel
theorem dX5_pays_2 : decode cX5_pays 2 = .ok (.invokevirtual 113, 3) := by decide +kernel
theorem dX5_pays_5 : decode cX5_pays 5 = .ok (.istore_n 2, 1) := by decide +kernel
theorem dX5_pays_6 : decode cX5_pays 6 = .ok (.iload_n 2, 1) := by decide +kernel
theorem dX5_pays_7 : decode cX5_pays 7 = .ok (.iconst (-1), 1) := by decide +kernel
theorem dX5_pays_8 : decode cX5_pays 8 = .ok (.if_icmp .ne 5, 3) := by decide +kernel
theorem dX5_pays_11 : decode cX5_pays 11 = .ok (.iconst 0, 1) := by decide +kernel
theorem dX5_pays_12 : decode cX5_pays 12 = .ok (.ireturn, 1) := by decide +kernel
theorem dX5_pays_13 : decode cX5_pays 13 = .ok (.aload_n 0, 1) := by decide +kernel
theorem dX5_pays_14 : decode cX5_pays 14 = .ok (.iload_n 1, 1) := by decide +kernel
theorem dX5_pays_15 : decode cX5_pays 15 = .ok (.iconst 2, 1) := by decide +kernel
theorem dX5_pays_16 : decode cX5_pays 16 = .ok (.invokevirtual 83, 3) := by decide +kernel
theorem dX5_pays_19 : decode cX5_pays 19 = .ok (.istore_n 3, 1) := by decide +kernel
theorem dX5_pays_20 : decode cX5_pays 20 = .ok (.iconst 0, 1) := by decide +kernel
theorem dX5_pays_21 : decode cX5_pays 21 = .ok (.istore 4, 2) := by decide +kernel
theorem dX5_pays_23 : decode cX5_pays 23 = .ok (.iload 4, 2) := by decide +kernel
theorem dX5_pays_25 : decode cX5_pays 25 = .ok (.aload_n 0, 1) := by decide +kernel
theorem dX5_pays_26 : decode cX5_pays 26 = .ok (.getfield 42, 3) := by decide +kernel
theorem dX5_pays_29 : decode cX5_pays 29 = .ok (.if_icmp .ge 37, 3) := by decide +kernel
theorem dX5_pays_32 : decode cX5_pays 32 = .ok (.iload 4, 2) := by decide +kernel
theorem dX5_pays_34 : decode cX5_pays 34 = .ok (.iload_n 2, 1) := by decide +kernel
theorem dX5_pays_35 : decode cX5_pays 35 = .ok (.if_icmp .eq 25, 3) := by decide +kernel
theorem dX5_pays_38 : decode cX5_pays 38 = .ok (.aload_n 0, 1) := by decide +kernel
theorem dX5_pays_39 : decode cX5_pays 39 = .ok (.iload 4, 2) := by decide +kernel
theorem dX5_pays_41 : decode cX5_pays 41 = .ok (.iload_n 1, 1) := by decide +kernel
theorem dX5_pays_42 : decode cX5_pays 42 = .ok (.invokevirtual 110, 3) := by decide +kernel
theorem dX5_pays_45 : decode cX5_pays 45 = .ok (.ifCond .eq 15, 3) := by decide +kernel
theorem dX5_pays_48 : decode cX5_pays 48 = .ok (.iload_n 3, 1) := by decide +kernel
theorem dX5_pays_49 : decode cX5_pays 49 = .ok (.aload_n 0, 1) := by decide +kernel
theorem dX5_pays_50 : decode cX5_pays 50 = .ok (.iload 4, 2) := by decide +kernel
theorem dX5_pays_52 : decode cX5_pays 52 = .ok (.iconst 4, 1) := by decide +kernel
theorem dX5_pays_53 : decode cX5_pays 53 = .ok (.invokevirtual 92, 3) := by decide +kernel
theorem dX5_pays_56 : decode cX5_pays 56 = .ok (.invokestatic 116, 3) := by decide +kernel
theorem dX5_pays_59 : decode cX5_pays 59 = .ok (.istore_n 3, 1) := by decide +kernel
theorem dX5_pays_60 : decode cX5_pays 60 = .ok (.iinc 4 1, 3) := by decide +kernel
theorem dX5_pays_63 : decode cX5_pays 63 = .ok (.goto (-40), 3) := by decide +kernel
theorem dX5_pays_66 : decode cX5_pays 66 = .ok (.iload_n 3, 1) := by decide +kernel
theorem dX5_pays_67 : decode cX5_pays 67 = .ok (.ireturn, 1) := by decide +kernel
set_option maxRecDepth 20000 in
theorem ggX5_won_X5_winner : GoodIn wsX5_won wsX5_winner := goodIn_r _ [6, 1, 7, 8, 9, 5, 10, 11, 12, 13, 14, 15, 16, 17, 18, 19, 20, 21, 22, 23, 24, 33, 34, 35, 36, 37, 38, 39, 40, 41, 42, 43] (by decide +kernel) (by decide +kernel)
set_option maxRecDepth 20000 in
theorem gX5_won_X5_winner : GoodIn wsX5_won (wsV RX5 113 RX5 yX5_winner wsX5_winner) := goodIn_app (goodIn_of _ (by decide +kernel)) ggX5_won_X5_winner
set_option maxRecDepth 20000 in
theorem ggX5_won_X5_pays : GoodIn wsX5_won wsX5_pays := goodIn_r _ [28, 1, 29, 30, 31, 32, 2, 3, 4, 5, 6, 7, 8, 9, 10, 11, 12, 13, 14, 15, 16, 17, 18, 19, 20, 21, 22, 23, 24, 33, 34, 35, 36, 37, 38, 39, 40, 41, 42, 43] (by decide +kernel) (by decide +kernel)
set_option maxRecDepth 20000 in
theorem gX5_won_X5_pays : GoodIn wsX5_won (wsV RX5 121 RX5 yX5_pays wsX5_pays) := goodIn_app (goodIn_of _ (by decide +kernel)) ggX5_won_X5_pays
set_option maxRecDepth 20000 in
theorem ggX5_won_X5_counts : GoodIn wsX5_won wsX5_counts := goodIn_r _ [10, 11, 12, 13, 5, 14, 15, 16, 17, 18, 19, 20, 21, 22, 23, 24, 33, 34, 35, 36, 37, 38, 39, 40, 41, 42, 43] (by decide +kernel) (by decide +kernel)
set_option maxRecDepth 20000 in
theorem gX5_won_X5_counts : GoodIn wsX5_won (wsV RX5 110 RX5 yX5_counts wsX5_counts) := goodIn_app (goodIn_of _ (by decide +kernel)) ggX5_won_X5_counts
theorem dX5_won_0 : decode cX5_won 0 = .ok (.iconst 0, 1) := by decide +kernel
theorem dX5_won_1 : decode cX5_won 1 = .ok (.istore_n 3, 1) := by decide +kernel
theorem dX5_won_2 : decode cX5_won 2 = .ok (.iload_n 2, 1) := by decide +kernel
theorem dX5_won_3 : decode cX5_won 3 = .ok (.iconst 2, 1) := by decide +kernel
theorem dX5_won_4 : decode cX5_won 4 = .ok (.if_icmp .ge 21, 3) := by decide +kernel
theorem dX5_won_7 : decode cX5_won 7 = .ok (.iload_n 2, 1) := by decide +kernel
theorem dX5_won_8 : decode cX5_won 8 = .ok (.ifCond .ne 11, 3) := by decide +kernel
theorem dX5_won_11 : decode cX5_won 11 = .ok (.aload_n 0, 1) := by decide +kernel
theorem dX5_won_12 : decode cX5_won 12 = .ok (.iload_n 1, 1) := by decide +kernel
theorem dX5_won_13 : decode cX5_won 13 = .ok (.invokevirtual 113, 3) := by decide +kernel
theorem dX5_won_16 : decode cX5_won 16 = .ok (.goto 8, 3) := by decide +kernel
theorem dX5_won_19 : decode cX5_won 19 = .ok (.aload_n 0, 1) := by decide +kernel
theorem dX5_won_20 : decode cX5_won 20 = .ok (.iload_n 1, 1) := by decide +kernel
theorem dX5_won_21 : decode cX5_won 21 = .ok (.invokevirtual 121, 3) := by decide +kernel
theorem dX5_won_24 : decode cX5_won 24 = .ok (.ireturn, 1) := by decide +kernel
theorem dX5_won_25 : decode cX5_won 25 = .ok (.iconst 0, 1) := by decide +kernel
theorem dX5_won_26 : decode cX5_won 26 = .ok (.istore 4, 2) := by decide +kernel
theorem dX5_won_28 : decode cX5_won 28 = .ok (.iload 4, 2) := by decide +kernel
theorem dX5_won_30 : decode cX5_won 30 = .ok (.aload_n 0, 1) := by decide +kernel
theorem dX5_won_31 : decode cX5_won 31 = .ok (.getfield 42, 3) := by decide +kernel
theorem dX5_won_34 : decode cX5_won 34 = .ok (.if_icmp .ge 27, 3) := by decide +kernel
theorem dX5_won_37 : decode cX5_won 37 = .ok (.iload_n 3, 1) := by decide +kernel
theorem dX5_won_38 : decode cX5_won 38 = .ok (.aload_n 0, 1) := by decide +kernel
theorem dX5_won_39 : decode cX5_won 39 = .ok (.iload 4, 2) := by decide +kernel
theorem dX5_won_41 : decode cX5_won 41 = .ok (.iload_n 1, 1) := by decide +kernel
theorem dX5_won_42 : decode cX5_won 42 = .ok (.invokevirtual 110, 3) := by decide +kernel
theorem dX5_won_45 : decode cX5_won 45 = .ok (.ifCond .eq 7, 3) := by decide +kernel
theorem dX5_won_48 : decode cX5_won 48 = .ok (.iconst 1, 1) := by decide +kernel
theorem dX5_won_49 : decode cX5_won 49 = .ok (.goto 4, 3) := by decide +kernel
theorem dX5_won_52 : decode cX5_won 52 = .ok (.iconst 0, 1) := by decide +kernel
theorem dX5_won_53 : decode cX5_won 53 = .ok (.iadd, 1) := by decide +kernel
theorem dX5_won_54 : decode cX5_won 54 = .ok (.istore_n 3, 1) := by decide +kernel
theorem dX5_won_55 : decode cX5_won 55 = .ok (.iinc 4 1, 3) := by decide +kernel
theorem dX5_won_58 : decode cX5_won 58 = .ok (.goto (-30), 3) := by decide +kernel
theorem dX5_won_61 : decode cX5_won 61 = .ok (.iload_n 3, 1) := by decide +kernel
theorem dX5_won_62 : decode cX5_won 62 = .ok (.ireturn, 1) := by decide +kernel
set_option maxRecDepth 20000 in
theorem ggX5_wins_X5_isRoom : GoodIn wsX5_wins wsX5_isRoom := goodIn_r _ [6, 7, 8, 9, 5, 10, 50, 51, 52, 53, 54, 55, 56, 57, 58, 59, 60] (by decide +kernel) (by decide +kernel)
set_option maxRecDepth 20000 in
theorem gX5_wins_X5_isRoom : GoodIn wsX5_wins (wsV RX5 55 RX5 yX5_isRoom wsX5_isRoom) := goodIn_app (goodIn_of _ (by decide +kernel)) ggX5_wins_X5_isRoom
set_option maxRecDepth 20000 in
theorem ggX5_wins_X5_isIn : GoodIn wsX5_wins wsX5_isIn := goodIn_r _ [10] (by decide +kernel) (by decide +kernel)
set_option maxRecDepth 20000 in
theorem gX5_wins_X5_isIn : GoodIn wsX5_wins (va_wsS RX5 35 yX5_isIn wsX5_isIn) := goodIn_app (goodIn_of _ (by decide +kernel)) ggX5_wins_X5_isIn
set_option maxRecDepth 20000 in
theorem ggX5_wins_X5_won : GoodIn wsX5_wins wsX5_won := goodIn_r _ [14, 15, 16, 17, 18, 5, 19, 20, 21, 22, 23, 24, 25, 26, 27, 28, 29, 30, 31, 32, 33, 34, 35, 36, 37, 38, 39, 40, 41, 42, 43, 44, 45, 50, 51, 52, 53, 54, 55, 56, 57, 58, 59, 60] (by decide +kernel) (by decide +kernel)
set_option maxRecDepth 20000 in
theorem gX5_wins_X5_won : GoodIn wsX5_wins (wsV RX5 124 RX5 yX5_won wsX5_won) := goodIn_app (goodIn_of _ (by decide +kernel)) ggX5_wins_X5_won
set_option maxRecDepth 20000 in
theorem ggX5_wins_X5_fail : GoodIn wsX5_wins wsX5_fail := goodIn_r _ [49, 1, 50, 51, 52, 53, 54, 55, 56, 57, 58, 59, 60] (by decide +kernel) (by decide +kernel)
set_option maxRecDepth 20000 in
theorem gX5_wins_X5_fail : GoodIn wsX5_wins (wsV RX5 45 RX5 yX5_fail wsX5_fail) := goodIn_app (goodIn_of _ (by decide +kernel)) ggX5_wins_X5_fail
theorem dX5_wins_0 : decode cX5_wins 0 = .ok (.aload_n 0, 1) := by decide +kernel
theorem dX5_wins_1 : decode cX5_wins 1 = .ok (.iconst 0, 1) := by decide +kernel
theorem dX5_wins_2 : decode cX5_wins 2 = .ok (.putfield 28, 3) := by decide +kernel
theorem dX5_wins_5 : decode cX5_wins 5 = .ok (.aload_n 0, 1) := by decide +kernel
theorem dX5_wins_6 : decode cX5_wins 6 = .ok (.iload_n 1, 1) := by decide +kernel
theorem dX5_wins_7 : decode cX5_wins 7 = .ok (.invokevirtual 55, 3) := by decide +kernel
theorem dX5_wins_10 : decode cX5_wins 10 = .ok (.ifCond .eq 21, 3) := by decide +kernel
theorem dX5_wins_13 : decode cX5_wins 13 = .ok (.iload_n 2, 1) := by decide +kernel
theorem dX5_wins_14 : decode cX5_wins 14 = .ok (.iconst 0, 1) := by decide +kernel
theorem dX5_wins_15 : decode cX5_wins 15 = .ok (.iconst 2, 1) := by decide +kernel
theorem dX5_wins_16 : decode cX5_wins 16 = .ok (.invokestatic 35, 3) := by decide +kernel
theorem dX5_wins_19 : decode cX5_wins 19 = .ok (.ifCond .eq 12, 3) := by decide +kernel
theorem dX5_wins_22 : decode cX5_wins 22 = .ok (.aload_n 0, 1) := by decide +kernel
theorem dX5_wins_23 : decode cX5_wins 23 = .ok (.iload_n 1, 1) := by decide +kernel
theorem dX5_wins_24 : decode cX5_wins 24 = .ok (.iload_n 2, 1) := by decide +kernel
theorem dX5_wins_25 : decode cX5_wins 25 = .ok (.invokevirtual 124, 3) := by decide +kernel
theorem dX5_wins_28 : decode cX5_wins 28 = .ok (.goto 8, 3) := by decide +kernel
theorem dX5_wins_31 : decode cX5_wins 31 = .ok (.aload_n 0, 1) := by decide +kernel
theorem dX5_wins_32 : decode cX5_wins 32 = .ok (.iconst 1, 1) := by decide +kernel
theorem dX5_wins_33 : decode cX5_wins 33 = .ok (.invokevirtual 45, 3) := by decide +kernel
theorem dX5_wins_36 : decode cX5_wins 36 = .ok (.ireturn, 1) := by decide +kernel
theorem dX5_isBad_0 : decode cX5_isBad 0 = .ok (.iload_n 0, 1) := by decide +kernel
theorem dX5_isBad_1 : decode cX5_isBad 1 = .ok (.ifCond .ge 17, 3) := by decide +kernel
theorem dX5_isBad_4 : decode cX5_isBad 4 = .ok (.iload_n 1, 1) := by decide +kernel
theorem dX5_isBad_5 : decode cX5_isBad 5 = .ok (.iload_n 0, 1) := by decide +kernel
theorem dX5_isBad_6 : decode cX5_isBad 6 = .ok (.ineg, 1) := by decide +kernel
theorem dX5_isBad_7 : decode cX5_isBad 7 = .ok (.if_icmp .ge 7, 3) := by decide +kernel
theorem dX5_isBad_10 : decode cX5_isBad 10 = .ok (.iconst 1, 1) := by decide +kernel
theorem dX5_isBad_11 : decode cX5_isBad 11 = .ok (.goto 17, 3) := by decide +kernel
theorem dX5_isBad_14 : decode cX5_isBad 14 = .ok (.iconst 0, 1) := by decide +kernel
theorem dX5_isBad_15 : decode cX5_isBad 15 = .ok (.goto 13, 3) := by decide +kernel
theorem dX5_isBad_18 : decode cX5_isBad 18 = .ok (.iload_n 1, 1) := by decide +kernel
theorem dX5_isBad_19 : decode cX5_isBad 19 = .ok (.iload_n 0, 1) := by decide +kernel
theorem dX5_isBad_20 : decode cX5_isBad 20 = .ok (.if_icmp .le 7, 3) := by decide +kernel
theorem dX5_isBad_23 : decode cX5_isBad 23 = .ok (.iconst 1, 1) := by decide +kernel
theorem dX5_isBad_24 : decode cX5_isBad 24 = .ok (.goto 4, 3) := by decide +kernel
theorem dX5_isBad_27 : decode cX5_isBad 27 = .ok (.iconst 0, 1) := by decide +kernel
theorem dX5_isBad_28 : decode cX5_isBad 28 = .ok (.ireturn, 1) := by decide +kernel
set_option maxRecDepth 20000 in
theorem ggX5_night_X5_winner : GoodIn wsX5_night wsX5_winner := goodIn_r _ [16, 11, 17, 18, 19, 15, 20, 21, 22, 23, 24, 25, 26, 27, 28, 29, 30, 31, 32, 33, 34, 78, 79, 80, 81, 82, 83, 84, 85, 86, 87, 88] (by decide +kernel) (by decide +kernel)
set_option maxRecDepth 20000 in
theorem gX5_night_X5_winner : GoodIn wsX5_night (wsV RX5 113 RX5 yX5_winner wsX5_winner) := goodIn_app (goodIn_of _ (by decide +kernel)) ggX5_night_X5_winner
set_option maxRecDepth 20000 in
theorem ggX5_night_X5_pays : GoodIn wsX5_night wsX5_pays := goodIn_r _ [38, 11, 3, 4, 5, 6, 12, 13, 14, 15, 16, 17, 18, 19, 20, 21, 22, 23, 24, 25, 26, 27, 28, 29, 30, 31, 32, 33, 34, 78, 79, 80, 81, 82, 83, 84, 85, 86, 87, 88] (by decide +kernel) (by decide +kernel)
set_option maxRecDepth 20000 in
theorem gX5_night_X5_pays : GoodIn wsX5_night (wsV RX5 121 RX5 yX5_pays wsX5_pays) := goodIn_app (goodIn_of _ (by decide +kernel)) ggX5_night_X5_pays
set_option maxRecDepth 20000 in
theorem ggX5_night_X5_pe : GoodIn wsX5_night wsX5_pe := goodIn_r _ [24, 25, 78, 79, 80, 81, 82, 83, 84, 85, 86, 87, 88] (by decide +kernel) (by decide +kernel)
set_option maxRecDepth 20000 in
theorem gX5_night_X5_pe : GoodIn wsX5_night (wsV RX5 92 RX5 yX5_pe wsX5_pe) := goodIn_app (goodIn_of _ (by decide +kernel)) ggX5_night_X5_pe
set_option maxRecDepth 20000 in
theorem ggX5_night_X5_haunted : GoodIn wsX5_night wsX5_haunted := goodIn_r _ [42, 43, 44, 45, 46, 15, 47, 48, 49, 50, 51, 52, 53, 54, 55, 56, 57, 58, 59, 60, 61, 62, 78, 79, 80, 81, 82, 83, 84, 85, 86, 87, 88] (by decide +kernel) (by decide +kernel)
set_option maxRecDepth 20000 in
theorem gX5_night_X5_haunted : GoodIn wsX5_night (wsV RX5 80 RX5 yX5_haunted wsX5_haunted) := goodIn_app (goodIn_of _ (by decide +kernel)) ggX5_night_X5_haunted
set_option maxRecDepth 20000 in
theorem ggX5_night_X5_isBad : GoodIn wsX5_night wsX5_isBad := goodIn_r _ [65] (by decide +kernel) (by decide +kernel)
set_option maxRecDepth 20000 in
theorem gX5_night_X5_isBad : GoodIn wsX5_night (va_wsS RX5 127 yX5_isBad wsX5_isBad) := goodIn_app (goodIn_of _ (by decide +kernel)) ggX5_night_X5_isBad
set_option maxRecDepth 20000 in
theorem ggX5_night_X5_withdraw : GoodIn wsX5_night wsX5_withdraw := goodIn_r _ [69, 70, 71, 72, 15, 73, 25, 78, 79, 80, 81, 82, 83, 84, 85, 86, 87, 88] (by decide +kernel) (by decide +kernel)
set_option maxRecDepth 20000 in
theorem gX5_night_X5_withdraw : GoodIn wsX5_night (wsV RX5 106 RX5 yX5_withdraw wsX5_withdraw) := goodIn_app (goodIn_of _ (by decide +kernel)) ggX5_night_X5_withdraw
set_option maxRecDepth 20000 in
theorem ggX5_night_X5_set : GoodIn wsX5_night wsX5_set := goodIn_r _ [73, 25, 78, 79, 80, 81, 82, 83, 84, 85, 86, 87, 88] (by decide +kernel) (by decide +kernel)
set_option maxRecDepth 20000 in
theorem gX5_night_X5_set : GoodIn wsX5_night (wsV RX5 98 RX5 yX5_set wsX5_set) := goodIn_app (goodIn_of _ (by decide +kernel)) ggX5_night_X5_set
set_option maxRecDepth 20000 in
theorem ggX5_night_X5_ro : GoodIn wsX5_night wsX5_ro := goodIn_r _ [33, 34, 78, 79, 80, 81, 82, 83, 84, 85, 86, 87, 88] (by decide +kernel) (by decide +kernel)
set_option maxRecDepth 20000 in
theorem gX5_night_X5_ro : GoodIn wsX5_night (wsV RX5 83 RX5 yX5_ro wsX5_ro) := goodIn_app (goodIn_of _ (by decide +kernel)) ggX5_night_X5_ro
set_option maxRecDepth 20000 in
theorem ggX5_night_X5_addRo : GoodIn wsX5_night wsX5_addRo := goodIn_r _ [77, 34, 78, 79, 80, 81, 82, 83, 84, 85, 86, 87, 88] (by decide +kernel) (by decide +kernel)
set_option maxRecDepth 20000 in
theorem gX5_night_X5_addRo : GoodIn wsX5_night (wsV RX5 133 RX5 yX5_addRo wsX5_addRo) := goodIn_app (goodIn_of _ (by decide +kernel)) ggX5_night_X5_addRo
theorem dX5_night_0 : decode cX5_night 0 = .ok (.aload_n 0, 1) := by decide +kernel
theorem dX5_night_1 : decode cX5_night 1 = .ok (.iconst 0, 1) := by decide +kernel
theorem dX5_night_2 : decode cX5_night 2 = .ok (.putfield 28, 3) := by decide +kernel
theorem dX5_night_5 : decode cX5_night 5 = .ok (.iconst 0, 1) := by decide +kernel
theorem dX5_night_6 : decode cX5_night 6 = .ok (.istore_n 1, 1) := by decide +kernel
theorem dX5_night_7 : decode cX5_night 7 = .ok (.iload_n 1, 1) := by decide +kernel
theorem dX5_night_8 : decode cX5_night 8 = .ok (.aload_n 0, 1) := by decide +kernel
theorem dX5_night_9 : decode cX5_night 9 = .ok (.getfield 32, 3) := by decide +kernel
theorem dX5_night_12 : decode cX5_night 12 = .ok (.if_icmp .ge 248, 3) := by decide +kernel
theorem dX5_night_15 : decode cX5_night 15 = .ok (.aload_n 0, 1) := by decide +kernel
theorem dX5_night_16 : decode cX5_night 16 = .ok (.iload_n 1, 1) := by decide +kernel
theorem dX5_night_17 : decode cX5_night 17 = .ok (.invokevirtual 113, 3) := by decide +kernel
theorem dX5_night_20 : decode cX5_night 20 = .ok (.istore_n 2, 1) := by decide +kernel
theorem dX5_night_21 : decode cX5_night 21 = .ok (.iload_n 2, 1) := by decide +kernel
theorem dX5_night_22 : decode cX5_night 22 = .ok (.iconst (-1), 1) := by decide +kernel
theorem dX5_night_23 : decode cX5_night 23 = .ok (.if_icmp .ne 6, 3) := by decide +kernel
theorem dX5_night_26 : decode cX5_night 26 = .ok (.goto 228, 3) := by decide +kernel
theorem dX5_night_29 : decode cX5_night 29 = .ok (.aload_n 0, 1) := by decide +kernel
theorem dX5_night_30 : decode cX5_night 30 = .ok (.iload_n 1, 1) := by decide +kernel
theorem dX5_night_31 : decode cX5_night 31 = .ok (.invokevirtual 121, 3) := by decide +kernel
theorem dX5_night_34 : decode cX5_night 34 = .ok (.istore_n 3, 1) := by decide +kernel
theorem dX5_night_35 : decode cX5_night 35 = .ok (.aload_n 0, 1) := by decide +kernel
theorem dX5_night_36 : decode cX5_night 36 = .ok (.iload_n 2, 1) := by decide +kernel
theorem dX5_night_37 : decode cX5_night 37 = .ok (.iconst 2, 1) := by decide +kernel
theorem dX5_night_38 : decode cX5_night 38 = .ok (.invokevirtual 92, 3) := by decide +kernel
theorem dX5_night_41 : decode cX5_night 41 = .ok (.aload_n 0, 1) := by decide +kernel
theorem dX5_night_42 : decode cX5_night 42 = .ok (.iload_n 1, 1) := by decide +kernel
theorem dX5_night_43 : decode cX5_night 43 = .ok (.iconst (-1), 1) := by decide +kernel
theorem dX5_night_44 : decode cX5_night 44 = .ok (.invokevirtual 80, 3) := by decide +kernel
theorem dX5_night_47 : decode cX5_night 47 = .ok (.invokestatic 127, 3) := by decide +kernel
theorem dX5_night_50 : decode cX5_night 50 = .ok (.istore 4, 2) := by decide +kernel
theorem dX5_night_52 : decode cX5_night 52 = .ok (.iload 4, 2) := by decide +kernel
theorem dX5_night_54 : decode cX5_night 54 = .ok (.ifCond .eq 9, 3) := by decide +kernel
theorem dX5_night_57 : decode cX5_night 57 = .ok (.iload_n 3, 1) := by decide +kernel
theorem dX5_night_58 : decode cX5_night 58 = .ok (.iconst 2, 1) := by decide +kernel
theorem dX5_night_59 : decode cX5_night 59 = .ok (.idiv, 1) := by decide +kernel
theorem dX5_night_60 : decode cX5_night 60 = .ok (.goto 4, 3) := by decide +kernel
theorem dX5_night_63 : decode cX5_night 63 = .ok (.iconst 0, 1) := by decide +kernel
theorem dX5_night_64 : decode cX5_night 64 = .ok (.istore 5, 2) := by decide +kernel
theorem dX5_night_66 : decode cX5_night 66 = .ok (.iload 4, 2) := by decide +kernel
theorem dX5_night_68 : decode cX5_night 68 = .ok (.ifCond .eq 16, 3) := by decide +kernel
theorem dX5_night_71 : decode cX5_night 71 = .ok (.aload_n 0, 1) := by decide +kernel
theorem dX5_night_72 : decode cX5_night 72 = .ok (.iload_n 2, 1) := by decide +kernel
theorem dX5_night_73 : decode cX5_night 73 = .ok (.iconst 2, 1) := by decide +kernel
theorem dX5_night_74 : decode cX5_night 74 = .ok (.invokevirtual 92, 3) := by decide +kernel
theorem dX5_night_77 : decode cX5_night 77 = .ok (.ifCond .lt 7, 3) := by decide +kernel
theorem dX5_night_80 : decode cX5_night 80 = .ok (.iconst 1, 1) := by decide +kernel
theorem dX5_night_81 : decode cX5_night 81 = .ok (.goto 4, 3) := by decide +kernel
theorem dX5_night_84 : decode cX5_night 84 = .ok (.iconst 0, 1) := by decide +kernel
theorem dX5_night_85 : decode cX5_night 85 = .ok (.istore 6, 2) := by decide +kernel
theorem dX5_night_87 : decode cX5_night 87 = .ok (.aload_n 0, 1) := by decide +kernel
theorem dX5_night_88 : decode cX5_night 88 = .ok (.iload_n 2, 1) := by decide +kernel
theorem dX5_night_89 : decode cX5_night 89 = .ok (.invokevirtual 106, 3) := by decide +kernel
theorem dX5_night_92 : decode cX5_night 92 = .ok (.aload_n 0, 1) := by decide +kernel
theorem dX5_night_93 : decode cX5_night 93 = .ok (.iload_n 2, 1) := by decide +kernel
theorem dX5_night_94 : decode cX5_night 94 = .ok (.iconst 0, 1) := by decide +kernel
theorem dX5_night_95 : decode cX5_night 95 = .ok (.aload_n 0, 1) := by decide +kernel
theorem dX5_night_96 : decode cX5_night 96 = .ok (.iload_n 2, 1) := by decide +kernel
theorem dX5_night_97 : decode cX5_night 97 = .ok (.iconst 0, 1) := by decide +kernel
theorem dX5_night_98 : decode cX5_night 98 = .ok (.invokevirtual 92, 3) := by decide +kernel
theorem dX5_night_101 : decode cX5_night 101 = .ok (.iload_n 3, 1) := by decide +kernel
theorem dX5_night_102 : decode cX5_night 102 = .ok (.isub, 1) := by decide +kernel
theorem dX5_night_103 : decode cX5_night 103 = .ok (.iload 5, 2) := by decide +kernel
theorem dX5_night_105 : decode cX5_night 105 = .ok (.iadd, 1) := by decide +kernel
theorem dX5_night_106 : decode cX5_night 106 = .ok (.invokevirtual 98, 3) := by decide +kernel
theorem dX5_night_109 : decode cX5_night 109 = .ok (.aload_n 0, 1) := by decide +kernel
theorem dX5_night_110 : decode cX5_night 110 = .ok (.iload_n 2, 1) := by decide +kernel
theorem dX5_night_111 : decode cX5_night 111 = .ok (.iconst 5, 1) := by decide +kernel
theorem dX5_night_112 : decode cX5_night 112 = .ok (.aload_n 0, 1) := by decide +kernel
theorem dX5_night_113 : decode cX5_night 113 = .ok (.iload_n 2, 1) := by decide +kernel
theorem dX5_night_114 : decode cX5_night 114 = .ok (.iconst 5, 1) := by decide +kernel
theorem dX5_night_115 : decode cX5_night 115 = .ok (.invokevirtual 92, 3) := by decide +kernel
theorem dX5_night_118 : decode cX5_night 118 = .ok (.iconst 1, 1) := by decide +kernel
theorem dX5_night_119 : decode cX5_night 119 = .ok (.iadd, 1) := by decide +kernel
theorem dX5_night_120 : decode cX5_night 120 = .ok (.invokevirtual 98, 3) := by decide +kernel
theorem dX5_night_123 : decode cX5_night 123 = .ok (.iload 4, 2) := by decide +kernel
theorem dX5_night_125 : decode cX5_night 125 = .ok (.ifCond .eq 19, 3) := by decide +kernel
theorem dX5_night_128 : decode cX5_night 128 = .ok (.aload_n 0, 1) := by decide +kernel
theorem dX5_night_129 : decode cX5_night 129 = .ok (.iload_n 2, 1) := by decide +kernel
theorem dX5_night_130 : decode cX5_night 130 = .ok (.bipush 6, 2) := by decide +kernel
theorem dX5_night_132 : decode cX5_night 132 = .ok (.aload_n 0, 1) := by decide +kernel
theorem dX5_night_133 : decode cX5_night 133 = .ok (.iload_n 2, 1) := by decide +kernel
theorem dX5_night_134 : decode cX5_night 134 = .ok (.bipush 6, 2) := by decide +kernel
theorem dX5_night_136 : decode cX5_night 136 = .ok (.invokevirtual 92, 3) := by decide +kernel
theorem dX5_night_139 : decode cX5_night 139 = .ok (.iconst 1, 1) := by decide +kernel
theorem dX5_night_140 : decode cX5_night 140 = .ok (.iadd, 1) := by decide +kernel
theorem dX5_night_141 : decode cX5_night 141 = .ok (.invokevirtual 98, 3) := by decide +kernel
theorem dX5_night_144 : decode cX5_night 144 = .ok (.aload_n 0, 1) := by decide +kernel
theorem dX5_night_145 : decode cX5_night 145 = .ok (.iload_n 2, 1) := by decide +kernel
theorem dX5_night_146 : decode cX5_night 146 = .ok (.iconst 2, 1) := by decide +kernel
theorem dX5_night_147 : decode cX5_night 147 = .ok (.invokevirtual 92, 3) := by decide +kernel
theorem dX5_night_150 : decode cX5_night 150 = .ok (.ifCond .lt 42, 3) := by decide +kernel
theorem dX5_night_153 : decode cX5_night 153 = .ok (.aload_n 0, 1) := by decide +kernel
theorem dX5_night_154 : decode cX5_night 154 = .ok (.iload_n 2, 1) := by decide +kernel
theorem dX5_night_155 : decode cX5_night 155 = .ok (.iconst 2, 1) := by decide +kernel
theorem dX5_night_156 : decode cX5_night 156 = .ok (.iload 6, 2) := by decide +kernel
theorem dX5_night_158 : decode cX5_night 158 = .ok (.ifCond .eq 18, 3) := by decide +kernel
theorem dX5_night_161 : decode cX5_night 161 = .ok (.iconst 0, 1) := by decide +kernel
theorem dX5_night_162 : decode cX5_night 162 = .ok (.aload_n 0, 1) := by decide +kernel
theorem dX5_night_163 : decode cX5_night 163 = .ok (.iload_n 2, 1) := by decide +kernel
theorem dX5_night_164 : decode cX5_night 164 = .ok (.iconst 2, 1) := by decide +kernel
theorem dX5_night_165 : decode cX5_night 165 = .ok (.invokevirtual 92, 3) := by decide +kernel
theorem dX5_night_168 : decode cX5_night 168 = .ok (.iconst 1, 1) := by decide +kernel
theorem dX5_night_169 : decode cX5_night 169 = .ok (.isub, 1) := by decide +kernel
theorem dX5_night_170 : decode cX5_night 170 = .ok (.invokestatic 116, 3) := by decide +kernel
theorem dX5_night_173 : decode cX5_night 173 = .ok (.goto 16, 3) := by decide +kernel
theorem dX5_night_176 : decode cX5_night 176 = .ok (.bipush 90, 2) := by decide +kernel
theorem dX5_night_178 : decode cX5_night 178 = .ok (.aload_n 0, 1) := by decide +kernel
theorem dX5_night_179 : decode cX5_night 179 = .ok (.iload_n 2, 1) := by decide +kernel
theorem dX5_night_180 : decode cX5_night 180 = .ok (.iconst 2, 1) := by decide +kernel
theorem dX5_night_181 : decode cX5_night 181 = .ok (.invokevirtual 92, 3) := by decide +kernel
theorem dX5_night_184 : decode cX5_night 184 = .ok (.iconst 1, 1) := by decide +kernel
theorem dX5_night_185 : decode cX5_night 185 = .ok (.iadd, 1) := by decide +kernel
theorem dX5_night_186 : decode cX5_night 186 = .ok (.invokestatic 130, 3) := by decide +kernel
theorem dX5_night_189 : decode cX5_night 189 = .ok (.invokevirtual 98, 3) := by decide +kernel
theorem dX5_night_192 : decode cX5_night 192 = .ok (.iload 6, 2) := by decide +kernel
theorem dX5_night_194 : decode cX5_night 194 = .ok (.ifCond .eq 19, 3) := by decide +kernel
theorem dX5_night_197 : decode cX5_night 197 = .ok (.aload_n 0, 1) := by decide +kernel
theorem dX5_night_198 : decode cX5_night 198 = .ok (.iload_n 1, 1) := by decide +kernel
theorem dX5_night_199 : decode cX5_night 199 = .ok (.iconst 1, 1) := by decide +kernel
theorem dX5_night_200 : decode cX5_night 200 = .ok (.invokevirtual 83, 3) := by decide +kernel
theorem dX5_night_203 : decode cX5_night 203 = .ok (.ifCond .le 10, 3) := by decide +kernel
theorem dX5_night_206 : decode cX5_night 206 = .ok (.aload_n 0, 1) := by decide +kernel
theorem dX5_night_207 : decode cX5_night 207 = .ok (.iload_n 1, 1) := by decide +kernel
theorem dX5_night_208 : decode cX5_night 208 = .ok (.iconst 1, 1) := by decide +kernel
theorem dX5_night_209 : decode cX5_night 209 = .ok (.iconst (-1), 1) := by decide +kernel
theorem dX5_night_210 : decode cX5_night 210 = .ok (.invokevirtual 133, 3) := by decide +kernel
theorem dX5_night_213 : decode cX5_night 213 = .ok (.aload_n 0, 1) := by decide +kernel
theorem dX5_night_214 : decode cX5_night 214 = .ok (.iload_n 1, 1) := by decide +kernel
theorem dX5_night_215 : decode cX5_night 215 = .ok (.iconst 3, 1) := by decide +kernel
theorem dX5_night_216 : decode cX5_night 216 = .ok (.iconst 1, 1) := by decide +kernel
theorem dX5_night_217 : decode cX5_night 217 = .ok (.invokevirtual 133, 3) := by decide +kernel
theorem dX5_night_220 : decode cX5_night 220 = .ok (.aload_n 0, 1) := by decide +kernel
theorem dX5_night_221 : decode cX5_night 221 = .ok (.iload_n 1, 1) := by decide +kernel
theorem dX5_night_222 : decode cX5_night 222 = .ok (.iconst 4, 1) := by decide +kernel
theorem dX5_night_223 : decode cX5_night 223 = .ok (.iload_n 3, 1) := by decide +kernel
theorem dX5_night_224 : decode cX5_night 224 = .ok (.iload 5, 2) := by decide +kernel
theorem dX5_night_226 : decode cX5_night 226 = .ok (.isub, 1) := by decide +kernel
theorem dX5_night_227 : decode cX5_night 227 = .ok (.invokevirtual 133, 3) := by decide +kernel
theorem dX5_night_230 : decode cX5_night 230 = .ok (.aload_n 0, 1) := by decide +kernel
theorem dX5_night_231 : decode cX5_night 231 = .ok (.getfield 22, 3) := by decide +kernel
theorem dX5_night_234 : decode cX5_night 234 = .ok (.iconst 1, 1) := by decide +kernel
theorem dX5_night_235 : decode cX5_night 235 = .ok (.dup2, 1) := by decide +kernel
theorem dX5_night_236 : decode cX5_night 236 = .ok (.iaload, 1) := by decide +kernel
theorem dX5_night_237 : decode cX5_night 237 = .ok (.iload_n 3, 1) := by decide +kernel
theorem dX5_night_238 : decode cX5_night 238 = .ok (.iload 5, 2) := by decide +kernel
theorem dX5_night_240 : decode cX5_night 240 = .ok (.isub, 1) := by decide +kernel
theorem dX5_night_241 : decode cX5_night 241 = .ok (.iadd, 1) := by decide +kernel
theorem dX5_night_242 : decode cX5_night 242 = .ok (.iastore, 1) := by decide +kernel
theorem dX5_night_243 : decode cX5_night 243 = .ok (.aload_n 0, 1) := by decide +kernel
theorem dX5_night_244 : decode cX5_night 244 = .ok (.getfield 22, 3) := by decide +kernel
theorem dX5_night_247 : decode cX5_night 247 = .ok (.iconst 2, 1) := by decide +kernel
theorem dX5_night_248 : decode cX5_night 248 = .ok (.dup2, 1) := by decide +kernel
theorem dX5_night_249 : decode cX5_night 249 = .ok (.iaload, 1) := by decide +kernel
theorem dX5_night_250 : decode cX5_night 250 = .ok (.iload 5, 2) := by decide +kernel
theorem dX5_night_252 : decode cX5_night 252 = .ok (.iadd, 1) := by decide +kernel
theorem dX5_night_253 : decode cX5_night 253 = .ok (.iastore, 1) := by decide +kernel
theorem dX5_night_254 : decode cX5_night 254 = .ok (.iinc 1 1, 3) := by decide +kernel
theorem dX5_night_257 : decode cX5_night 257 = .ok (.goto (-250), 3) := by decide +kernel
theorem dX5_night_260 : decode cX5_night 260 = .ok (.iconst 0, 1) := by decide +kernel
theorem dX5_night_261 : decode cX5_night 261 = .ok (.istore_n 1, 1) := by decide +kernel
theorem dX5_night_262 : decode cX5_night 262 = .ok (.iload_n 1, 1) := by decide +kernel
theorem dX5_night_263 : decode cX5_night 263 = .ok (.aload_n 0, 1) := by decide +kernel
theorem dX5_night_264 : decode cX5_night 264 = .ok (.getfield 42, 3) := by decide +kernel
theorem dX5_night_267 : decode cX5_night 267 = .ok (.if_icmp .ge 14, 3) := by decide +kernel
theorem dX5_night_270 : decode cX5_night 270 = .ok (.aload_n 0, 1) := by decide +kernel
theorem dX5_night_271 : decode cX5_night 271 = .ok (.iload_n 1, 1) := by decide +kernel
theorem dX5_night_272 : decode cX5_night 272 = .ok (.invokevirtual 106, 3) := by decide +kernel
theorem dX5_night_275 : decode cX5_night 275 = .ok (.iinc 1 1, 3) := by decide +kernel
theorem dX5_night_278 : decode cX5_night 278 = .ok (.goto (-16), 3) := by decide +kernel
theorem dX5_night_281 : decode cX5_night 281 = .ok (.aload_n 0, 1) := by decide +kernel
theorem dX5_night_282 : decode cX5_night 282 = .ok (.getfield 22, 3) := by decide +kernel
theorem dX5_night_285 : decode cX5_night 285 = .ok (.iconst 0, 1) := by decide +kernel
theorem dX5_night_286 : decode cX5_night 286 = .ok (.dup2, 1) := by decide +kernel
theorem dX5_night_287 : decode cX5_night 287 = .ok (.iaload, 1) := by decide +kernel
theorem dX5_night_288 : decode cX5_night 288 = .ok (.iconst 1, 1) := by decide +kernel
theorem dX5_night_289 : decode cX5_night 289 = .ok (.iadd, 1) := by decide +kernel
theorem dX5_night_290 : decode cX5_night 290 = .ok (.iastore, 1) := by decide +kernel
theorem dX5_night_291 : decode cX5_night 291 = .ok (.aload_n 0, 1) := by decide +kernel
theorem dX5_night_292 : decode cX5_night 292 = .ok (.getfield 22, 3) := by decide +kernel
theorem dX5_night_295 : decode cX5_night 295 = .ok (.iconst 1, 1) := by decide +kernel
theorem dX5_night_296 : decode cX5_night 296 = .ok (.iaload, 1) := by decide +kernel
theorem dX5_night_297 : decode cX5_night 297 = .ok (.ireturn, 1) := by decide +kernel
set_option maxRecDepth 20000 in
theorem ggX5_counted_X5_pe : GoodIn wsX5_counted wsX5_pe := goodIn_r _ [10, 11, 29, 30, 31, 32, 33, 34, 35, 36, 37, 38, 39] (by decide +kernel) (by decide +kernel)
set_option maxRecDepth 20000 in
theorem gX5_counted_X5_pe : GoodIn wsX5_counted (wsV RX5 92 RX5 yX5_pe wsX5_pe) := goodIn_app (goodIn_of _ (by decide +kernel)) ggX5_counted_X5_pe
set_option maxRecDepth 20000 in
theorem ggX5_counted_X5_winner : GoodIn wsX5_counted wsX5_winner := goodIn_r _ [15, 5, 16, 17, 18, 9, 19, 6, 7, 8, 10, 11, 20, 21, 22, 23, 24, 25, 26, 27, 28, 29, 30, 31, 32, 33, 34, 35, 36, 37, 38, 39] (by decide +kernel) (by decide +kernel)
set_option maxRecDepth 20000 in
theorem gX5_counted_X5_winner : GoodIn wsX5_counted (wsV RX5 113 RX5 yX5_winner wsX5_winner) := goodIn_app (goodIn_of _ (by decide +kernel)) ggX5_counted_X5_winner
theorem dX5_counted_0 : decode cX5_counted 0 = .ok (.iconst 0, 1) := by decide +kernel
theorem dX5_counted_1 : decode cX5_counted 1 = .ok (.istore_n 2, 1) := by decide +kernel
theorem dX5_counted_2 : decode cX5_counted 2 = .ok (.iload_n 1, 1) := by decide +kernel
theorem dX5_counted_3 : decode cX5_counted 3 = .ok (.tableswitch 122 0 7 #[45, 52, 57, 62, 67, 72, 79, 115], 45) := by decide +kernel
theorem dX5_counted_48 : decode cX5_counted 48 = .ok (.aload_n 0, 1) := by decide +kernel
theorem dX5_counted_49 : decode cX5_counted 49 = .ok (.getfield 22, 3) := by decide +kernel
theorem dX5_counted_52 : decode cX5_counted 52 = .ok (.iconst 0, 1) := by decide +kernel
theorem dX5_counted_53 : decode cX5_counted 53 = .ok (.iaload, 1) := by decide +kernel
theorem dX5_counted_54 : decode cX5_counted 54 = .ok (.ireturn, 1) := by decide +kernel
theorem dX5_counted_55 : decode cX5_counted 55 = .ok (.aload_n 0, 1) := by decide +kernel
theorem dX5_counted_56 : decode cX5_counted 56 = .ok (.getfield 32, 3) := by decide +kernel
theorem dX5_counted_59 : decode cX5_counted 59 = .ok (.ireturn, 1) := by decide +kernel
theorem dX5_counted_60 : decode cX5_counted 60 = .ok (.aload_n 0, 1) := by decide +kernel
theorem dX5_counted_61 : decode cX5_counted 61 = .ok (.getfield 59, 3) := by decide +kernel
theorem dX5_counted_64 : decode cX5_counted 64 = .ok (.ireturn, 1) := by decide +kernel
theorem dX5_counted_65 : decode cX5_counted 65 = .ok (.aload_n 0, 1) := by decide +kernel
theorem dX5_counted_66 : decode cX5_counted 66 = .ok (.getfield 39, 3) := by decide +kernel
theorem dX5_counted_69 : decode cX5_counted 69 = .ok (.ireturn, 1) := by decide +kernel
theorem dX5_counted_70 : decode cX5_counted 70 = .ok (.aload_n 0, 1) := by decide +kernel
theorem dX5_counted_71 : decode cX5_counted 71 = .ok (.getfield 42, 3) := by decide +kernel
theorem dX5_counted_74 : decode cX5_counted 74 = .ok (.ireturn, 1) := by decide +kernel
theorem dX5_counted_75 : decode cX5_counted 75 = .ok (.aload_n 0, 1) := by decide +kernel
theorem dX5_counted_76 : decode cX5_counted 76 = .ok (.getfield 22, 3) := by decide +kernel
theorem dX5_counted_79 : decode cX5_counted 79 = .ok (.iconst 1, 1) := by decide +kernel
theorem dX5_counted_80 : decode cX5_counted 80 = .ok (.iaload, 1) := by decide +kernel
theorem dX5_counted_81 : decode cX5_counted 81 = .ok (.ireturn, 1) := by decide +kernel
theorem dX5_counted_82 : decode cX5_counted 82 = .ok (.iconst 0, 1) := by decide +kernel
theorem dX5_counted_83 : decode cX5_counted 83 = .ok (.istore_n 3, 1) := by decide +kernel
theorem dX5_counted_84 : decode cX5_counted 84 = .ok (.iload_n 3, 1) := by decide +kernel
theorem dX5_counted_85 : decode cX5_counted 85 = .ok (.aload_n 0, 1) := by decide +kernel
theorem dX5_counted_86 : decode cX5_counted 86 = .ok (.getfield 42, 3) := by decide +kernel
theorem dX5_counted_89 : decode cX5_counted 89 = .ok (.if_icmp .ge 27, 3) := by decide +kernel
theorem dX5_counted_92 : decode cX5_counted 92 = .ok (.iload_n 2, 1) := by decide +kernel
theorem dX5_counted_93 : decode cX5_counted 93 = .ok (.aload_n 0, 1) := by decide +kernel
theorem dX5_counted_94 : decode cX5_counted 94 = .ok (.iload_n 3, 1) := by decide +kernel
theorem dX5_counted_95 : decode cX5_counted 95 = .ok (.iconst 3, 1) := by decide +kernel
theorem dX5_counted_96 : decode cX5_counted 96 = .ok (.invokevirtual 92, 3) := by decide +kernel
theorem dX5_counted_99 : decode cX5_counted 99 = .ok (.iconst (-1), 1) := by decide +kernel
theorem dX5_counted_100 : decode cX5_counted 100 = .ok (.if_icmp .ne 7, 3) := by decide +kernel
theorem dX5_counted_103 : decode cX5_counted 103 = .ok (.iconst 0, 1) := by decide +kernel
theorem dX5_counted_104 : decode cX5_counted 104 = .ok (.goto 4, 3) := by decide +kernel
theorem dX5_counted_107 : decode cX5_counted 107 = .ok (.iconst 1, 1) := by decide +kernel
theorem dX5_counted_108 : decode cX5_counted 108 = .ok (.iadd, 1) := by decide +kernel
theorem dX5_counted_109 : decode cX5_counted 109 = .ok (.istore_n 2, 1) := by decide +kernel
theorem dX5_counted_110 : decode cX5_counted 110 = .ok (.iinc 3 1, 3) := by decide +kernel
theorem dX5_counted_113 : decode cX5_counted 113 = .ok (.goto (-29), 3) := by decide +kernel
theorem dX5_counted_116 : decode cX5_counted 116 = .ok (.iload_n 2, 1) := by decide +kernel
theorem dX5_counted_117 : decode cX5_counted 117 = .ok (.ireturn, 1) := by decide +kernel
theorem dX5_counted_118 : decode cX5_counted 118 = .ok (.aload_n 0, 1) := by decide +kernel
theorem dX5_counted_119 : decode cX5_counted 119 = .ok (.getfield 22, 3) := by decide +kernel
theorem dX5_counted_122 : decode cX5_counted 122 = .ok (.iconst 2, 1) := by decide +kernel
theorem dX5_counted_123 : decode cX5_counted 123 = .ok (.iaload, 1) := by decide +kernel
theorem dX5_counted_124 : decode cX5_counted 124 = .ok (.ireturn, 1) := by decide +kernel
theorem dX5_counted_125 : decode cX5_counted 125 = .ok (.iconst 0, 1) := by decide +kernel
theorem dX5_counted_126 : decode cX5_counted 126 = .ok (.istore_n 3, 1) := by decide +kernel
theorem dX5_counted_127 : decode cX5_counted 127 = .ok (.iload_n 3, 1) := by decide +kernel
theorem dX5_counted_128 : decode cX5_counted 128 = .ok (.aload_n 0, 1) := by decide +kernel
theorem dX5_counted_129 : decode cX5_counted 129 = .ok (.getfield 32, 3) := by decide +kernel
theorem dX5_counted_132 : decode cX5_counted 132 = .ok (.if_icmp .ge 26, 3) := by decide +kernel
theorem dX5_counted_135 : decode cX5_counted 135 = .ok (.iload_n 2, 1) := by decide +kernel
theorem dX5_counted_136 : decode cX5_counted 136 = .ok (.aload_n 0, 1) := by decide +kernel
theorem dX5_counted_137 : decode cX5_counted 137 = .ok (.iload_n 3, 1) := by decide +kernel
theorem dX5_counted_138 : decode cX5_counted 138 = .ok (.invokevirtual 113, 3) := by decide +kernel
theorem dX5_counted_141 : decode cX5_counted 141 = .ok (.iconst (-1), 1) := by decide +kernel
theorem dX5_counted_142 : decode cX5_counted 142 = .ok (.if_icmp .ne 7, 3) := by decide +kernel
theorem dX5_counted_145 : decode cX5_counted 145 = .ok (.iconst 0, 1) := by decide +kernel
theorem dX5_counted_146 : decode cX5_counted 146 = .ok (.goto 4, 3) := by decide +kernel
theorem dX5_counted_149 : decode cX5_counted 149 = .ok (.iconst 1, 1) := by decide +kernel
theorem dX5_counted_150 : decode cX5_counted 150 = .ok (.iadd, 1) := by decide +kernel
theorem dX5_counted_151 : decode cX5_counted 151 = .ok (.istore_n 2, 1) := by decide +kernel
theorem dX5_counted_152 : decode cX5_counted 152 = .ok (.iinc 3 1, 3) := by decide +kernel
theorem dX5_counted_155 : decode cX5_counted 155 = .ok (.goto (-28), 3) := by decide +kernel
theorem dX5_counted_158 : decode cX5_counted 158 = .ok (.iload_n 2, 1) := by decide +kernel
theorem dX5_counted_159 : decode cX5_counted 159 = .ok (.ireturn, 1) := by decide +kernel
set_option maxRecDepth 20000 in
theorem ggX5_count_X5_isIn : GoodIn wsX5_count wsX5_isIn := goodIn_r _ [5] (by decide +kernel) (by decide +kernel)
set_option maxRecDepth 20000 in
theorem gX5_count_X5_isIn : GoodIn wsX5_count (va_wsS RX5 35 yX5_isIn wsX5_isIn) := goodIn_app (goodIn_of _ (by decide +kernel)) ggX5_count_X5_isIn
set_option maxRecDepth 20000 in
theorem ggX5_count_X5_counted : GoodIn wsX5_count wsX5_counted := goodIn_r _ [9, 10, 11, 12, 13, 14, 15, 16, 17, 4, 18, 19, 20, 21, 22, 23, 24, 25, 26, 27, 28, 29, 30, 31, 32, 33, 34, 35, 36, 41, 42, 43, 44, 45, 46, 47, 48, 49, 50, 51] (by decide +kernel) (by decide +kernel)
set_option maxRecDepth 20000 in
theorem gX5_count_X5_counted : GoodIn wsX5_count (wsV RX5 136 RX5 yX5_counted wsX5_counted) := goodIn_app (goodIn_of _ (by decide +kernel)) ggX5_count_X5_counted
set_option maxRecDepth 20000 in
theorem ggX5_count_X5_fail : GoodIn wsX5_count wsX5_fail := goodIn_r _ [40, 1, 41, 42, 43, 44, 45, 46, 47, 48, 49, 50, 51] (by decide +kernel) (by decide +kernel)
set_option maxRecDepth 20000 in
theorem gX5_count_X5_fail : GoodIn wsX5_count (wsV RX5 45 RX5 yX5_fail wsX5_fail) := goodIn_app (goodIn_of _ (by decide +kernel)) ggX5_count_X5_fail
theorem dX5_count_0 : decode cX5_count 0 = .ok (.aload_n 0, 1) := by decide +kernel
theorem dX5_count_1 : decode cX5_count 1 = .ok (.iconst 0, 1) := by decide +kernel
theorem dX5_count_2 : decode cX5_count 2 = .ok (.putfield 28, 3) := by decide +kernel
theorem dX5_count_5 : decode cX5_count 5 = .ok (.iload_n 1, 1) := by decide +kernel
theorem dX5_count_6 : decode cX5_count 6 = .ok (.iconst 0, 1) := by decide +kernel
theorem dX5_count_7 : decode cX5_count 7 = .ok (.bipush 8, 2) := by decide +kernel
theorem dX5_count_9 : decode cX5_count 9 = .ok (.invokestatic 35, 3) := by decide +kernel
theorem dX5_count_12 : decode cX5_count 12 = .ok (.ifCond .eq 11, 3) := by decide +kernel
theorem dX5_count_15 : decode cX5_count 15 = .ok (.aload_n 0, 1) := by decide +kernel
theorem dX5_count_16 : decode cX5_count 16 = .ok (.iload_n 1, 1) := by decide +kernel
theorem dX5_count_17 : decode cX5_count 17 = .ok (.invokevirtual 136, 3) := by decide +kernel
theorem dX5_count_20 : decode cX5_count 20 = .ok (.goto 8, 3) := by decide +kernel
theorem dX5_count_23 : decode cX5_count 23 = .ok (.aload_n 0, 1) := by decide +kernel
theorem dX5_count_24 : decode cX5_count 24 = .ok (.iconst 1, 1) := by decide +kernel
theorem dX5_count_25 : decode cX5_count 25 = .ok (.invokevirtual 45, 3) := by decide +kernel
theorem dX5_count_28 : decode cX5_count 28 = .ok (.ireturn, 1) := by decide +kernel
set_option maxRecDepth 20000 in
theorem ggX5_best_X5_isGuest : GoodIn wsX5_best wsX5_isGuest := goodIn_r _ [7, 8, 9, 10, 6, 11, 53, 54, 55, 56, 57, 58, 59, 60, 61, 62, 63] (by decide +kernel) (by decide +kernel)
set_option maxRecDepth 20000 in
theorem gX5_best_X5_isGuest : GoodIn wsX5_best (wsV RX5 95 RX5 yX5_isGuest wsX5_isGuest) := goodIn_app (goodIn_of _ (by decide +kernel)) ggX5_best_X5_isGuest
set_option maxRecDepth 20000 in
theorem ggX5_best_X5_fail : GoodIn wsX5_best wsX5_fail := goodIn_r _ [15, 1, 53, 54, 55, 56, 57, 58, 59, 60, 61, 62, 63] (by decide +kernel) (by decide +kernel)
set_option maxRecDepth 20000 in
theorem gX5_best_X5_fail : GoodIn wsX5_best (wsV RX5 45 RX5 yX5_fail wsX5_fail) := goodIn_app (goodIn_of _ (by decide +kernel)) ggX5_best_X5_fail
set_option maxRecDepth 20000 in
theorem ggX5_best_X5_ro : GoodIn wsX5_best wsX5_ro := goodIn_r _ [19, 20, 53, 54, 55, 56, 57, 58, 59, 60, 61, 62, 63] (by decide +kernel) (by decide +kernel)
set_option maxRecDepth 20000 in
theorem gX5_best_X5_ro : GoodIn wsX5_best (wsV RX5 83 RX5 yX5_ro wsX5_ro) := goodIn_app (goodIn_of _ (by decide +kernel)) ggX5_best_X5_ro
set_option maxRecDepth 20000 in
theorem ggX5_best_X5_pe : GoodIn wsX5_best wsX5_pe := goodIn_r _ [24, 25, 53, 54, 55, 56, 57, 58, 59, 60, 61, 62, 63] (by decide +kernel) (by decide +kernel)
set_option maxRecDepth 20000 in
theorem gX5_best_X5_pe : GoodIn wsX5_best (wsV RX5 92 RX5 yX5_pe wsX5_pe) := goodIn_app (goodIn_of _ (by decide +kernel)) ggX5_best_X5_pe
set_option maxRecDepth 20000 in
theorem ggX5_best_X5_haunted : GoodIn wsX5_best wsX5_haunted := goodIn_r _ [29, 30, 31, 32, 33, 6, 34, 35, 36, 37, 38, 39, 40, 41, 42, 43, 44, 45, 46, 47, 48, 49, 53, 54, 55, 56, 57, 58, 59, 60, 61, 62, 63] (by decide +kernel) (by decide +kernel)
set_option maxRecDepth 20000 in
theorem gX5_best_X5_haunted : GoodIn wsX5_best (wsV RX5 80 RX5 yX5_haunted wsX5_haunted) := goodIn_app (goodIn_of _ (by decide +kernel)) ggX5_best_X5_haunted
set_option maxRecDepth 20000 in
theorem ggX5_best_X5_isBad : GoodIn wsX5_best wsX5_isBad := goodIn_r _ [52] (by decide +kernel) (by decide +kernel)
set_option maxRecDepth 20000 in
theorem gX5_best_X5_isBad : GoodIn wsX5_best (va_wsS RX5 127 yX5_isBad wsX5_isBad) := goodIn_app (goodIn_of _ (by decide +kernel)) ggX5_best_X5_isBad
theorem dX5_best_0 : decode cX5_best 0 = .ok (.aload_n 0, 1) := by decide +kernel
theorem dX5_best_1 : decode cX5_best 1 = .ok (.iconst 0, 1) := by decide +kernel
theorem dX5_best_2 : decode cX5_best 2 = .ok (.putfield 28, 3) := by decide +kernel
theorem dX5_best_5 : decode cX5_best 5 = .ok (.aload_n 0, 1) := by decide +kernel
theorem dX5_best_6 : decode cX5_best 6 = .ok (.iload_n 1, 1) := by decide +kernel
theorem dX5_best_7 : decode cX5_best 7 = .ok (.invokevirtual 95, 3) := by decide +kernel
theorem dX5_best_10 : decode cX5_best 10 = .ok (.ifCond .ne 9, 3) := by decide +kernel
theorem dX5_best_13 : decode cX5_best 13 = .ok (.aload_n 0, 1) := by decide +kernel
theorem dX5_best_14 : decode cX5_best 14 = .ok (.iconst 1, 1) := by decide +kernel
theorem dX5_best_15 : decode cX5_best 15 = .ok (.invokevirtual 45, 3) := by decide +kernel
theorem dX5_best_18 : decode cX5_best 18 = .ok (.ireturn, 1) := by decide +kernel
theorem dX5_best_19 : decode cX5_best 19 = .ok (.iconst (-1), 1) := by decide +kernel
theorem dX5_best_20 : decode cX5_best 20 = .ok (.istore_n 2, 1) := by decide +kernel
theorem dX5_best_21 : decode cX5_best 21 = .ok (.iconst 0, 1) := by decide +kernel
theorem dX5_best_22 : decode cX5_best 22 = .ok (.istore_n 3, 1) := by decide +kernel
theorem dX5_best_23 : decode cX5_best 23 = .ok (.iload_n 3, 1) := by decide +kernel
theorem dX5_best_24 : decode cX5_best 24 = .ok (.aload_n 0, 1) := by decide +kernel
theorem dX5_best_25 : decode cX5_best 25 = .ok (.getfield 32, 3) := by decide +kernel
theorem dX5_best_28 : decode cX5_best 28 = .ok (.if_icmp .ge 82, 3) := by decide +kernel
theorem dX5_best_31 : decode cX5_best 31 = .ok (.aload_n 0, 1) := by decide +kernel
theorem dX5_best_32 : decode cX5_best 32 = .ok (.iload_n 3, 1) := by decide +kernel
theorem dX5_best_33 : decode cX5_best 33 = .ok (.iconst 0, 1) := by decide +kernel
theorem dX5_best_34 : decode cX5_best 34 = .ok (.invokevirtual 83, 3) := by decide +kernel
theorem dX5_best_37 : decode cX5_best 37 = .ok (.aload_n 0, 1) := by decide +kernel
theorem dX5_best_38 : decode cX5_best 38 = .ok (.iload_n 1, 1) := by decide +kernel
theorem dX5_best_39 : decode cX5_best 39 = .ok (.iconst 1, 1) := by decide +kernel
theorem dX5_best_40 : decode cX5_best 40 = .ok (.invokevirtual 92, 3) := by decide +kernel
theorem dX5_best_43 : decode cX5_best 43 = .ok (.if_icmp .lt 61, 3) := by decide +kernel
theorem dX5_best_46 : decode cX5_best 46 = .ok (.aload_n 0, 1) := by decide +kernel
theorem dX5_best_47 : decode cX5_best 47 = .ok (.iload_n 3, 1) := by decide +kernel
theorem dX5_best_48 : decode cX5_best 48 = .ok (.iconst 2, 1) := by decide +kernel
theorem dX5_best_49 : decode cX5_best 49 = .ok (.invokevirtual 83, 3) := by decide +kernel
theorem dX5_best_52 : decode cX5_best 52 = .ok (.aload_n 0, 1) := by decide +kernel
theorem dX5_best_53 : decode cX5_best 53 = .ok (.iload_n 1, 1) := by decide +kernel
theorem dX5_best_54 : decode cX5_best 54 = .ok (.iconst 0, 1) := by decide +kernel
theorem dX5_best_55 : decode cX5_best 55 = .ok (.invokevirtual 92, 3) := by decide +kernel
theorem dX5_best_58 : decode cX5_best 58 = .ok (.if_icmp .gt 46, 3) := by decide +kernel
theorem dX5_best_61 : decode cX5_best 61 = .ok (.aload_n 0, 1) := by decide +kernel
theorem dX5_best_62 : decode cX5_best 62 = .ok (.iload_n 1, 1) := by decide +kernel
theorem dX5_best_63 : decode cX5_best 63 = .ok (.iconst 2, 1) := by decide +kernel
theorem dX5_best_64 : decode cX5_best 64 = .ok (.invokevirtual 92, 3) := by decide +kernel
theorem dX5_best_67 : decode cX5_best 67 = .ok (.aload_n 0, 1) := by decide +kernel
theorem dX5_best_68 : decode cX5_best 68 = .ok (.iload_n 3, 1) := by decide +kernel
theorem dX5_best_69 : decode cX5_best 69 = .ok (.iconst (-1), 1) := by decide +kernel
theorem dX5_best_70 : decode cX5_best 70 = .ok (.invokevirtual 80, 3) := by decide +kernel
theorem dX5_best_73 : decode cX5_best 73 = .ok (.invokestatic 127, 3) := by decide +kernel
theorem dX5_best_76 : decode cX5_best 76 = .ok (.ifCond .eq 6, 3) := by decide +kernel
theorem dX5_best_79 : decode cX5_best 79 = .ok (.goto 25, 3) := by decide +kernel
theorem dX5_best_82 : decode cX5_best 82 = .ok (.iload_n 2, 1) := by decide +kernel
theorem dX5_best_83 : decode cX5_best 83 = .ok (.iconst (-1), 1) := by decide +kernel
theorem dX5_best_84 : decode cX5_best 84 = .ok (.if_icmp .eq 18, 3) := by decide +kernel
theorem dX5_best_87 : decode cX5_best 87 = .ok (.aload_n 0, 1) := by decide +kernel
theorem dX5_best_88 : decode cX5_best 88 = .ok (.iload_n 3, 1) := by decide +kernel
theorem dX5_best_89 : decode cX5_best 89 = .ok (.iconst 1, 1) := by decide +kernel
theorem dX5_best_90 : decode cX5_best 90 = .ok (.invokevirtual 83, 3) := by decide +kernel
theorem dX5_best_93 : decode cX5_best 93 = .ok (.aload_n 0, 1) := by decide +kernel
theorem dX5_best_94 : decode cX5_best 94 = .ok (.iload_n 2, 1) := by decide +kernel
theorem dX5_best_95 : decode cX5_best 95 = .ok (.iconst 1, 1) := by decide +kernel
theorem dX5_best_96 : decode cX5_best 96 = .ok (.invokevirtual 83, 3) := by decide +kernel
theorem dX5_best_99 : decode cX5_best 99 = .ok (.if_icmp .le 5, 3) := by decide +kernel
theorem dX5_best_102 : decode cX5_best 102 = .ok (.iload_n 3, 1) := by decide +kernel
theorem dX5_best_103 : decode cX5_best 103 = .ok (.istore_n 2, 1) := by decide +kernel
theorem dX5_best_104 : decode cX5_best 104 = .ok (.iinc 3 1, 3) := by decide +kernel
theorem dX5_best_107 : decode cX5_best 107 = .ok (.goto (-84), 3) := by decide +kernel
theorem dX5_best_110 : decode cX5_best 110 = .ok (.iload_n 2, 1) := by decide +kernel
theorem dX5_best_111 : decode cX5_best 111 = .ok (.ireturn, 1) := by decide +kernel
set_option maxRecDepth 20000 in
theorem ggX5_most_X5_pe : GoodIn wsX5_most wsX5_pe := goodIn_r _ [13, 14, 24, 25, 26, 27, 28, 29, 30, 31, 32, 33, 34] (by decide +kernel) (by decide +kernel)
set_option maxRecDepth 20000 in
theorem gX5_most_X5_pe : GoodIn wsX5_most (wsV RX5 92 RX5 yX5_pe wsX5_pe) := goodIn_app (goodIn_of _ (by decide +kernel)) ggX5_most_X5_pe
set_option maxRecDepth 20000 in
theorem ggX5_most_X5_suits : GoodIn wsX5_most wsX5_suits := goodIn_r _ [18, 9, 10, 11, 12, 13, 14, 19, 20, 21, 22, 23, 24, 25, 26, 27, 28, 29, 30, 31, 32, 33, 34] (by decide +kernel) (by decide +kernel)
set_option maxRecDepth 20000 in
theorem gX5_most_X5_suits : GoodIn wsX5_most (wsV RX5 102 RX5 yX5_suits wsX5_suits) := goodIn_app (goodIn_of _ (by decide +kernel)) ggX5_most_X5_suits
theorem dX5_most_0 : decode cX5_most 0 = .ok (.aload_n 0, 1) := by decide +kernel
theorem dX5_most_1 : decode cX5_most 1 = .ok (.iconst 0, 1) := by decide +kernel
theorem dX5_most_2 : decode cX5_most 2 = .ok (.putfield 28, 3) := by decide +kernel
theorem dX5_most_5 : decode cX5_most 5 = .ok (.iconst 0, 1) := by decide +kernel
theorem dX5_most_6 : decode cX5_most 6 = .ok (.istore_n 1, 1) := by decide +kernel
theorem dX5_most_7 : decode cX5_most 7 = .ok (.iconst 0, 1) := by decide +kernel
theorem dX5_most_8 : decode cX5_most 8 = .ok (.istore_n 2, 1) := by decide +kernel
theorem dX5_most_9 : decode cX5_most 9 = .ok (.iload_n 2, 1) := by decide +kernel
theorem dX5_most_10 : decode cX5_most 10 = .ok (.iconst 1, 1) := by decide +kernel
theorem dX5_most_11 : decode cX5_most 11 = .ok (.aload_n 0, 1) := by decide +kernel
theorem dX5_most_12 : decode cX5_most 12 = .ok (.getfield 32, 3) := by decide +kernel
theorem dX5_most_15 : decode cX5_most 15 = .ok (.ishl, 1) := by decide +kernel
theorem dX5_most_16 : decode cX5_most 16 = .ok (.if_icmp .ge 24, 3) := by decide +kernel
theorem dX5_most_19 : decode cX5_most 19 = .ok (.aload_n 0, 1) := by decide +kernel
theorem dX5_most_20 : decode cX5_most 20 = .ok (.getfield 25, 3) := by decide +kernel
theorem dX5_most_23 : decode cX5_most 23 = .ok (.iload_n 2, 1) := by decide +kernel
theorem dX5_most_24 : decode cX5_most 24 = .ok (.iload_n 2, 1) := by decide +kernel
theorem dX5_most_25 : decode cX5_most 25 = .ok (.ifCond .ne 7, 3) := by decide +kernel
theorem dX5_most_28 : decode cX5_most 28 = .ok (.iconst 0, 1) := by decide +kernel
theorem dX5_most_29 : decode cX5_most 29 = .ok (.goto 4, 3) := by decide +kernel
theorem dX5_most_32 : decode cX5_most 32 = .ok (.iconst (-1), 1) := by decide +kernel
theorem dX5_most_33 : decode cX5_most 33 = .ok (.iastore, 1) := by decide +kernel
theorem dX5_most_34 : decode cX5_most 34 = .ok (.iinc 2 1, 3) := by decide +kernel
theorem dX5_most_37 : decode cX5_most 37 = .ok (.goto (-28), 3) := by decide +kernel
theorem dX5_most_40 : decode cX5_most 40 = .ok (.iconst 0, 1) := by decide +kernel
theorem dX5_most_41 : decode cX5_most 41 = .ok (.istore_n 2, 1) := by decide +kernel
theorem dX5_most_42 : decode cX5_most 42 = .ok (.iload_n 2, 1) := by decide +kernel
theorem dX5_most_43 : decode cX5_most 43 = .ok (.aload_n 0, 1) := by decide +kernel
theorem dX5_most_44 : decode cX5_most 44 = .ok (.getfield 42, 3) := by decide +kernel
theorem dX5_most_47 : decode cX5_most 47 = .ok (.if_icmp .ge 134, 3) := by decide +kernel
theorem dX5_most_50 : decode cX5_most 50 = .ok (.aload_n 0, 1) := by decide +kernel
theorem dX5_most_51 : decode cX5_most 51 = .ok (.iload_n 2, 1) := by decide +kernel
theorem dX5_most_52 : decode cX5_most 52 = .ok (.iconst 3, 1) := by decide +kernel
theorem dX5_most_53 : decode cX5_most 53 = .ok (.invokevirtual 92, 3) := by decide +kernel
theorem dX5_most_56 : decode cX5_most 56 = .ok (.iconst (-1), 1) := by decide +kernel
theorem dX5_most_57 : decode cX5_most 57 = .ok (.if_icmp .ne 6, 3) := by decide +kernel
theorem dX5_most_60 : decode cX5_most 60 = .ok (.goto 115, 3) := by decide +kernel
theorem dX5_most_63 : decode cX5_most 63 = .ok (.iconst 1, 1) := by decide +kernel
theorem dX5_most_64 : decode cX5_most 64 = .ok (.aload_n 0, 1) := by decide +kernel
theorem dX5_most_65 : decode cX5_most 65 = .ok (.getfield 32, 3) := by decide +kernel
theorem dX5_most_68 : decode cX5_most 68 = .ok (.ishl, 1) := by decide +kernel
theorem dX5_most_69 : decode cX5_most 69 = .ok (.iconst 1, 1) := by decide +kernel
theorem dX5_most_70 : decode cX5_most 70 = .ok (.isub, 1) := by decide +kernel
theorem dX5_most_71 : decode cX5_most 71 = .ok (.istore_n 3, 1) := by decide +kernel
theorem dX5_most_72 : decode cX5_most 72 = .ok (.iload_n 3, 1) := by decide +kernel
theorem dX5_most_73 : decode cX5_most 73 = .ok (.ifCond .le 102, 3) := by decide +kernel
theorem dX5_most_76 : decode cX5_most 76 = .ok (.iconst 0, 1) := by decide +kernel
theorem dX5_most_77 : decode cX5_most 77 = .ok (.istore 4, 2) := by decide +kernel
theorem dX5_most_79 : decode cX5_most 79 = .ok (.iload 4, 2) := by decide +kernel
theorem dX5_most_81 : decode cX5_most 81 = .ok (.aload_n 0, 1) := by decide +kernel
theorem dX5_most_82 : decode cX5_most 82 = .ok (.getfield 32, 3) := by decide +kernel
theorem dX5_most_85 : decode cX5_most 85 = .ok (.if_icmp .ge 73, 3) := by decide +kernel
theorem dX5_most_88 : decode cX5_most 88 = .ok (.iload_n 3, 1) := by decide +kernel
theorem dX5_most_89 : decode cX5_most 89 = .ok (.iconst 1, 1) := by decide +kernel
theorem dX5_most_90 : decode cX5_most 90 = .ok (.iload 4, 2) := by decide +kernel
theorem dX5_most_92 : decode cX5_most 92 = .ok (.ishl, 1) := by decide +kernel
theorem dX5_most_93 : decode cX5_most 93 = .ok (.ixor, 1) := by decide +kernel
theorem dX5_most_94 : decode cX5_most 94 = .ok (.istore 5, 2) := by decide +kernel
theorem dX5_most_96 : decode cX5_most 96 = .ok (.iload 5, 2) := by decide +kernel
theorem dX5_most_98 : decode cX5_most 98 = .ok (.iload_n 3, 1) := by decide +kernel
theorem dX5_most_99 : decode cX5_most 99 = .ok (.if_icmp .ge 53, 3) := by decide +kernel
theorem dX5_most_102 : decode cX5_most 102 = .ok (.aload_n 0, 1) := by decide +kernel
theorem dX5_most_103 : decode cX5_most 103 = .ok (.getfield 25, 3) := by decide +kernel
theorem dX5_most_106 : decode cX5_most 106 = .ok (.iload 5, 2) := by decide +kernel
theorem dX5_most_108 : decode cX5_most 108 = .ok (.iaload, 1) := by decide +kernel
theorem dX5_most_109 : decode cX5_most 109 = .ok (.iconst (-1), 1) := by decide +kernel
theorem dX5_most_110 : decode cX5_most 110 = .ok (.if_icmp .eq 42, 3) := by decide +kernel
theorem dX5_most_113 : decode cX5_most 113 = .ok (.aload_n 0, 1) := by decide +kernel
theorem dX5_most_114 : decode cX5_most 114 = .ok (.iload_n 2, 1) := by decide +kernel
theorem dX5_most_115 : decode cX5_most 115 = .ok (.iload 4, 2) := by decide +kernel
theorem dX5_most_117 : decode cX5_most 117 = .ok (.invokevirtual 102, 3) := by decide +kernel
theorem dX5_most_120 : decode cX5_most 120 = .ok (.ifCond .eq 32, 3) := by decide +kernel
theorem dX5_most_123 : decode cX5_most 123 = .ok (.aload_n 0, 1) := by decide +kernel
theorem dX5_most_124 : decode cX5_most 124 = .ok (.getfield 25, 3) := by decide +kernel
theorem dX5_most_127 : decode cX5_most 127 = .ok (.iload_n 3, 1) := by decide +kernel
theorem dX5_most_128 : decode cX5_most 128 = .ok (.aload_n 0, 1) := by decide +kernel
theorem dX5_most_129 : decode cX5_most 129 = .ok (.getfield 25, 3) := by decide +kernel
theorem dX5_most_132 : decode cX5_most 132 = .ok (.iload_n 3, 1) := by decide +kernel
theorem dX5_most_133 : decode cX5_most 133 = .ok (.iaload, 1) := by decide +kernel
theorem dX5_most_134 : decode cX5_most 134 = .ok (.aload_n 0, 1) := by decide +kernel
theorem dX5_most_135 : decode cX5_most 135 = .ok (.getfield 25, 3) := by decide +kernel
theorem dX5_most_138 : decode cX5_most 138 = .ok (.iload 5, 2) := by decide +kernel
theorem dX5_most_140 : decode cX5_most 140 = .ok (.iaload, 1) := by decide +kernel
theorem dX5_most_141 : decode cX5_most 141 = .ok (.aload_n 0, 1) := by decide +kernel
theorem dX5_most_142 : decode cX5_most 142 = .ok (.iload_n 2, 1) := by decide +kernel
theorem dX5_most_143 : decode cX5_most 143 = .ok (.iconst 4, 1) := by decide +kernel
theorem dX5_most_144 : decode cX5_most 144 = .ok (.invokevirtual 92, 3) := by decide +kernel
theorem dX5_most_147 : decode cX5_most 147 = .ok (.iadd, 1) := by decide +kernel
theorem dX5_most_148 : decode cX5_most 148 = .ok (.invokestatic 116, 3) := by decide +kernel
theorem dX5_most_151 : decode cX5_most 151 = .ok (.iastore, 1) := by decide +kernel
theorem dX5_most_152 : decode cX5_most 152 = .ok (.iinc 4 1, 3) := by decide +kernel
theorem dX5_most_155 : decode cX5_most 155 = .ok (.goto (-76), 3) := by decide +kernel
theorem dX5_most_158 : decode cX5_most 158 = .ok (.iload_n 1, 1) := by decide +kernel
theorem dX5_most_159 : decode cX5_most 159 = .ok (.aload_n 0, 1) := by decide +kernel
theorem dX5_most_160 : decode cX5_most 160 = .ok (.getfield 25, 3) := by decide +kernel
theorem dX5_most_163 : decode cX5_most 163 = .ok (.iload_n 3, 1) := by decide +kernel
theorem dX5_most_164 : decode cX5_most 164 = .ok (.iaload, 1) := by decide +kernel
theorem dX5_most_165 : decode cX5_most 165 = .ok (.invokestatic 116, 3) := by decide +kernel
theorem dX5_most_168 : decode cX5_most 168 = .ok (.istore_n 1, 1) := by decide +kernel
theorem dX5_most_169 : decode cX5_most 169 = .ok (.iinc 3 (-1), 3) := by decide +kernel
theorem dX5_most_172 : decode cX5_most 172 = .ok (.goto (-100), 3) := by decide +kernel
theorem dX5_most_175 : decode cX5_most 175 = .ok (.iinc 2 1, 3) := by decide +kernel
theorem dX5_most_178 : decode cX5_most 178 = .ok (.goto (-136), 3) := by decide +kernel
theorem dX5_most_181 : decode cX5_most 181 = .ok (.iload_n 1, 1) := by decide +kernel
theorem dX5_most_182 : decode cX5_most 182 = .ok (.ireturn, 1) := by decide +kernel
set_option maxRecDepth 20000 in
theorem ggX5_givenBack_X5_winner : GoodIn wsX5_givenBack wsX5_winner := goodIn_r _ [6, 7, 8, 9, 10, 5, 11, 12, 13, 14, 15, 16, 17, 18, 19, 20, 21, 22, 23, 24, 25, 61, 62, 63, 64, 65, 66, 67, 68, 69, 70, 71] (by decide +kernel) (by decide +kernel)
set_option maxRecDepth 20000 in
theorem gX5_givenBack_X5_winner : GoodIn wsX5_givenBack (wsV RX5 113 RX5 yX5_winner wsX5_winner) := goodIn_app (goodIn_of _ (by decide +kernel)) ggX5_givenBack_X5_winner
set_option maxRecDepth 20000 in
theorem ggX5_givenBack_X5_pe : GoodIn wsX5_givenBack wsX5_pe := goodIn_r _ [15, 16, 61, 62, 63, 64, 65, 66, 67, 68, 69, 70, 71] (by decide +kernel) (by decide +kernel)
set_option maxRecDepth 20000 in
theorem gX5_givenBack_X5_pe : GoodIn wsX5_givenBack (wsV RX5 92 RX5 yX5_pe wsX5_pe) := goodIn_app (goodIn_of _ (by decide +kernel)) ggX5_givenBack_X5_pe
set_option maxRecDepth 20000 in
theorem ggX5_givenBack_X5_haunted : GoodIn wsX5_givenBack wsX5_haunted := goodIn_r _ [29, 30, 31, 32, 33, 5, 34, 35, 36, 37, 38, 39, 40, 41, 42, 43, 44, 45, 46, 47, 48, 49, 61, 62, 63, 64, 65, 66, 67, 68, 69, 70, 71] (by decide +kernel) (by decide +kernel)
set_option maxRecDepth 20000 in
theorem gX5_givenBack_X5_haunted : GoodIn wsX5_givenBack (wsV RX5 80 RX5 yX5_haunted wsX5_haunted) := goodIn_app (goodIn_of _ (by decide +kernel)) ggX5_givenBack_X5_haunted
set_option maxRecDepth 20000 in
theorem ggX5_givenBack_X5_isBad : GoodIn wsX5_givenBack wsX5_isBad := goodIn_r _ [52] (by decide +kernel) (by decide +kernel)
set_option maxRecDepth 20000 in
theorem gX5_givenBack_X5_isBad : GoodIn wsX5_givenBack (va_wsS RX5 127 yX5_isBad wsX5_isBad) := goodIn_app (goodIn_of _ (by decide +kernel)) ggX5_givenBack_X5_isBad
set_option maxRecDepth 20000 in
theorem ggX5_givenBack_X5_pays : GoodIn wsX5_givenBack wsX5_pays := goodIn_r _ [56, 7, 57, 58, 59, 60, 2, 3, 4, 5, 6, 8, 9, 10, 11, 12, 13, 14, 15, 16, 17, 18, 19, 20, 21, 22, 23, 24, 25, 61, 62, 63, 64, 65, 66, 67, 68, 69, 70, 71] (by decide +kernel) (by decide +kernel)
set_option maxRecDepth 20000 in
theorem gX5_givenBack_X5_pays : GoodIn wsX5_givenBack (wsV RX5 121 RX5 yX5_pays wsX5_pays) := goodIn_app (goodIn_of _ (by decide +kernel)) ggX5_givenBack_X5_pays
theorem dX5_givenBack_0 : decode cX5_givenBack 0 = .ok (.iconst 0, 1) := by decide +kernel
theorem dX5_givenBack_1 : decode cX5_givenBack 1 = .ok (.istore_n 2, 1) := by decide +kernel
theorem dX5_givenBack_2 : decode cX5_givenBack 2 = .ok (.iconst 0, 1) := by decide +kernel
theorem dX5_givenBack_3 : decode cX5_givenBack 3 = .ok (.istore_n 3, 1) := by decide +kernel
theorem dX5_givenBack_4 : decode cX5_givenBack 4 = .ok (.iload_n 3, 1) := by decide +kernel
theorem dX5_givenBack_5 : decode cX5_givenBack 5 = .ok (.aload_n 0, 1) := by decide +kernel
theorem dX5_givenBack_6 : decode cX5_givenBack 6 = .ok (.getfield 32, 3) := by decide +kernel
theorem dX5_givenBack_9 : decode cX5_givenBack 9 = .ok (.if_icmp .ge 50, 3) := by decide +kernel
theorem dX5_givenBack_12 : decode cX5_givenBack 12 = .ok (.aload_n 0, 1) := by decide +kernel
theorem dX5_givenBack_13 : decode cX5_givenBack 13 = .ok (.iload_n 3, 1) := by decide +kernel
theorem dX5_givenBack_14 : decode cX5_givenBack 14 = .ok (.invokevirtual 113, 3) := by decide +kernel
theorem dX5_givenBack_17 : decode cX5_givenBack 17 = .ok (.iconst (-1), 1) := by decide +kernel
theorem dX5_givenBack_18 : decode cX5_givenBack 18 = .ok (.if_icmp .eq 35, 3) := by decide +kernel
theorem dX5_givenBack_21 : decode cX5_givenBack 21 = .ok (.aload_n 0, 1) := by decide +kernel
theorem dX5_givenBack_22 : decode cX5_givenBack 22 = .ok (.aload_n 0, 1) := by decide +kernel
theorem dX5_givenBack_23 : decode cX5_givenBack 23 = .ok (.iload_n 3, 1) := by decide +kernel
theorem dX5_givenBack_24 : decode cX5_givenBack 24 = .ok (.invokevirtual 113, 3) := by decide +kernel
theorem dX5_givenBack_27 : decode cX5_givenBack 27 = .ok (.iconst 2, 1) := by decide +kernel
theorem dX5_givenBack_28 : decode cX5_givenBack 28 = .ok (.invokevirtual 92, 3) := by decide +kernel
theorem dX5_givenBack_31 : decode cX5_givenBack 31 = .ok (.aload_n 0, 1) := by decide +kernel
theorem dX5_givenBack_32 : decode cX5_givenBack 32 = .ok (.iload_n 3, 1) := by decide +kernel
theorem dX5_givenBack_33 : decode cX5_givenBack 33 = .ok (.iload_n 1, 1) := by decide +kernel
theorem dX5_givenBack_34 : decode cX5_givenBack 34 = .ok (.invokevirtual 80, 3) := by decide +kernel
theorem dX5_givenBack_37 : decode cX5_givenBack 37 = .ok (.invokestatic 127, 3) := by decide +kernel
theorem dX5_givenBack_40 : decode cX5_givenBack 40 = .ok (.ifCond .eq 13, 3) := by decide +kernel
theorem dX5_givenBack_43 : decode cX5_givenBack 43 = .ok (.iload_n 2, 1) := by decide +kernel
theorem dX5_givenBack_44 : decode cX5_givenBack 44 = .ok (.aload_n 0, 1) := by decide +kernel
theorem dX5_givenBack_45 : decode cX5_givenBack 45 = .ok (.iload_n 3, 1) := by decide +kernel
theorem dX5_givenBack_46 : decode cX5_givenBack 46 = .ok (.invokevirtual 121, 3) := by decide +kernel
theorem dX5_givenBack_49 : decode cX5_givenBack 49 = .ok (.iconst 2, 1) := by decide +kernel
theorem dX5_givenBack_50 : decode cX5_givenBack 50 = .ok (.idiv, 1) := by decide +kernel
theorem dX5_givenBack_51 : decode cX5_givenBack 51 = .ok (.iadd, 1) := by decide +kernel
theorem dX5_givenBack_52 : decode cX5_givenBack 52 = .ok (.istore_n 2, 1) := by decide +kernel
theorem dX5_givenBack_53 : decode cX5_givenBack 53 = .ok (.iinc 3 1, 3) := by decide +kernel
theorem dX5_givenBack_56 : decode cX5_givenBack 56 = .ok (.goto (-52), 3) := by decide +kernel
theorem dX5_givenBack_59 : decode cX5_givenBack 59 = .ok (.iload_n 2, 1) := by decide +kernel
theorem dX5_givenBack_60 : decode cX5_givenBack 60 = .ok (.ireturn, 1) := by decide +kernel
set_option maxRecDepth 20000 in
theorem ggX5_scares_X5_isGhost : GoodIn wsX5_scares wsX5_isGhost := goodIn_r _ [6, 7, 8, 9, 5, 10, 77, 78, 79, 80, 81, 82, 83, 84, 85, 86, 87] (by decide +kernel) (by decide +kernel)
set_option maxRecDepth 20000 in
theorem gX5_scares_X5_isGhost : GoodIn wsX5_scares (wsV RX5 74 RX5 yX5_isGhost wsX5_isGhost) := goodIn_app (goodIn_of _ (by decide +kernel)) ggX5_scares_X5_isGhost
set_option maxRecDepth 20000 in
theorem ggX5_scares_X5_givenBack : GoodIn wsX5_scares wsX5_givenBack := goodIn_r _ [14, 15, 16, 17, 18, 5, 19, 20, 21, 22, 23, 24, 25, 26, 27, 28, 29, 30, 31, 32, 33, 34, 35, 36, 37, 38, 39, 40, 41, 42, 7, 43, 44, 45, 46, 47, 48, 49, 50, 51, 52, 53, 54, 55, 56, 57, 58, 59, 60, 61, 62, 63, 64, 65, 66, 67, 68, 69, 70, 71, 72, 77, 78, 79, 80, 81, 82, 83, 84, 85, 86, 87] (by decide +kernel) (by decide +kernel)
set_option maxRecDepth 20000 in
theorem gX5_scares_X5_givenBack : GoodIn wsX5_scares (wsV RX5 139 RX5 yX5_givenBack wsX5_givenBack) := goodIn_app (goodIn_of _ (by decide +kernel)) ggX5_scares_X5_givenBack
set_option maxRecDepth 20000 in
theorem ggX5_scares_X5_fail : GoodIn wsX5_scares wsX5_fail := goodIn_r _ [76, 1, 77, 78, 79, 80, 81, 82, 83, 84, 85, 86, 87] (by decide +kernel) (by decide +kernel)
set_option maxRecDepth 20000 in
theorem gX5_scares_X5_fail : GoodIn wsX5_scares (wsV RX5 45 RX5 yX5_fail wsX5_fail) := goodIn_app (goodIn_of _ (by decide +kernel)) ggX5_scares_X5_fail
theorem dX5_scares_0 : decode cX5_scares 0 = .ok (.aload_n 0, 1) := by decide +kernel
theorem dX5_scares_1 : decode cX5_scares 1 = .ok (.iconst 0, 1) := by decide +kernel
theorem dX5_scares_2 : decode cX5_scares 2 = .ok (.putfield 28, 3) := by decide +kernel
theorem dX5_scares_5 : decode cX5_scares 5 = .ok (.aload_n 0, 1) := by decide +kernel
theorem dX5_scares_6 : decode cX5_scares 6 = .ok (.iload_n 1, 1) := by decide +kernel
theorem dX5_scares_7 : decode cX5_scares 7 = .ok (.invokevirtual 74, 3) := by decide +kernel
theorem dX5_scares_10 : decode cX5_scares 10 = .ok (.ifCond .eq 17, 3) := by decide +kernel
theorem dX5_scares_13 : decode cX5_scares 13 = .ok (.aload_n 0, 1) := by decide +kernel
theorem dX5_scares_14 : decode cX5_scares 14 = .ok (.iconst (-1), 1) := by decide +kernel
theorem dX5_scares_15 : decode cX5_scares 15 = .ok (.invokevirtual 139, 3) := by decide +kernel
theorem dX5_scares_18 : decode cX5_scares 18 = .ok (.aload_n 0, 1) := by decide +kernel
theorem dX5_scares_19 : decode cX5_scares 19 = .ok (.iload_n 1, 1) := by decide +kernel
theorem dX5_scares_20 : decode cX5_scares 20 = .ok (.invokevirtual 139, 3) := by decide +kernel
theorem dX5_scares_23 : decode cX5_scares 23 = .ok (.isub, 1) := by decide +kernel
theorem dX5_scares_24 : decode cX5_scares 24 = .ok (.goto 8, 3) := by decide +kernel
theorem dX5_scares_27 : decode cX5_scares 27 = .ok (.aload_n 0, 1) := by decide +kernel
theorem dX5_scares_28 : decode cX5_scares 28 = .ok (.iconst 1, 1) := by decide +kernel
theorem dX5_scares_29 : decode cX5_scares 29 = .ok (.invokevirtual 45, 3) := by decide +kernel
theorem dX5_scares_32 : decode cX5_scares 32 = .ok (.ireturn, 1) := by decide +kernel
set_option maxRecDepth 20000 in
theorem ggX5_mean_X5_ro : GoodIn wsX5_mean wsX5_ro := goodIn_r _ [8, 9, 10, 11, 12, 13, 14, 15, 16, 17, 18, 19, 20] (by decide +kernel) (by decide +kernel)
set_option maxRecDepth 20000 in
theorem gX5_mean_X5_ro : GoodIn wsX5_mean (wsV RX5 83 RX5 yX5_ro wsX5_ro) := goodIn_app (goodIn_of _ (by decide +kernel)) ggX5_mean_X5_ro
theorem dX5_mean_0 : decode cX5_mean 0 = .ok (.aload_n 0, 1) := by decide +kernel
theorem dX5_mean_1 : decode cX5_mean 1 = .ok (.iconst 0, 1) := by decide +kernel
theorem dX5_mean_2 : decode cX5_mean 2 = .ok (.putfield 28, 3) := by decide +kernel
theorem dX5_mean_5 : decode cX5_mean 5 = .ok (.iconst 0, 1) := by decide +kernel
theorem dX5_mean_6 : decode cX5_mean 6 = .ok (.istore_n 1, 1) := by decide +kernel
theorem dX5_mean_7 : decode cX5_mean 7 = .ok (.iconst 0, 1) := by decide +kernel
theorem dX5_mean_8 : decode cX5_mean 8 = .ok (.istore_n 2, 1) := by decide +kernel
theorem dX5_mean_9 : decode cX5_mean 9 = .ok (.iload_n 2, 1) := by decide +kernel
theorem dX5_mean_10 : decode cX5_mean 10 = .ok (.aload_n 0, 1) := by decide +kernel
theorem dX5_mean_11 : decode cX5_mean 11 = .ok (.getfield 32, 3) := by decide +kernel
theorem dX5_mean_14 : decode cX5_mean 14 = .ok (.if_icmp .ge 18, 3) := by decide +kernel
theorem dX5_mean_17 : decode cX5_mean 17 = .ok (.iload_n 1, 1) := by decide +kernel
theorem dX5_mean_18 : decode cX5_mean 18 = .ok (.aload_n 0, 1) := by decide +kernel
theorem dX5_mean_19 : decode cX5_mean 19 = .ok (.iload_n 2, 1) := by decide +kernel
theorem dX5_mean_20 : decode cX5_mean 20 = .ok (.iconst 3, 1) := by decide +kernel
theorem dX5_mean_21 : decode cX5_mean 21 = .ok (.invokevirtual 83, 3) := by decide +kernel
theorem dX5_mean_24 : decode cX5_mean 24 = .ok (.iadd, 1) := by decide +kernel
theorem dX5_mean_25 : decode cX5_mean 25 = .ok (.istore_n 1, 1) := by decide +kernel
theorem dX5_mean_26 : decode cX5_mean 26 = .ok (.iinc 2 1, 3) := by decide +kernel
theorem dX5_mean_29 : decode cX5_mean 29 = .ok (.goto (-20), 3) := by decide +kernel
theorem dX5_mean_32 : decode cX5_mean 32 = .ok (.iload_n 1, 1) := by decide +kernel
theorem dX5_mean_33 : decode cX5_mean 33 = .ok (.ifCond .ne 7, 3) := by decide +kernel
theorem dX5_mean_36 : decode cX5_mean 36 = .ok (.dconst 0, 1) := by decide +kernel
theorem dX5_mean_37 : decode cX5_mean 37 = .ok (.goto 13, 3) := by decide +kernel
theorem dX5_mean_40 : decode cX5_mean 40 = .ok (.aload_n 0, 1) := by decide +kernel
theorem dX5_mean_41 : decode cX5_mean 41 = .ok (.getfield 22, 3) := by decide +kernel
theorem dX5_mean_44 : decode cX5_mean 44 = .ok (.iconst 1, 1) := by decide +kernel
theorem dX5_mean_45 : decode cX5_mean 45 = .ok (.iaload, 1) := by decide +kernel
theorem dX5_mean_46 : decode cX5_mean 46 = .ok (.i2d, 1) := by decide +kernel
theorem dX5_mean_47 : decode cX5_mean 47 = .ok (.iload_n 1, 1) := by decide +kernel
theorem dX5_mean_48 : decode cX5_mean 48 = .ok (.i2d, 1) := by decide +kernel
theorem dX5_mean_49 : decode cX5_mean 49 = .ok (.ddiv, 1) := by decide +kernel
theorem dX5_mean_50 : decode cX5_mean 50 = .ok (.dreturn, 1) := by decide +kernel
set_option maxRecDepth 20000 in
theorem ggX5_digest_X5_counted : GoodIn wsX5_digest wsX5_counted := goodIn_r _ [11, 12, 4, 13, 5, 6, 14, 15, 16, 10, 17, 18, 19, 20, 21, 22, 23, 24, 25, 26, 27, 28, 29, 30, 31, 32, 33, 34, 35, 81, 82, 83, 84, 85, 86, 87, 88, 89, 90, 91] (by decide +kernel) (by decide +kernel)
set_option maxRecDepth 20000 in
theorem gX5_digest_X5_counted : GoodIn wsX5_digest (wsV RX5 136 RX5 yX5_counted wsX5_counted) := goodIn_app (goodIn_of _ (by decide +kernel)) ggX5_digest_X5_counted
set_option maxRecDepth 20000 in
theorem ggX5_digest_X5_roomTold : GoodIn wsX5_digest wsX5_roomTold := goodIn_r _ [39, 40, 31, 32, 33, 10, 34, 35, 41, 42, 43, 44, 45, 46, 47, 81, 82, 83, 84, 85, 86, 87, 88, 89, 90, 91] (by decide +kernel) (by decide +kernel)
set_option maxRecDepth 20000 in
theorem gX5_digest_X5_roomTold : GoodIn wsX5_digest (wsV RX5 89 RX5 yX5_roomTold wsX5_roomTold) := goodIn_app (goodIn_of _ (by decide +kernel)) ggX5_digest_X5_roomTold
set_option maxRecDepth 20000 in
theorem ggX5_digest_X5_won : GoodIn wsX5_digest wsX5_won := goodIn_r _ [51, 6, 19, 20, 21, 10, 22, 23, 24, 25, 26, 14, 15, 16, 17, 18, 27, 28, 29, 30, 31, 32, 33, 34, 35, 52, 53, 54, 55, 56, 57, 58, 59, 81, 82, 83, 84, 85, 86, 87, 88, 89, 90, 91] (by decide +kernel) (by decide +kernel)
set_option maxRecDepth 20000 in
theorem gX5_digest_X5_won : GoodIn wsX5_digest (wsV RX5 124 RX5 yX5_won wsX5_won) := goodIn_app (goodIn_of _ (by decide +kernel)) ggX5_digest_X5_won
set_option maxRecDepth 20000 in
theorem ggX5_digest_X5_haunted : GoodIn wsX5_digest wsX5_haunted := goodIn_r _ [63, 5, 64, 65, 66, 10, 67, 68, 69, 70, 71, 72, 73, 74, 75, 76, 40, 77, 78, 43, 79, 80, 81, 82, 83, 84, 85, 86, 87, 88, 89, 90, 91] (by decide +kernel) (by decide +kernel)
set_option maxRecDepth 20000 in
theorem gX5_digest_X5_haunted : GoodIn wsX5_digest (wsV RX5 80 RX5 yX5_haunted wsX5_haunted) := goodIn_app (goodIn_of _ (by decide +kernel)) ggX5_digest_X5_haunted
set_option maxRecDepth 20000 in
theorem ggX5_digest_X5_place : GoodIn wsX5_digest wsX5_place := goodIn_r _ [67, 68, 69, 70, 10, 71, 72, 73, 74, 75, 76, 40, 77, 78, 43, 79, 80, 81, 82, 83, 84, 85, 86, 87, 88, 89, 90, 91] (by decide +kernel) (by decide +kernel)
set_option maxRecDepth 20000 in
theorem gX5_digest_X5_place : GoodIn wsX5_digest (wsV RX5 77 RX5 yX5_place wsX5_place) := goodIn_app (goodIn_of _ (by decide +kernel)) ggX5_digest_X5_place
set_option maxRecDepth 20000 in
theorem ggX5_digest_X5_pe : GoodIn wsX5_digest wsX5_pe := goodIn_r _ [17, 18, 81, 82, 83, 84, 85, 86, 87, 88, 89, 90, 91] (by decide +kernel) (by decide +kernel)
set_option maxRecDepth 20000 in
theorem gX5_digest_X5_pe : GoodIn wsX5_digest (wsV RX5 92 RX5 yX5_pe wsX5_pe) := goodIn_app (goodIn_of _ (by decide +kernel)) ggX5_digest_X5_pe
theorem dX5_digest_0 : decode cX5_digest 0 = .ok (.aload_n 0, 1) := by decide +kernel
theorem dX5_digest_1 : decode cX5_digest 1 = .ok (.iconst 0, 1) := by decide +kernel
theorem dX5_digest_2 : decode cX5_digest 2 = .ok (.putfield 28, 3) := by decide +kernel
theorem dX5_digest_5 : decode cX5_digest 5 = .ok (.ldc2_w 142, 3) := by decide +kernel
theorem dX5_digest_8 : decode cX5_digest 8 = .ok (.lstore_n 1, 1) := by decide +kernel
theorem dX5_digest_9 : decode cX5_digest 9 = .ok (.iconst 0, 1) := by decide +kernel
theorem dX5_digest_10 : decode cX5_digest 10 = .ok (.istore_n 3, 1) := by decide +kernel
theorem dX5_digest_11 : decode cX5_digest 11 = .ok (.iload_n 3, 1) := by decide +kernel
theorem dX5_digest_12 : decode cX5_digest 12 = .ok (.bipush 9, 2) := by decide +kernel
theorem dX5_digest_14 : decode cX5_digest 14 = .ok (.if_icmp .ge 22, 3) := by decide +kernel
theorem dX5_digest_17 : decode cX5_digest 17 = .ok (.lload_n 1, 1) := by decide +kernel
theorem dX5_digest_18 : decode cX5_digest 18 = .ok (.ldc2_w 144, 3) := by decide +kernel
theorem dX5_digest_21 : decode cX5_digest 21 = .ok (.lmul, 1) := by decide +kernel
theorem dX5_digest_22 : decode cX5_digest 22 = .ok (.aload_n 0, 1) := by decide +kernel
theorem dX5_digest_23 : decode cX5_digest 23 = .ok (.iload_n 3, 1) := by decide +kernel
theorem dX5_digest_24 : decode cX5_digest 24 = .ok (.invokevirtual 136, 3) := by decide +kernel
theorem dX5_digest_27 : decode cX5_digest 27 = .ok (.i2l, 1) := by decide +kernel
theorem dX5_digest_28 : decode cX5_digest 28 = .ok (.ladd, 1) := by decide +kernel
theorem dX5_digest_29 : decode cX5_digest 29 = .ok (.lstore_n 1, 1) := by decide +kernel
theorem dX5_digest_30 : decode cX5_digest 30 = .ok (.iinc 3 1, 3) := by decide +kernel
theorem dX5_digest_33 : decode cX5_digest 33 = .ok (.goto (-22), 3) := by decide +kernel
theorem dX5_digest_36 : decode cX5_digest 36 = .ok (.iconst 0, 1) := by decide +kernel
theorem dX5_digest_37 : decode cX5_digest 37 = .ok (.istore_n 3, 1) := by decide +kernel
theorem dX5_digest_38 : decode cX5_digest 38 = .ok (.iload_n 3, 1) := by decide +kernel
theorem dX5_digest_39 : decode cX5_digest 39 = .ok (.aload_n 0, 1) := by decide +kernel
theorem dX5_digest_40 : decode cX5_digest 40 = .ok (.getfield 32, 3) := by decide +kernel
theorem dX5_digest_43 : decode cX5_digest 43 = .ok (.if_icmp .ge 84, 3) := by decide +kernel
theorem dX5_digest_46 : decode cX5_digest 46 = .ok (.iconst 0, 1) := by decide +kernel
theorem dX5_digest_47 : decode cX5_digest 47 = .ok (.istore 4, 2) := by decide +kernel
theorem dX5_digest_49 : decode cX5_digest 49 = .ok (.iload 4, 2) := by decide +kernel
theorem dX5_digest_51 : decode cX5_digest 51 = .ok (.bipush 6, 2) := by decide +kernel
theorem dX5_digest_53 : decode cX5_digest 53 = .ok (.if_icmp .ge 24, 3) := by decide +kernel
theorem dX5_digest_56 : decode cX5_digest 56 = .ok (.lload_n 1, 1) := by decide +kernel
theorem dX5_digest_57 : decode cX5_digest 57 = .ok (.ldc2_w 144, 3) := by decide +kernel
theorem dX5_digest_60 : decode cX5_digest 60 = .ok (.lmul, 1) := by decide +kernel
theorem dX5_digest_61 : decode cX5_digest 61 = .ok (.aload_n 0, 1) := by decide +kernel
theorem dX5_digest_62 : decode cX5_digest 62 = .ok (.iload_n 3, 1) := by decide +kernel
theorem dX5_digest_63 : decode cX5_digest 63 = .ok (.iload 4, 2) := by decide +kernel
theorem dX5_digest_65 : decode cX5_digest 65 = .ok (.invokevirtual 89, 3) := by decide +kernel
theorem dX5_digest_68 : decode cX5_digest 68 = .ok (.i2l, 1) := by decide +kernel
theorem dX5_digest_69 : decode cX5_digest 69 = .ok (.ladd, 1) := by decide +kernel
theorem dX5_digest_70 : decode cX5_digest 70 = .ok (.lstore_n 1, 1) := by decide +kernel
theorem dX5_digest_71 : decode cX5_digest 71 = .ok (.iinc 4 1, 3) := by decide +kernel
theorem dX5_digest_74 : decode cX5_digest 74 = .ok (.goto (-25), 3) := by decide +kernel
theorem dX5_digest_77 : decode cX5_digest 77 = .ok (.iconst 0, 1) := by decide +kernel
theorem dX5_digest_78 : decode cX5_digest 78 = .ok (.istore 4, 2) := by decide +kernel
theorem dX5_digest_80 : decode cX5_digest 80 = .ok (.iload 4, 2) := by decide +kernel
theorem dX5_digest_82 : decode cX5_digest 82 = .ok (.iconst 3, 1) := by decide +kernel
theorem dX5_digest_83 : decode cX5_digest 83 = .ok (.if_icmp .ge 24, 3) := by decide +kernel
theorem dX5_digest_86 : decode cX5_digest 86 = .ok (.lload_n 1, 1) := by decide +kernel
theorem dX5_digest_87 : decode cX5_digest 87 = .ok (.ldc2_w 144, 3) := by decide +kernel
theorem dX5_digest_90 : decode cX5_digest 90 = .ok (.lmul, 1) := by decide +kernel
theorem dX5_digest_91 : decode cX5_digest 91 = .ok (.aload_n 0, 1) := by decide +kernel
theorem dX5_digest_92 : decode cX5_digest 92 = .ok (.iload_n 3, 1) := by decide +kernel
theorem dX5_digest_93 : decode cX5_digest 93 = .ok (.iload 4, 2) := by decide +kernel
theorem dX5_digest_95 : decode cX5_digest 95 = .ok (.invokevirtual 124, 3) := by decide +kernel
theorem dX5_digest_98 : decode cX5_digest 98 = .ok (.i2l, 1) := by decide +kernel
theorem dX5_digest_99 : decode cX5_digest 99 = .ok (.ladd, 1) := by decide +kernel
theorem dX5_digest_100 : decode cX5_digest 100 = .ok (.lstore_n 1, 1) := by decide +kernel
theorem dX5_digest_101 : decode cX5_digest 101 = .ok (.iinc 4 1, 3) := by decide +kernel
theorem dX5_digest_104 : decode cX5_digest 104 = .ok (.goto (-24), 3) := by decide +kernel
theorem dX5_digest_107 : decode cX5_digest 107 = .ok (.lload_n 1, 1) := by decide +kernel
theorem dX5_digest_108 : decode cX5_digest 108 = .ok (.ldc2_w 144, 3) := by decide +kernel
theorem dX5_digest_111 : decode cX5_digest 111 = .ok (.lmul, 1) := by decide +kernel
theorem dX5_digest_112 : decode cX5_digest 112 = .ok (.aload_n 0, 1) := by decide +kernel
theorem dX5_digest_113 : decode cX5_digest 113 = .ok (.iload_n 3, 1) := by decide +kernel
theorem dX5_digest_114 : decode cX5_digest 114 = .ok (.iconst (-1), 1) := by decide +kernel
theorem dX5_digest_115 : decode cX5_digest 115 = .ok (.invokevirtual 80, 3) := by decide +kernel
theorem dX5_digest_118 : decode cX5_digest 118 = .ok (.i2l, 1) := by decide +kernel
theorem dX5_digest_119 : decode cX5_digest 119 = .ok (.ladd, 1) := by decide +kernel
theorem dX5_digest_120 : decode cX5_digest 120 = .ok (.lstore_n 1, 1) := by decide +kernel
theorem dX5_digest_121 : decode cX5_digest 121 = .ok (.iinc 3 1, 3) := by decide +kernel
theorem dX5_digest_124 : decode cX5_digest 124 = .ok (.goto (-86), 3) := by decide +kernel
theorem dX5_digest_127 : decode cX5_digest 127 = .ok (.iconst 0, 1) := by decide +kernel
theorem dX5_digest_128 : decode cX5_digest 128 = .ok (.istore_n 3, 1) := by decide +kernel
theorem dX5_digest_129 : decode cX5_digest 129 = .ok (.iload_n 3, 1) := by decide +kernel
theorem dX5_digest_130 : decode cX5_digest 130 = .ok (.aload_n 0, 1) := by decide +kernel
theorem dX5_digest_131 : decode cX5_digest 131 = .ok (.getfield 39, 3) := by decide +kernel
theorem dX5_digest_134 : decode cX5_digest 134 = .ok (.if_icmp .ge 40, 3) := by decide +kernel
theorem dX5_digest_137 : decode cX5_digest 137 = .ok (.iconst 0, 1) := by decide +kernel
theorem dX5_digest_138 : decode cX5_digest 138 = .ok (.istore 4, 2) := by decide +kernel
theorem dX5_digest_140 : decode cX5_digest 140 = .ok (.iload 4, 2) := by decide +kernel
theorem dX5_digest_142 : decode cX5_digest 142 = .ok (.bipush 12, 2) := by decide +kernel
theorem dX5_digest_144 : decode cX5_digest 144 = .ok (.if_icmp .ge 24, 3) := by decide +kernel
theorem dX5_digest_147 : decode cX5_digest 147 = .ok (.lload_n 1, 1) := by decide +kernel
theorem dX5_digest_148 : decode cX5_digest 148 = .ok (.ldc2_w 144, 3) := by decide +kernel
theorem dX5_digest_151 : decode cX5_digest 151 = .ok (.lmul, 1) := by decide +kernel
theorem dX5_digest_152 : decode cX5_digest 152 = .ok (.aload_n 0, 1) := by decide +kernel
theorem dX5_digest_153 : decode cX5_digest 153 = .ok (.iload_n 3, 1) := by decide +kernel
theorem dX5_digest_154 : decode cX5_digest 154 = .ok (.iload 4, 2) := by decide +kernel
theorem dX5_digest_156 : decode cX5_digest 156 = .ok (.invokevirtual 77, 3) := by decide +kernel
theorem dX5_digest_159 : decode cX5_digest 159 = .ok (.i2l, 1) := by decide +kernel
theorem dX5_digest_160 : decode cX5_digest 160 = .ok (.ladd, 1) := by decide +kernel
theorem dX5_digest_161 : decode cX5_digest 161 = .ok (.lstore_n 1, 1) := by decide +kernel
theorem dX5_digest_162 : decode cX5_digest 162 = .ok (.iinc 4 1, 3) := by decide +kernel
theorem dX5_digest_165 : decode cX5_digest 165 = .ok (.goto (-25), 3) := by decide +kernel
theorem dX5_digest_168 : decode cX5_digest 168 = .ok (.iinc 3 1, 3) := by decide +kernel
theorem dX5_digest_171 : decode cX5_digest 171 = .ok (.goto (-42), 3) := by decide +kernel
theorem dX5_digest_174 : decode cX5_digest 174 = .ok (.iconst 0, 1) := by decide +kernel
theorem dX5_digest_175 : decode cX5_digest 175 = .ok (.istore_n 3, 1) := by decide +kernel
theorem dX5_digest_176 : decode cX5_digest 176 = .ok (.iload_n 3, 1) := by decide +kernel
theorem dX5_digest_177 : decode cX5_digest 177 = .ok (.aload_n 0, 1) := by decide +kernel
theorem dX5_digest_178 : decode cX5_digest 178 = .ok (.getfield 42, 3) := by decide +kernel
theorem dX5_digest_181 : decode cX5_digest 181 = .ok (.if_icmp .ge 40, 3) := by decide +kernel
theorem dX5_digest_184 : decode cX5_digest 184 = .ok (.iconst 0, 1) := by decide +kernel
theorem dX5_digest_185 : decode cX5_digest 185 = .ok (.istore 4, 2) := by decide +kernel
theorem dX5_digest_187 : decode cX5_digest 187 = .ok (.iload 4, 2) := by decide +kernel
theorem dX5_digest_189 : decode cX5_digest 189 = .ok (.bipush 7, 2) := by decide +kernel
theorem dX5_digest_191 : decode cX5_digest 191 = .ok (.if_icmp .ge 24, 3) := by decide +kernel
theorem dX5_digest_194 : decode cX5_digest 194 = .ok (.lload_n 1, 1) := by decide +kernel
theorem dX5_digest_195 : decode cX5_digest 195 = .ok (.ldc2_w 144, 3) := by decide +kernel
theorem dX5_digest_198 : decode cX5_digest 198 = .ok (.lmul, 1) := by decide +kernel
theorem dX5_digest_199 : decode cX5_digest 199 = .ok (.aload_n 0, 1) := by decide +kernel
theorem dX5_digest_200 : decode cX5_digest 200 = .ok (.iload_n 3, 1) := by decide +kernel
theorem dX5_digest_201 : decode cX5_digest 201 = .ok (.iload 4, 2) := by decide +kernel
theorem dX5_digest_203 : decode cX5_digest 203 = .ok (.invokevirtual 92, 3) := by decide +kernel
theorem dX5_digest_206 : decode cX5_digest 206 = .ok (.i2l, 1) := by decide +kernel
theorem dX5_digest_207 : decode cX5_digest 207 = .ok (.ladd, 1) := by decide +kernel
theorem dX5_digest_208 : decode cX5_digest 208 = .ok (.lstore_n 1, 1) := by decide +kernel
theorem dX5_digest_209 : decode cX5_digest 209 = .ok (.iinc 4 1, 3) := by decide +kernel
theorem dX5_digest_212 : decode cX5_digest 212 = .ok (.goto (-25), 3) := by decide +kernel
theorem dX5_digest_215 : decode cX5_digest 215 = .ok (.iinc 3 1, 3) := by decide +kernel
theorem dX5_digest_218 : decode cX5_digest 218 = .ok (.goto (-42), 3) := by decide +kernel
theorem dX5_digest_221 : decode cX5_digest 221 = .ok (.lload_n 1, 1) := by decide +kernel
theorem dX5_digest_222 : decode cX5_digest 222 = .ok (.lreturn, 1) := by decide +kernel
theorem dJ6_numberOfTrailingZeros_0f7a4_0 : decode cJ6_numberOfTrailingZeros_0f7a4 0 = .ok (.iload_n 0, 1) := by decide +kernel
theorem dJ6_numberOfTrailingZeros_0f7a4_1 : decode cJ6_numberOfTrailingZeros_0f7a4 1 = .ok (.iconst (-1), 1) := by decide +kernel
theorem dJ6_numberOfTrailingZeros_0f7a4_2 : decode cJ6_numberOfTrailingZeros_0f7a4 2 = .ok (.ixor, 1) := by decide +kernel
theorem dJ6_numberOfTrailingZeros_0f7a4_3 : decode cJ6_numberOfTrailingZeros_0f7a4 3 = .ok (.iload_n 0, 1) := by decide +kernel
theorem dJ6_numberOfTrailingZeros_0f7a4_4 : decode cJ6_numberOfTrailingZeros_0f7a4 4 = .ok (.iconst 1, 1) := by decide +kernel
theorem dJ6_numberOfTrailingZeros_0f7a4_5 : decode cJ6_numberOfTrailingZeros_0f7a4 5 = .ok (.isub, 1) := by decide +kernel
theorem dJ6_numberOfTrailingZeros_0f7a4_6 : decode cJ6_numberOfTrailingZeros_0f7a4 6 = .ok (.iand, 1) := by decide +kernel
theorem dJ6_numberOfTrailingZeros_0f7a4_7 : decode cJ6_numberOfTrailingZeros_0f7a4 7 = .ok (.istore_n 0, 1) := by decide +kernel
theorem dJ6_numberOfTrailingZeros_0f7a4_8 : decode cJ6_numberOfTrailingZeros_0f7a4 8 = .ok (.iload_n 0, 1) := by decide +kernel
theorem dJ6_numberOfTrailingZeros_0f7a4_9 : decode cJ6_numberOfTrailingZeros_0f7a4 9 = .ok (.ifCond .gt 8, 3) := by decide +kernel
theorem dJ6_numberOfTrailingZeros_0f7a4_12 : decode cJ6_numberOfTrailingZeros_0f7a4 12 = .ok (.iload_n 0, 1) := by decide +kernel
theorem dJ6_numberOfTrailingZeros_0f7a4_13 : decode cJ6_numberOfTrailingZeros_0f7a4 13 = .ok (.bipush 32, 2) := by decide +kernel
theorem dJ6_numberOfTrailingZeros_0f7a4_15 : decode cJ6_numberOfTrailingZeros_0f7a4 15 = .ok (.iand, 1) := by decide +kernel
theorem dJ6_numberOfTrailingZeros_0f7a4_16 : decode cJ6_numberOfTrailingZeros_0f7a4 16 = .ok (.ireturn, 1) := by decide +kernel
theorem dJ6_numberOfTrailingZeros_0f7a4_17 : decode cJ6_numberOfTrailingZeros_0f7a4 17 = .ok (.iconst 1, 1) := by decide +kernel
theorem dJ6_numberOfTrailingZeros_0f7a4_18 : decode cJ6_numberOfTrailingZeros_0f7a4 18 = .ok (.istore_n 1, 1) := by decide +kernel
theorem dJ6_numberOfTrailingZeros_0f7a4_19 : decode cJ6_numberOfTrailingZeros_0f7a4 19 = .ok (.iload_n 0, 1) := by decide +kernel
theorem dJ6_numberOfTrailingZeros_0f7a4_20 : decode cJ6_numberOfTrailingZeros_0f7a4 20 = .ok (.ldc_w 264, 3) := by decide +kernel
theorem dJ6_numberOfTrailingZeros_0f7a4_23 : decode cJ6_numberOfTrailingZeros_0f7a4 23 = .ok (.if_icmp .le 11, 3) := by decide +kernel
theorem dJ6_numberOfTrailingZeros_0f7a4_26 : decode cJ6_numberOfTrailingZeros_0f7a4 26 = .ok (.iinc 1 16, 3) := by decide +kernel
theorem dJ6_numberOfTrailingZeros_0f7a4_29 : decode cJ6_numberOfTrailingZeros_0f7a4 29 = .ok (.iload_n 0, 1) := by decide +kernel
theorem dJ6_numberOfTrailingZeros_0f7a4_30 : decode cJ6_numberOfTrailingZeros_0f7a4 30 = .ok (.bipush 16, 2) := by decide +kernel
theorem dJ6_numberOfTrailingZeros_0f7a4_32 : decode cJ6_numberOfTrailingZeros_0f7a4 32 = .ok (.iushr, 1) := by decide +kernel
theorem dJ6_numberOfTrailingZeros_0f7a4_33 : decode cJ6_numberOfTrailingZeros_0f7a4 33 = .ok (.istore_n 0, 1) := by decide +kernel
theorem dJ6_numberOfTrailingZeros_0f7a4_34 : decode cJ6_numberOfTrailingZeros_0f7a4 34 = .ok (.iload_n 0, 1) := by decide +kernel
theorem dJ6_numberOfTrailingZeros_0f7a4_35 : decode cJ6_numberOfTrailingZeros_0f7a4 35 = .ok (.sipush 256, 3) := by decide +kernel
theorem dJ6_numberOfTrailingZeros_0f7a4_38 : decode cJ6_numberOfTrailingZeros_0f7a4 38 = .ok (.if_icmp .le 11, 3) := by decide +kernel
theorem dJ6_numberOfTrailingZeros_0f7a4_41 : decode cJ6_numberOfTrailingZeros_0f7a4 41 = .ok (.iinc 1 8, 3) := by decide +kernel
theorem dJ6_numberOfTrailingZeros_0f7a4_44 : decode cJ6_numberOfTrailingZeros_0f7a4 44 = .ok (.iload_n 0, 1) := by decide +kernel
theorem dJ6_numberOfTrailingZeros_0f7a4_45 : decode cJ6_numberOfTrailingZeros_0f7a4 45 = .ok (.bipush 8, 2) := by decide +kernel
theorem dJ6_numberOfTrailingZeros_0f7a4_47 : decode cJ6_numberOfTrailingZeros_0f7a4 47 = .ok (.iushr, 1) := by decide +kernel
theorem dJ6_numberOfTrailingZeros_0f7a4_48 : decode cJ6_numberOfTrailingZeros_0f7a4 48 = .ok (.istore_n 0, 1) := by decide +kernel
theorem dJ6_numberOfTrailingZeros_0f7a4_49 : decode cJ6_numberOfTrailingZeros_0f7a4 49 = .ok (.iload_n 0, 1) := by decide +kernel
theorem dJ6_numberOfTrailingZeros_0f7a4_50 : decode cJ6_numberOfTrailingZeros_0f7a4 50 = .ok (.bipush 16, 2) := by decide +kernel
theorem dJ6_numberOfTrailingZeros_0f7a4_52 : decode cJ6_numberOfTrailingZeros_0f7a4 52 = .ok (.if_icmp .le 10, 3) := by decide +kernel
theorem dJ6_numberOfTrailingZeros_0f7a4_55 : decode cJ6_numberOfTrailingZeros_0f7a4 55 = .ok (.iinc 1 4, 3) := by decide +kernel
theorem dJ6_numberOfTrailingZeros_0f7a4_58 : decode cJ6_numberOfTrailingZeros_0f7a4 58 = .ok (.iload_n 0, 1) := by decide +kernel
theorem dJ6_numberOfTrailingZeros_0f7a4_59 : decode cJ6_numberOfTrailingZeros_0f7a4 59 = .ok (.iconst 4, 1) := by decide +kernel
theorem dJ6_numberOfTrailingZeros_0f7a4_60 : decode cJ6_numberOfTrailingZeros_0f7a4 60 = .ok (.iushr, 1) := by decide +kernel
theorem dJ6_numberOfTrailingZeros_0f7a4_61 : decode cJ6_numberOfTrailingZeros_0f7a4 61 = .ok (.istore_n 0, 1) := by decide +kernel
theorem dJ6_numberOfTrailingZeros_0f7a4_62 : decode cJ6_numberOfTrailingZeros_0f7a4 62 = .ok (.iload_n 0, 1) := by decide +kernel
theorem dJ6_numberOfTrailingZeros_0f7a4_63 : decode cJ6_numberOfTrailingZeros_0f7a4 63 = .ok (.iconst 4, 1) := by decide +kernel
theorem dJ6_numberOfTrailingZeros_0f7a4_64 : decode cJ6_numberOfTrailingZeros_0f7a4 64 = .ok (.if_icmp .le 10, 3) := by decide +kernel
theorem dJ6_numberOfTrailingZeros_0f7a4_67 : decode cJ6_numberOfTrailingZeros_0f7a4 67 = .ok (.iinc 1 2, 3) := by decide +kernel
theorem dJ6_numberOfTrailingZeros_0f7a4_70 : decode cJ6_numberOfTrailingZeros_0f7a4 70 = .ok (.iload_n 0, 1) := by decide +kernel
theorem dJ6_numberOfTrailingZeros_0f7a4_71 : decode cJ6_numberOfTrailingZeros_0f7a4 71 = .ok (.iconst 2, 1) := by decide +kernel
theorem dJ6_numberOfTrailingZeros_0f7a4_72 : decode cJ6_numberOfTrailingZeros_0f7a4 72 = .ok (.iushr, 1) := by decide +kernel
theorem dJ6_numberOfTrailingZeros_0f7a4_73 : decode cJ6_numberOfTrailingZeros_0f7a4 73 = .ok (.istore_n 0, 1) := by decide +kernel
theorem dJ6_numberOfTrailingZeros_0f7a4_74 : decode cJ6_numberOfTrailingZeros_0f7a4 74 = .ok (.iload_n 1, 1) := by decide +kernel
theorem dJ6_numberOfTrailingZeros_0f7a4_75 : decode cJ6_numberOfTrailingZeros_0f7a4 75 = .ok (.iload_n 0, 1) := by decide +kernel
theorem dJ6_numberOfTrailingZeros_0f7a4_76 : decode cJ6_numberOfTrailingZeros_0f7a4 76 = .ok (.iconst 1, 1) := by decide +kernel
theorem dJ6_numberOfTrailingZeros_0f7a4_77 : decode cJ6_numberOfTrailingZeros_0f7a4 77 = .ok (.iushr, 1) := by decide +kernel
theorem dJ6_numberOfTrailingZeros_0f7a4_78 : decode cJ6_numberOfTrailingZeros_0f7a4 78 = .ok (.iadd, 1) := by decide +kernel
theorem dJ6_numberOfTrailingZeros_0f7a4_79 : decode cJ6_numberOfTrailingZeros_0f7a4 79 = .ok (.ireturn, 1) := by decide +kernel
theorem dJ6_bitCount_0f7a4_0 : decode cJ6_bitCount_0f7a4 0 = .ok (.iload_n 0, 1) := by decide +kernel
theorem dJ6_bitCount_0f7a4_1 : decode cJ6_bitCount_0f7a4 1 = .ok (.iload_n 0, 1) := by decide +kernel
theorem dJ6_bitCount_0f7a4_2 : decode cJ6_bitCount_0f7a4 2 = .ok (.iconst 1, 1) := by decide +kernel
theorem dJ6_bitCount_0f7a4_3 : decode cJ6_bitCount_0f7a4 3 = .ok (.iushr, 1) := by decide +kernel
theorem dJ6_bitCount_0f7a4_4 : decode cJ6_bitCount_0f7a4 4 = .ok (.ldc_w 265, 3) := by decide +kernel
theorem dJ6_bitCount_0f7a4_7 : decode cJ6_bitCount_0f7a4 7 = .ok (.iand, 1) := by decide +kernel
theorem dJ6_bitCount_0f7a4_8 : decode cJ6_bitCount_0f7a4 8 = .ok (.isub, 1) := by decide +kernel
theorem dJ6_bitCount_0f7a4_9 : decode cJ6_bitCount_0f7a4 9 = .ok (.istore_n 0, 1) := by decide +kernel
theorem dJ6_bitCount_0f7a4_10 : decode cJ6_bitCount_0f7a4 10 = .ok (.iload_n 0, 1) := by decide +kernel
theorem dJ6_bitCount_0f7a4_11 : decode cJ6_bitCount_0f7a4 11 = .ok (.ldc_w 266, 3) := by decide +kernel
theorem dJ6_bitCount_0f7a4_14 : decode cJ6_bitCount_0f7a4 14 = .ok (.iand, 1) := by decide +kernel
theorem dJ6_bitCount_0f7a4_15 : decode cJ6_bitCount_0f7a4 15 = .ok (.iload_n 0, 1) := by decide +kernel
theorem dJ6_bitCount_0f7a4_16 : decode cJ6_bitCount_0f7a4 16 = .ok (.iconst 2, 1) := by decide +kernel
theorem dJ6_bitCount_0f7a4_17 : decode cJ6_bitCount_0f7a4 17 = .ok (.iushr, 1) := by decide +kernel
theorem dJ6_bitCount_0f7a4_18 : decode cJ6_bitCount_0f7a4 18 = .ok (.ldc_w 266, 3) := by decide +kernel
theorem dJ6_bitCount_0f7a4_21 : decode cJ6_bitCount_0f7a4 21 = .ok (.iand, 1) := by decide +kernel
theorem dJ6_bitCount_0f7a4_22 : decode cJ6_bitCount_0f7a4 22 = .ok (.iadd, 1) := by decide +kernel
theorem dJ6_bitCount_0f7a4_23 : decode cJ6_bitCount_0f7a4 23 = .ok (.istore_n 0, 1) := by decide +kernel
theorem dJ6_bitCount_0f7a4_24 : decode cJ6_bitCount_0f7a4 24 = .ok (.iload_n 0, 1) := by decide +kernel
theorem dJ6_bitCount_0f7a4_25 : decode cJ6_bitCount_0f7a4 25 = .ok (.iload_n 0, 1) := by decide +kernel
theorem dJ6_bitCount_0f7a4_26 : decode cJ6_bitCount_0f7a4 26 = .ok (.iconst 4, 1) := by decide +kernel
theorem dJ6_bitCount_0f7a4_27 : decode cJ6_bitCount_0f7a4 27 = .ok (.iushr, 1) := by decide +kernel
theorem dJ6_bitCount_0f7a4_28 : decode cJ6_bitCount_0f7a4 28 = .ok (.iadd, 1) := by decide +kernel
theorem dJ6_bitCount_0f7a4_29 : decode cJ6_bitCount_0f7a4 29 = .ok (.ldc_w 267, 3) := by decide +kernel
theorem dJ6_bitCount_0f7a4_32 : decode cJ6_bitCount_0f7a4 32 = .ok (.iand, 1) := by decide +kernel
theorem dJ6_bitCount_0f7a4_33 : decode cJ6_bitCount_0f7a4 33 = .ok (.istore_n 0, 1) := by decide +kernel
theorem dJ6_bitCount_0f7a4_34 : decode cJ6_bitCount_0f7a4 34 = .ok (.iload_n 0, 1) := by decide +kernel
theorem dJ6_bitCount_0f7a4_35 : decode cJ6_bitCount_0f7a4 35 = .ok (.iload_n 0, 1) := by decide +kernel
theorem dJ6_bitCount_0f7a4_36 : decode cJ6_bitCount_0f7a4 36 = .ok (.bipush 8, 2) := by decide +kernel
theorem dJ6_bitCount_0f7a4_38 : decode cJ6_bitCount_0f7a4 38 = .ok (.iushr, 1) := by decide +kernel
theorem dJ6_bitCount_0f7a4_39 : decode cJ6_bitCount_0f7a4 39 = .ok (.iadd, 1) := by decide +kernel
theorem dJ6_bitCount_0f7a4_40 : decode cJ6_bitCount_0f7a4 40 = .ok (.istore_n 0, 1) := by decide +kernel
theorem dJ6_bitCount_0f7a4_41 : decode cJ6_bitCount_0f7a4 41 = .ok (.iload_n 0, 1) := by decide +kernel
theorem dJ6_bitCount_0f7a4_42 : decode cJ6_bitCount_0f7a4 42 = .ok (.iload_n 0, 1) := by decide +kernel
theorem dJ6_bitCount_0f7a4_43 : decode cJ6_bitCount_0f7a4 43 = .ok (.bipush 16, 2) := by decide +kernel
theorem dJ6_bitCount_0f7a4_45 : decode cJ6_bitCount_0f7a4 45 = .ok (.iushr, 1) := by decide +kernel
theorem dJ6_bitCount_0f7a4_46 : decode cJ6_bitCount_0f7a4 46 = .ok (.iadd, 1) := by decide +kernel
theorem dJ6_bitCount_0f7a4_47 : decode cJ6_bitCount_0f7a4 47 = .ok (.istore_n 0, 1) := by decide +kernel
theorem dJ6_bitCount_0f7a4_48 : decode cJ6_bitCount_0f7a4 48 = .ok (.iload_n 0, 1) := by decide +kernel
theorem dJ6_bitCount_0f7a4_49 : decode cJ6_bitCount_0f7a4 49 = .ok (.bipush 63, 2) := by decide +kernel
theorem dJ6_bitCount_0f7a4_51 : decode cJ6_bitCount_0f7a4 51 = .ok (.iand, 1) := by decide +kernel
theorem dJ6_bitCount_0f7a4_52 : decode cJ6_bitCount_0f7a4 52 = .ok (.ireturn, 1) := by decide +kernel
theorem dJ9_max_7cf53_0 : decode cJ9_max_7cf53 0 = .ok (.iload_n 0, 1) := by decide +kernel
theorem dJ9_max_7cf53_1 : decode cJ9_max_7cf53 1 = .ok (.iload_n 1, 1) := by decide +kernel
theorem dJ9_max_7cf53_2 : decode cJ9_max_7cf53 2 = .ok (.if_icmp .lt 7, 3) := by decide +kernel
theorem dJ9_max_7cf53_5 : decode cJ9_max_7cf53 5 = .ok (.iload_n 0, 1) := by decide +kernel
theorem dJ9_max_7cf53_6 : decode cJ9_max_7cf53 6 = .ok (.goto 4, 3) := by decide +kernel
theorem dJ9_max_7cf53_9 : decode cJ9_max_7cf53 9 = .ok (.iload_n 1, 1) := by decide +kernel
theorem dJ9_max_7cf53_10 : decode cJ9_max_7cf53 10 = .ok (.ireturn, 1) := by decide +kernel
theorem dJ9_min_7cf53_0 : decode cJ9_min_7cf53 0 = .ok (.iload_n 0, 1) := by decide +kernel
theorem dJ9_min_7cf53_1 : decode cJ9_min_7cf53 1 = .ok (.iload_n 1, 1) := by decide +kernel
theorem dJ9_min_7cf53_2 : decode cJ9_min_7cf53 2 = .ok (.if_icmp .gt 7, 3) := by decide +kernel
theorem dJ9_min_7cf53_5 : decode cJ9_min_7cf53 5 = .ok (.iload_n 0, 1) := by decide +kernel
theorem dJ9_min_7cf53_6 : decode cJ9_min_7cf53 6 = .ok (.goto 4, 3) := by decide +kernel
theorem dJ9_min_7cf53_9 : decode cJ9_min_7cf53 9 = .ok (.iload_n 1, 1) := by decide +kernel
theorem dJ9_min_7cf53_10 : decode cJ9_min_7cf53 10 = .ok (.ireturn, 1) := by decide +kernel
theorem dJxa1e45_init_da8c8_0 : decode cJxa1e45_init_da8c8 0 = .ok (.aload_n 0, 1) := by decide +kernel
theorem dJxa1e45_init_da8c8_1 : decode cJxa1e45_init_da8c8 1 = .ok (.invokespecial 1, 3) := by decide +kernel
theorem dJxa1e45_init_da8c8_4 : decode cJxa1e45_init_da8c8 4 = .ok (.return_, 1) := by decide +kernel
set_option maxRecDepth 20000 in
theorem ggJxc12de_init_da8c8_Jxa1e45_init_da8c8 : GoodIn wsJxc12de_init_da8c8 wsJxa1e45_init_da8c8 := goodIn_r _ [5, 6, 7, 8] (by decide +kernel) (by decide +kernel)
set_option maxRecDepth 20000 in
theorem gJxc12de_init_da8c8_Jxa1e45_init_da8c8 : GoodIn wsJxc12de_init_da8c8 (wsJxa1e45_init_da8c8) := ggJxc12de_init_da8c8_Jxa1e45_init_da8c8
theorem dJxc12de_init_da8c8_0 : decode cJxc12de_init_da8c8 0 = .ok (.aload_n 0, 1) := by decide +kernel
theorem dJxc12de_init_da8c8_1 : decode cJxc12de_init_da8c8 1 = .ok (.invokespecial 1, 3) := by decide +kernel
theorem dJxc12de_init_da8c8_4 : decode cJxc12de_init_da8c8 4 = .ok (.aload_n 0, 1) := by decide +kernel
theorem dJxc12de_init_da8c8_5 : decode cJxc12de_init_da8c8 5 = .ok (.iconst 0, 1) := by decide +kernel
theorem dJxc12de_init_da8c8_6 : decode cJxc12de_init_da8c8 6 = .ok (.putfield 7, 3) := by decide +kernel
theorem dJxc12de_init_da8c8_9 : decode cJxc12de_init_da8c8 9 = .ok (.return_, 1) := by decide +kernel
set_option maxRecDepth 20000 in
theorem ggJx4a65c_init_da8c8_Jxc12de_init_da8c8 : GoodIn wsJx4a65c_init_da8c8 wsJxc12de_init_da8c8 := goodIn_r _ [6, 7, 8, 9, 10, 11, 12, 13, 14, 15, 16, 17] (by decide +kernel) (by decide +kernel)
set_option maxRecDepth 20000 in
theorem gJx4a65c_init_da8c8_Jxc12de_init_da8c8 : GoodIn wsJx4a65c_init_da8c8 (wsJxc12de_init_da8c8) := ggJx4a65c_init_da8c8_Jxc12de_init_da8c8
theorem dJx4a65c_init_da8c8_0 : decode cJx4a65c_init_da8c8 0 = .ok (.aload_n 0, 1) := by decide +kernel
theorem dJx4a65c_init_da8c8_1 : decode cJx4a65c_init_da8c8 1 = .ok (.invokespecial 1, 3) := by decide +kernel
theorem dJx4a65c_init_da8c8_4 : decode cJx4a65c_init_da8c8 4 = .ok (.aload_n 0, 1) := by decide +kernel
theorem dJx4a65c_init_da8c8_5 : decode cJx4a65c_init_da8c8 5 = .ok (.getstatic 39, 3) := by decide +kernel
theorem dJx4a65c_init_da8c8_8 : decode cJx4a65c_init_da8c8 8 = .ok (.putfield 9, 3) := by decide +kernel
theorem dJx4a65c_init_da8c8_11 : decode cJx4a65c_init_da8c8 11 = .ok (.return_, 1) := by decide +kernel
set_option maxRecDepth 20000 in
theorem ggJx4a65c_grow_92f84_J8_newLength_cabcc : GoodIn wsJx4a65c_grow_92f84 wsJ8_newLength_cabcc := goodIn_r _ [11, 12, 4, 5, 6, 13, 14, 15, 10, 16] (by decide +kernel) (by decide +kernel)
set_option maxRecDepth 20000 in
theorem gJx4a65c_grow_92f84_J8_newLength_cabcc : GoodIn wsJx4a65c_grow_92f84 (va_wsS RJx4a65c 73 yJ8_newLength_cabcc wsJ8_newLength_cabcc) := goodIn_app (goodIn_of _ (by decide +kernel)) ggJx4a65c_grow_92f84_J8_newLength_cabcc
set_option maxRecDepth 20000 in
theorem ggJx4a65c_grow_92f84_J7_copyOf_1904c : GoodIn wsJx4a65c_grow_92f84 wsJ7_copyOf_1904c := goodIn_r _ [20, 21, 22, 23, 24, 25, 26, 19, 27, 28, 29, 30, 31, 5, 32, 33, 34, 35, 36] (by decide +kernel) (by decide +kernel)
set_option maxRecDepth 20000 in
theorem gJx4a65c_grow_92f84_J7_copyOf_1904c : GoodIn wsJx4a65c_grow_92f84 (va_wsS RJx4a65c 66 yJ7_copyOf_1904c wsJ7_copyOf_1904c) := goodIn_app (goodIn_of _ (by decide +kernel)) ggJx4a65c_grow_92f84_J7_copyOf_1904c
theorem dJx4a65c_grow_92f84_0 : decode cJx4a65c_grow_92f84 0 = .ok (.aload_n 0, 1) := by decide +kernel
theorem dJx4a65c_grow_92f84_1 : decode cJx4a65c_grow_92f84 1 = .ok (.getfield 9, 3) := by decide +kernel
theorem dJx4a65c_grow_92f84_4 : decode cJx4a65c_grow_92f84 4 = .ok (.arraylength, 1) := by decide +kernel
theorem dJx4a65c_grow_92f84_5 : decode cJx4a65c_grow_92f84 5 = .ok (.istore_n 2, 1) := by decide +kernel
theorem dJx4a65c_grow_92f84_6 : decode cJx4a65c_grow_92f84 6 = .ok (.iload_n 2, 1) := by decide +kernel
theorem dJx4a65c_grow_92f84_7 : decode cJx4a65c_grow_92f84 7 = .ok (.ifCond .gt 13, 3) := by decide +kernel
theorem dJx4a65c_grow_92f84_10 : decode cJx4a65c_grow_92f84 10 = .ok (.aload_n 0, 1) := by decide +kernel
theorem dJx4a65c_grow_92f84_11 : decode cJx4a65c_grow_92f84 11 = .ok (.getfield 9, 3) := by decide +kernel
theorem dJx4a65c_grow_92f84_14 : decode cJx4a65c_grow_92f84 14 = .ok (.getstatic 39, 3) := by decide +kernel
theorem dJx4a65c_grow_92f84_17 : decode cJx4a65c_grow_92f84 17 = .ok (.if_acmp .eq 28, 3) := by decide +kernel
theorem dJx4a65c_grow_92f84_20 : decode cJx4a65c_grow_92f84 20 = .ok (.iload_n 2, 1) := by decide +kernel
theorem dJx4a65c_grow_92f84_21 : decode cJx4a65c_grow_92f84 21 = .ok (.iload_n 1, 1) := by decide +kernel
theorem dJx4a65c_grow_92f84_22 : decode cJx4a65c_grow_92f84 22 = .ok (.iload_n 2, 1) := by decide +kernel
theorem dJx4a65c_grow_92f84_23 : decode cJx4a65c_grow_92f84 23 = .ok (.isub, 1) := by decide +kernel
theorem dJx4a65c_grow_92f84_24 : decode cJx4a65c_grow_92f84 24 = .ok (.iload_n 2, 1) := by decide +kernel
theorem dJx4a65c_grow_92f84_25 : decode cJx4a65c_grow_92f84 25 = .ok (.iconst 1, 1) := by decide +kernel
theorem dJx4a65c_grow_92f84_26 : decode cJx4a65c_grow_92f84 26 = .ok (.ishr, 1) := by decide +kernel
theorem dJx4a65c_grow_92f84_27 : decode cJx4a65c_grow_92f84 27 = .ok (.invokestatic 73, 3) := by decide +kernel
theorem dJx4a65c_grow_92f84_30 : decode cJx4a65c_grow_92f84 30 = .ok (.istore_n 3, 1) := by decide +kernel
theorem dJx4a65c_grow_92f84_31 : decode cJx4a65c_grow_92f84 31 = .ok (.aload_n 0, 1) := by decide +kernel
theorem dJx4a65c_grow_92f84_32 : decode cJx4a65c_grow_92f84 32 = .ok (.aload_n 0, 1) := by decide +kernel
theorem dJx4a65c_grow_92f84_33 : decode cJx4a65c_grow_92f84 33 = .ok (.getfield 9, 3) := by decide +kernel
theorem dJx4a65c_grow_92f84_36 : decode cJx4a65c_grow_92f84 36 = .ok (.iload_n 3, 1) := by decide +kernel
theorem dJx4a65c_grow_92f84_37 : decode cJx4a65c_grow_92f84 37 = .ok (.invokestatic 66, 3) := by decide +kernel
theorem dJx4a65c_grow_92f84_40 : decode cJx4a65c_grow_92f84 40 = .ok (.dup_x1, 1) := by decide +kernel
theorem dJx4a65c_grow_92f84_41 : decode cJx4a65c_grow_92f84 41 = .ok (.putfield 9, 3) := by decide +kernel
theorem dJx4a65c_grow_92f84_44 : decode cJx4a65c_grow_92f84 44 = .ok (.areturn, 1) := by decide +kernel
theorem dJx4a65c_grow_92f84_45 : decode cJx4a65c_grow_92f84 45 = .ok (.aload_n 0, 1) := by decide +kernel
theorem dJx4a65c_grow_92f84_46 : decode cJx4a65c_grow_92f84 46 = .ok (.bipush 10, 2) := by decide +kernel
theorem dJx4a65c_grow_92f84_48 : decode cJx4a65c_grow_92f84 48 = .ok (.iload_n 1, 1) := by decide +kernel
theorem dJx4a65c_grow_92f84_49 : decode cJx4a65c_grow_92f84 49 = .ok (.invokestatic 79, 3) := by decide +kernel
theorem dJx4a65c_grow_92f84_52 : decode cJx4a65c_grow_92f84 52 = .ok (.anewarray 7, 3) := by decide +kernel
theorem dJx4a65c_grow_92f84_55 : decode cJx4a65c_grow_92f84 55 = .ok (.dup_x1, 1) := by decide +kernel
theorem dJx4a65c_grow_92f84_56 : decode cJx4a65c_grow_92f84 56 = .ok (.putfield 9, 3) := by decide +kernel
theorem dJx4a65c_grow_92f84_59 : decode cJx4a65c_grow_92f84 59 = .ok (.areturn, 1) := by decide +kernel
set_option maxRecDepth 20000 in
theorem ggJx4a65c_grow_d5877_Jx4a65c_grow_92f84 : GoodIn wsJx4a65c_grow_d5877 wsJx4a65c_grow_92f84 := goodIn_r _ [6, 7, 8, 9, 10, 11, 12, 13, 14, 15, 16, 17, 18, 19, 20, 21, 22, 23, 24, 25, 26, 27, 28, 29, 30, 31, 32, 33, 34, 35, 36, 37, 38, 39, 40, 41, 42, 43, 44, 45] (by decide +kernel) (by decide +kernel)
set_option maxRecDepth 20000 in
theorem gJx4a65c_grow_d5877_Jx4a65c_grow_92f84 : GoodIn wsJx4a65c_grow_d5877 (wsV RJx4a65c 69 RJx4a65c yJx4a65c_grow_92f84 wsJx4a65c_grow_92f84) := goodIn_app (goodIn_of _ (by decide +kernel)) ggJx4a65c_grow_d5877_Jx4a65c_grow_92f84
theorem dJx4a65c_grow_d5877_0 : decode cJx4a65c_grow_d5877 0 = .ok (.aload_n 0, 1) := by decide +kernel
theorem dJx4a65c_grow_d5877_1 : decode cJx4a65c_grow_d5877 1 = .ok (.aload_n 0, 1) := by decide +kernel
theorem dJx4a65c_grow_d5877_2 : decode cJx4a65c_grow_d5877 2 = .ok (.getfield 48, 3) := by decide +kernel
theorem dJx4a65c_grow_d5877_5 : decode cJx4a65c_grow_d5877 5 = .ok (.iconst 1, 1) := by decide +kernel
theorem dJx4a65c_grow_d5877_6 : decode cJx4a65c_grow_d5877 6 = .ok (.iadd, 1) := by decide +kernel
theorem dJx4a65c_grow_d5877_7 : decode cJx4a65c_grow_d5877 7 = .ok (.invokevirtual 69, 3) := by decide +kernel
theorem dJx4a65c_grow_d5877_10 : decode cJx4a65c_grow_d5877 10 = .ok (.areturn, 1) := by decide +kernel
theorem dJx4a65c_size_8abf5_0 : decode cJx4a65c_size_8abf5 0 = .ok (.aload_n 0, 1) := by decide +kernel
theorem dJx4a65c_size_8abf5_1 : decode cJx4a65c_size_8abf5 1 = .ok (.getfield 48, 3) := by decide +kernel
theorem dJx4a65c_size_8abf5_4 : decode cJx4a65c_size_8abf5 4 = .ok (.ireturn, 1) := by decide +kernel
theorem dJx4a65c_elementData_915e3_0 : decode cJx4a65c_elementData_915e3 0 = .ok (.aload_n 0, 1) := by decide +kernel
theorem dJx4a65c_elementData_915e3_1 : decode cJx4a65c_elementData_915e3 1 = .ok (.getfield 9, 3) := by decide +kernel
theorem dJx4a65c_elementData_915e3_4 : decode cJx4a65c_elementData_915e3 4 = .ok (.iload_n 1, 1) := by decide +kernel
theorem dJx4a65c_elementData_915e3_5 : decode cJx4a65c_elementData_915e3 5 = .ok (.aaload, 1) := by decide +kernel
theorem dJx4a65c_elementData_915e3_6 : decode cJx4a65c_elementData_915e3 6 = .ok (.areturn, 1) := by decide +kernel
set_option maxRecDepth 20000 in
theorem ggJx4a65c_get_915e3_J15_checkIndex_7cf53 : GoodIn wsJx4a65c_get_915e3 wsJ15_checkIndex_7cf53 := goodIn_r _ [5, 6, 7, 8, 9] (by decide +kernel) (by decide +kernel)
set_option maxRecDepth 20000 in
theorem gJx4a65c_get_915e3_J15_checkIndex_7cf53 : GoodIn wsJx4a65c_get_915e3 (va_wsS RJx4a65c 118 yJ15_checkIndex_7cf53 wsJ15_checkIndex_7cf53) := goodIn_app (goodIn_of _ (by decide +kernel)) ggJx4a65c_get_915e3_J15_checkIndex_7cf53
set_option maxRecDepth 20000 in
theorem ggJx4a65c_get_915e3_Jx4a65c_elementData_915e3 : GoodIn wsJx4a65c_get_915e3 wsJx4a65c_elementData_915e3 := goodIn_r _ [14, 15, 16, 17, 18] (by decide +kernel) (by decide +kernel)
set_option maxRecDepth 20000 in
theorem gJx4a65c_get_915e3_Jx4a65c_elementData_915e3 : GoodIn wsJx4a65c_get_915e3 (wsV RJx4a65c 123 RJx4a65c yJx4a65c_elementData_915e3 wsJx4a65c_elementData_915e3) := goodIn_app (goodIn_of _ (by decide +kernel)) ggJx4a65c_get_915e3_Jx4a65c_elementData_915e3
theorem dJx4a65c_get_915e3_0 : decode cJx4a65c_get_915e3 0 = .ok (.iload_n 1, 1) := by decide +kernel
theorem dJx4a65c_get_915e3_1 : decode cJx4a65c_get_915e3 1 = .ok (.aload_n 0, 1) := by decide +kernel
theorem dJx4a65c_get_915e3_2 : decode cJx4a65c_get_915e3 2 = .ok (.getfield 48, 3) := by decide +kernel
theorem dJx4a65c_get_915e3_5 : decode cJx4a65c_get_915e3 5 = .ok (.invokestatic 118, 3) := by decide +kernel
theorem dJx4a65c_get_915e3_8 : decode cJx4a65c_get_915e3 8 = .ok (.pop, 1) := by decide +kernel
theorem dJx4a65c_get_915e3_9 : decode cJx4a65c_get_915e3 9 = .ok (.aload_n 0, 1) := by decide +kernel
theorem dJx4a65c_get_915e3_10 : decode cJx4a65c_get_915e3 10 = .ok (.iload_n 1, 1) := by decide +kernel
theorem dJx4a65c_get_915e3_11 : decode cJx4a65c_get_915e3 11 = .ok (.invokevirtual 123, 3) := by decide +kernel
theorem dJx4a65c_get_915e3_14 : decode cJx4a65c_get_915e3 14 = .ok (.areturn, 1) := by decide +kernel
set_option maxRecDepth 20000 in
theorem ggJx4a65c_add_72be8_Jx4a65c_grow_d5877 : GoodIn wsJx4a65c_add_72be8 wsJx4a65c_grow_d5877 := goodIn_r _ [6, 1, 7, 8, 9, 5, 10, 11, 12, 13, 14, 15, 16, 17, 18, 19, 20, 21, 22, 23, 24, 25, 26, 27, 28, 29, 30, 31, 32, 33, 34, 35, 36, 37, 38, 39, 40, 41, 42, 43, 44, 45, 46, 47, 48, 49] (by decide +kernel) (by decide +kernel)
set_option maxRecDepth 20000 in
theorem gJx4a65c_add_72be8_Jx4a65c_grow_d5877 : GoodIn wsJx4a65c_add_72be8 (wsV RJx4a65c 129 RJx4a65c yJx4a65c_grow_d5877 wsJx4a65c_grow_d5877) := goodIn_app (goodIn_of _ (by decide +kernel)) ggJx4a65c_add_72be8_Jx4a65c_grow_d5877
theorem dJx4a65c_add_72be8_0 : decode cJx4a65c_add_72be8 0 = .ok (.iload_n 3, 1) := by decide +kernel
theorem dJx4a65c_add_72be8_1 : decode cJx4a65c_add_72be8 1 = .ok (.aload_n 2, 1) := by decide +kernel
theorem dJx4a65c_add_72be8_2 : decode cJx4a65c_add_72be8 2 = .ok (.arraylength, 1) := by decide +kernel
theorem dJx4a65c_add_72be8_3 : decode cJx4a65c_add_72be8 3 = .ok (.if_icmp .ne 8, 3) := by decide +kernel
theorem dJx4a65c_add_72be8_6 : decode cJx4a65c_add_72be8 6 = .ok (.aload_n 0, 1) := by decide +kernel
theorem dJx4a65c_add_72be8_7 : decode cJx4a65c_add_72be8 7 = .ok (.invokevirtual 129, 3) := by decide +kernel
theorem dJx4a65c_add_72be8_10 : decode cJx4a65c_add_72be8 10 = .ok (.astore_n 2, 1) := by decide +kernel
theorem dJx4a65c_add_72be8_11 : decode cJx4a65c_add_72be8 11 = .ok (.aload_n 2, 1) := by decide +kernel
theorem dJx4a65c_add_72be8_12 : decode cJx4a65c_add_72be8 12 = .ok (.iload_n 3, 1) := by decide +kernel
theorem dJx4a65c_add_72be8_13 : decode cJx4a65c_add_72be8 13 = .ok (.aload_n 1, 1) := by decide +kernel
theorem dJx4a65c_add_72be8_14 : decode cJx4a65c_add_72be8 14 = .ok (.aastore, 1) := by decide +kernel
theorem dJx4a65c_add_72be8_15 : decode cJx4a65c_add_72be8 15 = .ok (.aload_n 0, 1) := by decide +kernel
theorem dJx4a65c_add_72be8_16 : decode cJx4a65c_add_72be8 16 = .ok (.iload_n 3, 1) := by decide +kernel
theorem dJx4a65c_add_72be8_17 : decode cJx4a65c_add_72be8 17 = .ok (.iconst 1, 1) := by decide +kernel
theorem dJx4a65c_add_72be8_18 : decode cJx4a65c_add_72be8 18 = .ok (.iadd, 1) := by decide +kernel
theorem dJx4a65c_add_72be8_19 : decode cJx4a65c_add_72be8 19 = .ok (.putfield 48, 3) := by decide +kernel
theorem dJx4a65c_add_72be8_22 : decode cJx4a65c_add_72be8 22 = .ok (.return_, 1) := by decide +kernel
set_option maxRecDepth 20000 in
theorem ggJx4a65c_add_9ea2d_Jx4a65c_add_72be8 : GoodIn wsJx4a65c_add_9ea2d wsJx4a65c_add_72be8 := goodIn_r _ [9, 4, 10, 11, 12, 8, 13, 14, 15, 16, 17, 3, 18, 19, 20, 21, 22, 23, 24, 25, 26, 27, 28, 29, 30, 31, 32, 33, 34, 35, 36, 37, 38, 39, 40, 41, 42, 43, 44, 45, 46, 47, 48, 49, 50, 51, 52, 53, 54, 55] (by decide +kernel) (by decide +kernel)
set_option maxRecDepth 20000 in
theorem gJx4a65c_add_9ea2d_Jx4a65c_add_72be8 : GoodIn wsJx4a65c_add_9ea2d (wsV RJx4a65c 131 RJx4a65c yJx4a65c_add_72be8 wsJx4a65c_add_72be8) := goodIn_app (goodIn_of _ (by decide +kernel)) ggJx4a65c_add_9ea2d_Jx4a65c_add_72be8
theorem dJx4a65c_add_9ea2d_0 : decode cJx4a65c_add_9ea2d 0 = .ok (.aload_n 0, 1) := by decide +kernel
theorem dJx4a65c_add_9ea2d_1 : decode cJx4a65c_add_9ea2d 1 = .ok (.dup, 1) := by decide +kernel
theorem dJx4a65c_add_9ea2d_2 : decode cJx4a65c_add_9ea2d 2 = .ok (.getfield 63, 3) := by decide +kernel
theorem dJx4a65c_add_9ea2d_5 : decode cJx4a65c_add_9ea2d 5 = .ok (.iconst 1, 1) := by decide +kernel
theorem dJx4a65c_add_9ea2d_6 : decode cJx4a65c_add_9ea2d 6 = .ok (.iadd, 1) := by decide +kernel
theorem dJx4a65c_add_9ea2d_7 : decode cJx4a65c_add_9ea2d 7 = .ok (.putfield 63, 3) := by decide +kernel
theorem dJx4a65c_add_9ea2d_10 : decode cJx4a65c_add_9ea2d 10 = .ok (.aload_n 0, 1) := by decide +kernel
theorem dJx4a65c_add_9ea2d_11 : decode cJx4a65c_add_9ea2d 11 = .ok (.aload_n 1, 1) := by decide +kernel
theorem dJx4a65c_add_9ea2d_12 : decode cJx4a65c_add_9ea2d 12 = .ok (.aload_n 0, 1) := by decide +kernel
theorem dJx4a65c_add_9ea2d_13 : decode cJx4a65c_add_9ea2d 13 = .ok (.getfield 9, 3) := by decide +kernel
theorem dJx4a65c_add_9ea2d_16 : decode cJx4a65c_add_9ea2d 16 = .ok (.aload_n 0, 1) := by decide +kernel
theorem dJx4a65c_add_9ea2d_17 : decode cJx4a65c_add_9ea2d 17 = .ok (.getfield 48, 3) := by decide +kernel
theorem dJx4a65c_add_9ea2d_20 : decode cJx4a65c_add_9ea2d 20 = .ok (.invokevirtual 131, 3) := by decide +kernel
theorem dJx4a65c_add_9ea2d_23 : decode cJx4a65c_add_9ea2d 23 = .ok (.iconst 1, 1) := by decide +kernel
theorem dJx4a65c_add_9ea2d_24 : decode cJx4a65c_add_9ea2d 24 = .ok (.ireturn, 1) := by decide +kernel
theorem dJ7_fill_53178_0 : decode cJ7_fill_53178 0 = .ok (.iconst 0, 1) := by decide +kernel
theorem dJ7_fill_53178_1 : decode cJ7_fill_53178 1 = .ok (.istore_n 2, 1) := by decide +kernel
theorem dJ7_fill_53178_2 : decode cJ7_fill_53178 2 = .ok (.aload_n 0, 1) := by decide +kernel
theorem dJ7_fill_53178_3 : decode cJ7_fill_53178 3 = .ok (.arraylength, 1) := by decide +kernel
theorem dJ7_fill_53178_4 : decode cJ7_fill_53178 4 = .ok (.istore_n 3, 1) := by decide +kernel
theorem dJ7_fill_53178_5 : decode cJ7_fill_53178 5 = .ok (.iload_n 2, 1) := by decide +kernel
theorem dJ7_fill_53178_6 : decode cJ7_fill_53178 6 = .ok (.iload_n 3, 1) := by decide +kernel
theorem dJ7_fill_53178_7 : decode cJ7_fill_53178 7 = .ok (.if_icmp .ge 13, 3) := by decide +kernel
theorem dJ7_fill_53178_10 : decode cJ7_fill_53178 10 = .ok (.aload_n 0, 1) := by decide +kernel
theorem dJ7_fill_53178_11 : decode cJ7_fill_53178 11 = .ok (.iload_n 2, 1) := by decide +kernel
theorem dJ7_fill_53178_12 : decode cJ7_fill_53178 12 = .ok (.iload_n 1, 1) := by decide +kernel
theorem dJ7_fill_53178_13 : decode cJ7_fill_53178 13 = .ok (.iastore, 1) := by decide +kernel
theorem dJ7_fill_53178_14 : decode cJ7_fill_53178 14 = .ok (.iinc 2 1, 3) := by decide +kernel
theorem dJ7_fill_53178_17 : decode cJ7_fill_53178 17 = .ok (.goto (-12), 3) := by decide +kernel
theorem dJ7_fill_53178_20 : decode cJ7_fill_53178 20 = .ok (.return_, 1) := by decide +kernel
set_option maxRecDepth 20000 in
theorem ggJ7_copyOf_1904c_J7_copyOf_6403c : GoodIn wsJ7_copyOf_1904c wsJ7_copyOf_6403c := goodIn_r _ [8, 9, 10, 11, 12, 13, 14, 15, 16, 17, 18] (by decide +kernel) (by decide +kernel)
set_option maxRecDepth 20000 in
theorem gJ7_copyOf_1904c_J7_copyOf_6403c : GoodIn wsJ7_copyOf_1904c (va_wsS RJ7 300 yJ7_copyOf_6403c wsJ7_copyOf_6403c) := goodIn_app (goodIn_of _ (by decide +kernel)) ggJ7_copyOf_1904c_J7_copyOf_6403c
theorem dJ7_copyOf_1904c_0 : decode cJ7_copyOf_1904c 0 = .ok (.aload_n 0, 1) := by decide +kernel
theorem dJ7_copyOf_1904c_1 : decode cJ7_copyOf_1904c 1 = .ok (.iload_n 1, 1) := by decide +kernel
theorem dJ7_copyOf_1904c_2 : decode cJ7_copyOf_1904c 2 = .ok (.aload_n 0, 1) := by decide +kernel
theorem dJ7_copyOf_1904c_3 : decode cJ7_copyOf_1904c 3 = .ok (.invokevirtual 86, 3) := by decide +kernel
theorem dJ7_copyOf_1904c_6 : decode cJ7_copyOf_1904c 6 = .ok (.invokestatic 300, 3) := by decide +kernel
theorem dJ7_copyOf_1904c_9 : decode cJ7_copyOf_1904c 9 = .ok (.areturn, 1) := by decide +kernel
theorem dJ7_copyOf_6403c_0 : decode cJ7_copyOf_6403c 0 = .ok (.aload_n 2, 1) := by decide +kernel
theorem dJ7_copyOf_6403c_1 : decode cJ7_copyOf_6403c 1 = .ok (.ldc 110, 2) := by decide +kernel
theorem dJ7_copyOf_6403c_3 : decode cJ7_copyOf_6403c 3 = .ok (.if_acmp .ne 10, 3) := by decide +kernel
theorem dJ7_copyOf_6403c_6 : decode cJ7_copyOf_6403c 6 = .ok (.iload_n 1, 1) := by decide +kernel
theorem dJ7_copyOf_6403c_7 : decode cJ7_copyOf_6403c 7 = .ok (.anewarray 2, 3) := by decide +kernel
theorem dJ7_copyOf_6403c_10 : decode cJ7_copyOf_6403c 10 = .ok (.goto 14, 3) := by decide +kernel
theorem dJ7_copyOf_6403c_13 : decode cJ7_copyOf_6403c 13 = .ok (.aload_n 2, 1) := by decide +kernel
theorem dJ7_copyOf_6403c_14 : decode cJ7_copyOf_6403c 14 = .ok (.invokevirtual 90, 3) := by decide +kernel
theorem dJ7_copyOf_6403c_17 : decode cJ7_copyOf_6403c 17 = .ok (.iload_n 1, 1) := by decide +kernel
theorem dJ7_copyOf_6403c_18 : decode cJ7_copyOf_6403c 18 = .ok (.invokestatic 95, 3) := by decide +kernel
theorem dJ7_copyOf_6403c_21 : decode cJ7_copyOf_6403c 21 = .ok (.checkcast 110, 3) := by decide +kernel
theorem dJ7_copyOf_6403c_24 : decode cJ7_copyOf_6403c 24 = .ok (.astore_n 3, 1) := by decide +kernel
theorem dJ7_copyOf_6403c_25 : decode cJ7_copyOf_6403c 25 = .ok (.aload_n 0, 1) := by decide +kernel
theorem dJ7_copyOf_6403c_26 : decode cJ7_copyOf_6403c 26 = .ok (.iconst 0, 1) := by decide +kernel
theorem dJ7_copyOf_6403c_27 : decode cJ7_copyOf_6403c 27 = .ok (.aload_n 3, 1) := by decide +kernel
theorem dJ7_copyOf_6403c_28 : decode cJ7_copyOf_6403c 28 = .ok (.iconst 0, 1) := by decide +kernel
theorem dJ7_copyOf_6403c_29 : decode cJ7_copyOf_6403c 29 = .ok (.aload_n 0, 1) := by decide +kernel
theorem dJ7_copyOf_6403c_30 : decode cJ7_copyOf_6403c 30 = .ok (.arraylength, 1) := by decide +kernel
theorem dJ7_copyOf_6403c_31 : decode cJ7_copyOf_6403c 31 = .ok (.iload_n 1, 1) := by decide +kernel
theorem dJ7_copyOf_6403c_32 : decode cJ7_copyOf_6403c 32 = .ok (.invokestatic 304, 3) := by decide +kernel
theorem dJ7_copyOf_6403c_35 : decode cJ7_copyOf_6403c 35 = .ok (.invokestatic 150, 3) := by decide +kernel
theorem dJ7_copyOf_6403c_38 : decode cJ7_copyOf_6403c 38 = .ok (.aload_n 3, 1) := by decide +kernel
theorem dJ7_copyOf_6403c_39 : decode cJ7_copyOf_6403c 39 = .ok (.areturn, 1) := by decide +kernel
set_option maxRecDepth 20000 in
theorem ggJ15_checkIndex_7cf53_J3_checkIndex_8e157 : GoodIn wsJ15_checkIndex_7cf53 wsJ3_checkIndex_8e157 := goodIn_r _ [4] (by decide +kernel) (by decide +kernel)
set_option maxRecDepth 20000 in
theorem gJ15_checkIndex_7cf53_J3_checkIndex_8e157 : GoodIn wsJ15_checkIndex_7cf53 (va_wsS RJ15 105 yJ3_checkIndex_8e157 wsJ3_checkIndex_8e157) := goodIn_app (goodIn_of _ (by decide +kernel)) ggJ15_checkIndex_7cf53_J3_checkIndex_8e157
theorem dJ15_checkIndex_7cf53_0 : decode cJ15_checkIndex_7cf53 0 = .ok (.iload_n 0, 1) := by decide +kernel
theorem dJ15_checkIndex_7cf53_1 : decode cJ15_checkIndex_7cf53 1 = .ok (.iload_n 1, 1) := by decide +kernel
theorem dJ15_checkIndex_7cf53_2 : decode cJ15_checkIndex_7cf53 2 = .ok (.aconst_null, 1) := by decide +kernel
theorem dJ15_checkIndex_7cf53_3 : decode cJ15_checkIndex_7cf53 3 = .ok (.invokestatic 105, 3) := by decide +kernel
theorem dJ15_checkIndex_7cf53_6 : decode cJ15_checkIndex_7cf53 6 = .ok (.ireturn, 1) := by decide +kernel
set_option maxRecDepth 20000 in
theorem ggJ8_newLength_cabcc_J8_hugeLength_7cf53 : GoodIn wsJ8_newLength_cabcc wsJ8_hugeLength_7cf53 := goodIn_r _ [9, 5] (by decide +kernel) (by decide +kernel)
set_option maxRecDepth 20000 in
theorem gJ8_newLength_cabcc_J8_hugeLength_7cf53 : GoodIn wsJ8_newLength_cabcc (va_wsS RJ8 201 yJ8_hugeLength_7cf53 wsJ8_hugeLength_7cf53) := goodIn_app (goodIn_of _ (by decide +kernel)) ggJ8_newLength_cabcc_J8_hugeLength_7cf53
theorem dJ8_newLength_cabcc_0 : decode cJ8_newLength_cabcc 0 = .ok (.iload_n 0, 1) := by decide +kernel
theorem dJ8_newLength_cabcc_1 : decode cJ8_newLength_cabcc 1 = .ok (.iload_n 1, 1) := by decide +kernel
theorem dJ8_newLength_cabcc_2 : decode cJ8_newLength_cabcc 2 = .ok (.iload_n 2, 1) := by decide +kernel
theorem dJ8_newLength_cabcc_3 : decode cJ8_newLength_cabcc 3 = .ok (.invokestatic 194, 3) := by decide +kernel
theorem dJ8_newLength_cabcc_6 : decode cJ8_newLength_cabcc 6 = .ok (.iadd, 1) := by decide +kernel
theorem dJ8_newLength_cabcc_7 : decode cJ8_newLength_cabcc 7 = .ok (.istore_n 3, 1) := by decide +kernel
theorem dJ8_newLength_cabcc_8 : decode cJ8_newLength_cabcc 8 = .ok (.iconst 0, 1) := by decide +kernel
theorem dJ8_newLength_cabcc_9 : decode cJ8_newLength_cabcc 9 = .ok (.iload_n 3, 1) := by decide +kernel
theorem dJ8_newLength_cabcc_10 : decode cJ8_newLength_cabcc 10 = .ok (.if_icmp .ge 11, 3) := by decide +kernel
theorem dJ8_newLength_cabcc_13 : decode cJ8_newLength_cabcc 13 = .ok (.iload_n 3, 1) := by decide +kernel
theorem dJ8_newLength_cabcc_14 : decode cJ8_newLength_cabcc 14 = .ok (.ldc 200, 2) := by decide +kernel
theorem dJ8_newLength_cabcc_16 : decode cJ8_newLength_cabcc 16 = .ok (.if_icmp .gt 5, 3) := by decide +kernel
theorem dJ8_newLength_cabcc_19 : decode cJ8_newLength_cabcc 19 = .ok (.iload_n 3, 1) := by decide +kernel
theorem dJ8_newLength_cabcc_20 : decode cJ8_newLength_cabcc 20 = .ok (.ireturn, 1) := by decide +kernel
theorem dJ8_newLength_cabcc_21 : decode cJ8_newLength_cabcc 21 = .ok (.iload_n 0, 1) := by decide +kernel
theorem dJ8_newLength_cabcc_22 : decode cJ8_newLength_cabcc 22 = .ok (.iload_n 1, 1) := by decide +kernel
theorem dJ8_newLength_cabcc_23 : decode cJ8_newLength_cabcc 23 = .ok (.invokestatic 201, 3) := by decide +kernel
theorem dJ8_newLength_cabcc_26 : decode cJ8_newLength_cabcc 26 = .ok (.ireturn, 1) := by decide +kernel
theorem dJ8_hugeLength_7cf53_0 : decode cJ8_hugeLength_7cf53 0 = .ok (.iload_n 0, 1) := by decide +kernel
theorem dJ8_hugeLength_7cf53_1 : decode cJ8_hugeLength_7cf53 1 = .ok (.iload_n 1, 1) := by decide +kernel
theorem dJ8_hugeLength_7cf53_2 : decode cJ8_hugeLength_7cf53 2 = .ok (.iadd, 1) := by decide +kernel
theorem dJ8_hugeLength_7cf53_3 : decode cJ8_hugeLength_7cf53 3 = .ok (.istore_n 2, 1) := by decide +kernel
theorem dJ8_hugeLength_7cf53_4 : decode cJ8_hugeLength_7cf53 4 = .ok (.iload_n 2, 1) := by decide +kernel
theorem dJ8_hugeLength_7cf53_5 : decode cJ8_hugeLength_7cf53 5 = .ok (.ifCond .ge 44, 3) := by decide +kernel
theorem dJ8_hugeLength_7cf53_8 : decode cJ8_hugeLength_7cf53 8 = .ok (.new 204, 3) := by decide +kernel
theorem dJ8_hugeLength_7cf53_11 : decode cJ8_hugeLength_7cf53 11 = .ok (.dup, 1) := by decide +kernel
theorem dJ8_hugeLength_7cf53_12 : decode cJ8_hugeLength_7cf53 12 = .ok (.new 89, 3) := by decide +kernel
theorem dJ8_hugeLength_7cf53_15 : decode cJ8_hugeLength_7cf53 15 = .ok (.dup, 1) := by decide +kernel
theorem dJ8_hugeLength_7cf53_16 : decode cJ8_hugeLength_7cf53 16 = .ok (.invokespecial 91, 3) := by decide +kernel
theorem dJ8_hugeLength_7cf53_19 : decode cJ8_hugeLength_7cf53 19 = .ok (.ldc 206, 2) := by decide +kernel
theorem dJ8_hugeLength_7cf53_21 : decode cJ8_hugeLength_7cf53 21 = .ok (.invokevirtual 94, 3) := by decide +kernel
theorem dJ8_hugeLength_7cf53_24 : decode cJ8_hugeLength_7cf53 24 = .ok (.iload_n 0, 1) := by decide +kernel
theorem dJ8_hugeLength_7cf53_25 : decode cJ8_hugeLength_7cf53 25 = .ok (.invokevirtual 98, 3) := by decide +kernel
theorem dJ8_hugeLength_7cf53_28 : decode cJ8_hugeLength_7cf53 28 = .ok (.ldc 208, 2) := by decide +kernel
theorem dJ8_hugeLength_7cf53_30 : decode cJ8_hugeLength_7cf53 30 = .ok (.invokevirtual 94, 3) := by decide +kernel
theorem dJ8_hugeLength_7cf53_33 : decode cJ8_hugeLength_7cf53 33 = .ok (.iload_n 1, 1) := by decide +kernel
theorem dJ8_hugeLength_7cf53_34 : decode cJ8_hugeLength_7cf53 34 = .ok (.invokevirtual 98, 3) := by decide +kernel
theorem dJ8_hugeLength_7cf53_37 : decode cJ8_hugeLength_7cf53 37 = .ok (.ldc 210, 2) := by decide +kernel
theorem dJ8_hugeLength_7cf53_39 : decode cJ8_hugeLength_7cf53 39 = .ok (.invokevirtual 94, 3) := by decide +kernel
theorem dJ8_hugeLength_7cf53_42 : decode cJ8_hugeLength_7cf53 42 = .ok (.invokevirtual 101, 3) := by decide +kernel
theorem dJ8_hugeLength_7cf53_45 : decode cJ8_hugeLength_7cf53 45 = .ok (.invokespecial 212, 3) := by decide +kernel
theorem dJ8_hugeLength_7cf53_48 : decode cJ8_hugeLength_7cf53 48 = .ok (.athrow, 1) := by decide +kernel
theorem dJ8_hugeLength_7cf53_49 : decode cJ8_hugeLength_7cf53 49 = .ok (.iload_n 2, 1) := by decide +kernel
theorem dJ8_hugeLength_7cf53_50 : decode cJ8_hugeLength_7cf53 50 = .ok (.ldc 200, 2) := by decide +kernel
theorem dJ8_hugeLength_7cf53_52 : decode cJ8_hugeLength_7cf53 52 = .ok (.if_icmp .gt 6, 3) := by decide +kernel
theorem dJ8_hugeLength_7cf53_55 : decode cJ8_hugeLength_7cf53 55 = .ok (.ldc 200, 2) := by decide +kernel
theorem dJ8_hugeLength_7cf53_57 : decode cJ8_hugeLength_7cf53 57 = .ok (.ireturn, 1) := by decide +kernel
theorem dJ8_hugeLength_7cf53_58 : decode cJ8_hugeLength_7cf53 58 = .ok (.iload_n 2, 1) := by decide +kernel
theorem dJ8_hugeLength_7cf53_59 : decode cJ8_hugeLength_7cf53 59 = .ok (.ireturn, 1) := by decide +kernel
theorem dJ3_checkIndex_8e157_0 : decode cJ3_checkIndex_8e157 0 = .ok (.iload_n 0, 1) := by decide +kernel
theorem dJ3_checkIndex_8e157_1 : decode cJ3_checkIndex_8e157 1 = .ok (.ifCond .lt 8, 3) := by decide +kernel
theorem dJ3_checkIndex_8e157_4 : decode cJ3_checkIndex_8e157 4 = .ok (.iload_n 0, 1) := by decide +kernel
theorem dJ3_checkIndex_8e157_5 : decode cJ3_checkIndex_8e157 5 = .ok (.iload_n 1, 1) := by decide +kernel
theorem dJ3_checkIndex_8e157_6 : decode cJ3_checkIndex_8e157 6 = .ok (.if_icmp .lt 10, 3) := by decide +kernel
theorem dJ3_checkIndex_8e157_9 : decode cJ3_checkIndex_8e157 9 = .ok (.aload_n 2, 1) := by decide +kernel
theorem dJ3_checkIndex_8e157_10 : decode cJ3_checkIndex_8e157 10 = .ok (.iload_n 0, 1) := by decide +kernel
theorem dJ3_checkIndex_8e157_11 : decode cJ3_checkIndex_8e157 11 = .ok (.iload_n 1, 1) := by decide +kernel
theorem dJ3_checkIndex_8e157_12 : decode cJ3_checkIndex_8e157 12 = .ok (.invokestatic 95, 3) := by decide +kernel
theorem dJ3_checkIndex_8e157_15 : decode cJ3_checkIndex_8e157 15 = .ok (.athrow, 1) := by decide +kernel
theorem dJ3_checkIndex_8e157_16 : decode cJ3_checkIndex_8e157 16 = .ok (.iload_n 0, 1) := by decide +kernel
theorem dJ3_checkIndex_8e157_17 : decode cJ3_checkIndex_8e157 17 = .ok (.ireturn, 1) := by decide +kernel
end
section
/-! THE MEMORY LAYER: a world is a function from tags (numbers) to cells, g tells where each tag's cell lies. -/
abbrev gE : Type := va_G × (ClassId × ClassId × ClassId × Nat)
abbrev gM : Type := Nat → Option va_E
/-- arrays: of int, of long, of Object; the last number: where ArrayList's empty array lies -/
def tyE (E : gE) : List (ClassId × FieldType) := [(E.2.1, .int), (E.2.2.1, .long), (E.2.2.2.1, .object "java/lang/Object")]
def kK (E : gE) (U : State) : Prop := va_K E.1 vwCl (tyE E) U
theorem kK.moved {E : gE} {u U : State} (hvm : u.vm.Alike U.vm) (h : kK E u) : kK E U := va_K.moved hvm h
def mP (E : gE) (A : Nat → Prop) (g : Nat → Nat) (M : gM) (H : Heap) : Prop :=
  (∀ t e, M t = some e → va_at E.1 vwCl (g t, e) H ∧ A (g t)) ∧ (∀ t u e f, M t = some e → M u = some f → g t = g u → t = u)
def mu (M : gM) (t : Nat) (e : va_E) : gM := fun u => if u = t then some e else M u
theorem mu_s {M : gM} {t : Nat} {e : va_E} : mu M t e t = some e := if_pos rfl
theorem mu_n {M : gM} {t u : Nat} {e : va_E} (h : u ≠ t) : mu M t e u = M u := if_neg h
theorem mu_d {M : gM} {t u : Nat} {e e0 f : va_E} (h0 : M t = some e0) (h : mu M t e u = some f) : ∃ f', M u = some f' := by
  by_cases hu : u = t
  · exact ⟨e0, by rw [hu]; exact h0⟩
  · exact ⟨f, by rw [mu_n hu] at h; exact h⟩
theorem mP.kept {E : gE} {A : Nat → Prop} {g : Nat → Nat} {M : gM} {H H1 : Heap} (h : mP E A g M H) (hk : ∀ t e, M t = some e → H1[g t]? = H[g t]?) : mP E A g M H1 :=
  ⟨fun t e ht => ⟨(h.1 t e ht).1.kept (hk t e ht), (h.1 t e ht).2⟩, h.2⟩
theorem mP.set {E : gE} {A : Nat → Prop} {g : Nat → Nat} {M : gM} {H H1 : Heap} {t : Nat} {e0 e : va_E} (h : mP E A g M H) (ht : M t = some e0) (he : va_at E.1 vwCl (g t, e) H1) (oq : ∀ q : Nat, q ≠ g t → H1[q]? = H[q]?) : mP E A g (mu M t e) H1 := by
  refine ⟨fun u f hu => ?_, fun u v f f' hu hv hg => ?_⟩
  · by_cases hut : u = t
    · subst hut
      rw [mu_s] at hu
      cases hu
      exact ⟨he, (h.1 u e0 ht).2⟩
    · rw [mu_n hut] at hu
      exact ⟨(h.1 u f hu).1.kept (oq (g u) (fun z => hut (h.2 u t f e0 hu ht z))), (h.1 u f hu).2⟩
  · obtain ⟨x, hx⟩ := mu_d ht hu
    obtain ⟨y, hy⟩ := mu_d ht hv
    exact h.2 u v x y hx hy hg
def gu1 (g : Nat → Nat) (t q : Nat) : Nat → Nat := fun u => if u = t then q else g u
theorem gu1_s {g : Nat → Nat} {t q : Nat} : gu1 g t q t = q := if_pos rfl
theorem gu1_n {g : Nat → Nat} {t q u : Nat} (h : u ≠ t) : gu1 g t q u = g u := if_neg h
theorem mP.push {E : gE} {A : Nat → Prop} {g : Nat → Nat} {M : gM} {H H1 : Heap} {t : Nat} {e : va_E} (h : mP E A g M H) (ht : M t = none) (he : va_at E.1 vwCl (H.size, e) H1) (hA : A H.size) (oq : ∀ q : Nat, q < H.size → H1[q]? = H[q]?) : mP E A (gu1 g t H.size) (mu M t e) H1 := by
  have key : ∀ u f, mu M t e u = some f → (u = t ∧ gu1 g t H.size u = H.size ∧ f = e) ∨ (u ≠ t ∧ M u = some f ∧ gu1 g t H.size u = g u ∧ g u < H.size) := by
    intro u f hu
    by_cases hut : u = t
    · subst hut
      rw [mu_s] at hu
      cases hu
      exact Or.inl ⟨rfl, gu1_s, rfl⟩
    · rw [mu_n hut] at hu
      exact Or.inr ⟨hut, hu, gu1_n hut, (h.1 u f hu).1.lt⟩
  refine ⟨fun u f hu => ?_, fun u v f f' hu hv hg => ?_⟩
  · rcases key u f hu with ⟨rfl, h2, rfl⟩ | ⟨h1, h2, h3, h4⟩
    · rw [h2]; exact ⟨he, hA⟩
    · rw [h3]; exact ⟨(h.1 u f h2).1.kept (oq _ h4), (h.1 u f h2).2⟩
  · rcases key u f hu with ⟨a1, a2, -⟩ | ⟨a1, a2, a3, a4⟩ <;> rcases key v f' hv with ⟨b1, b2, -⟩ | ⟨b1, b2, b3, b4⟩
    · rw [a1, b1]
    · rw [a2, b3] at hg; omega
    · rw [a3, b2] at hg; omega
    · rw [a3, b3] at hg
      exact h.2 u v f f' a2 b2 hg
/-- what a method finds -/
def Pm (E : gE) (av : List Value) (P : Heap → Prop) : Array Value → State → Prop := va_Pc av (fun U => P U.heap ∧ kK E U)
theorem Pm.bl {E : gE} {av : List Value} {P : Heap → Prop} : FrameBlind (Pm E av P) := fun a U g mk h => ⟨h.1, h.2.1, kK.moved (u := U) (U := U.calling g mk a) (Vm.Alike.refl U.vm) h.2.2⟩
theorem Pm.preS {E : gE} {av : List Value} {P : Heap → Prop} {s : State} {H : Heap} (hK : kK E s) (hP : P H) : PreS s H (Pm E av P) av :=
  ⟨Pm.bl, fun U hU hW => ⟨rfl, by rw [hU]; exact hP, hK.moved hW.alike⟩⟩
theorem Pm.preV {E : gE} {As : List Value} {P : Heap → Prop} {s : State} {H : Heap} {C : String} {b : Addr} (hK : kK E s) (hP : P H) (hr : ∃ cellB : Cell, H[b]? = some cellB ∧ cellB.vm.isStatics = false ∧ s.vm.findClass C = some cellB.cls) : PreV s H C b (Pm E (.ref b :: As) P) As :=
  ⟨Pm.bl, hr, fun U hU hW => ⟨rfl, by rw [hU]; exact hP, hK.moved hW.alike⟩⟩
theorem m_recv {E : gE} {A : Nat → Prop} {g : Nat → Nat} {M : gM} {H : Heap} {s : State} {t ci : Nat} {fs : List Value} {q : vw_C} (hK : kK E s) (hM : mP E A g M H) (ht : M t = some (.inr (ci, fs))) (hc : vwCl[ci]? = some q) : ∃ cell : Cell, H[g t]? = some cell ∧ cell.vm.isStatics = false ∧ s.vm.findClass q.1 = some cell.cls := by
  obtain ⟨q', h1, cell, g1, g2, g3, -⟩ := (hM.1 t _ ht).1
  exact ⟨cell, g1, by rw [g3]; rfl, by rw [g2]; exact (hK.1 ci q hc).2.1⟩
/-- a method that writes: its answer, the heap behind it, the frame -/
def QW (v : Option Value) (Ph : Heap → Prop) (A : Nat → Prop) : Array Value → State → Outcome → State → Prop := fun _ st o t => o = .returned v ∧ Ph t.heap ∧ va_F A st t
section ME
/-- a body's beginning -/
theorem m_entry {l : Launch} {E : gE} {av : List Value} {P : Heap → Prop} {y : MethodName} {ws ws' : List Cond} {rm : Room} {Qc : Array Value → State → Outcome → State → Prop} {mc ms : Nat} {free : Addr → Prop} {cc : ByteArray} {maxL : Nat} {ret : Option FieldType}
    (hy : plainName y.cls = true) (hw : ws = Cond.code y cc maxL ret :: ws') (hn : (lg_sl av).length ≤ maxL)
    (body : ∀ (p : Program) (e : Env) (s : State) (m : MethodId) (args : Array Value) (below : List Frame) (meth : Method) (c : Code), p.tables.exec = Jvm.exec → c.code = cc → meth.sig.returnType = ret → c.maxLocals = maxL → (∀ w ∈ ws, w.before args s = true) → s.vm.findClass y.cls = some m.cls → meth.locks = false → meth.name = y.name →
      P s.heap → kK E s → ∀ ls : Array Slot, lv_has ls maxL (lv_args 0 av) → W p l e rm s m args below meth c s.heap [] 0 0 (MQ below Qc args s mc ms free) (F0 m 0 ls [])) : Met l y ws rm (Pm E av P) Qc mc ms free := by
  refine Met.ofW (cc := cc) (maxL := maxL) (ret := ret) hy hw ?_
  intro p e s m args below meth c s₁ B hml hv
  obtain ⟨rfl, hP, hK⟩ := hv
  have hl := lv_entry av (n := maxL) hn
  rw [lg_entry_eq]
  exact body p e s m av.toArray below meth c B.exec B.bytes B.returns hml (atoms_spec (ws := ws) B.pre) (findClass_of_methodNamed B.named) B.notSynchronized (name_of_methodNamed B.named B.method).1 hP hK _ hl
end ME
section MR
variable {p : Program} {l : Launch} {e : Env} {R : Room} {s : State} {m : MethodId} {args : Array Value} {below : List Frame} {meth : Method} {c : Code} {H : Heap} {locs : List Loc} {cells slots : Nat} {Q : State → Prop}
variable {cc : ByteArray} {pc : Nat} {ls : Array Slot} {rest : List Value} {E : gE} {A : Nat → Prop} {g : Nat → Nat} {M : gM} {H0 : Heap} {t : Nat}
theorem m_get (hexec : p.tables.exec = Jvm.exec) (hb : c.code = cc) {own C : String} {T : u_T} {N ci index : Nat} {Ts : List Cond} (hts : ∀ w ∈ Ts, w.before args s = true) (hin : ∀ w ∈ u_ws C T N, w ∈ Ts) (hown : s.vm.findClass own = some m.cls) (hK : kK E s) (hM : mP E A g M H) {fs : List Value} (ht : M t = some (.inr (ci, fs))) (hc : vwCl[ci]? = some (C, T, N)) (k : Nat) (hk : k < N) (hlink : Cond.fieldLink own index (T k).1 (T k).2.1 (T k).2.2.1 ∈ Ts) {v : Value} (hv : fs[k]? = some v) (hdg : decode cc pc = .ok (.getfield index, 3))
    (kk : W p l e R s m args below meth c H locs cells slots Q (F0 m (pc + 3) ls (v :: rest))) : W p l e R s m args below meth c H locs cells slots Q (F0 m pc ls (.ref (g t) :: rest)) := by
  have hP : va_P E.1 vwCl [(g t, .inr (ci, fs))] H := by
    intro k q hk
    cases k with
    | zero => simp at hk; subst hk; exact (hM.1 t _ ht).1
    | succ k => simp at hk
  exact va_get (D := E.1) (ci := ci) (v := v) hexec hb hts hin hown hK hP 0 rfl hc k hk (hts _ hlink) (fun _ h => h) hv hdg kk
theorem m_put (hexec : p.tables.exec = Jvm.exec) (hb : c.code = cc) {own C : String} {T : u_T} {N ci index : Nat} {Ts : List Cond} (hts : ∀ w ∈ Ts, w.before args s = true) (hin : ∀ w ∈ u_ws C T N, w ∈ Ts) (ty0 : Nat → FieldType) (hty : ∀ k, k < N → parseFieldDescriptor (T k).2.2.1 = some (ty0 k)) (hnm : ∀ a, a < N → ∀ b, b < N → a ≠ b → (T a).2.1 ≠ (T b).2.1) (hown : s.vm.findClass own = some m.cls) (hK : kK E s) (hM : mP E A g M H) (hS0 : va_S A H0 H locs) {fs : List Value} (ht : M t = some (.inr (ci, fs))) (hc : vwCl[ci]? = some (C, T, N)) (k : Nat) (hk : k < N) (hlink : Cond.fieldLink own index (T k).1 (T k).2.1 (T k).2.2.1 ∈ Ts) (hfin : (T k).2.2.2 = false) {ty : FieldType} {v : Value} (hd : parseFieldDescriptor (T k).2.2.1 = some ty) (hn : narrow ty v = v) (hfit : fits ty v = true) (hl : k < fs.length)
    (hdg : decode cc pc = .ok (.putfield index, 3)) (kk : ∀ (H1 : Heap) (locs1 : List Loc), mP E A g (mu M t (.inr (ci, fs.set k v))) H1 → H1.size = H.size → va_S A H0 H1 locs1 → W p l e R s m args below meth c H1 locs1 cells slots Q (F0 m (pc + 3) ls rest)) : W p l e R s m args below meth c H locs cells slots Q (F0 m pc ls (v :: .ref (g t) :: rest)) := by
  have hap := va_apart (D := E.1) (cl := vwCl) (ci := ci) (own := own) hts hin ty0 hty hnm hK hc
  obtain ⟨r, h1, cell, q1, q2, q3, q4⟩ := (hM.1 t _ ht).1
  have hr : r = (C, T, N) := Option.some.inj (h1.symm.trans hc)
  subst hr
  obtain ⟨hS, hfc, kC, hkC, hkind⟩ := hK.1 ci _ hc
  obtain ⟨cf, kf, fi, f, hi, hsl⟩ := hS k hk
  have hlay := hts _ (hin _ (u_in_lay hk))
  unfold u_lay at hlay
  rw [if_neg (by rw [hfin]; decide)] at hlay
  have hst := (u_facts hfc hkC (u_lays hts hin hk) hi).1
  have h6 := u_store hfc hkC hkind hlay hi hd hn hfit
  refine W.putK hexec hb (f := f) ⟨hown, hts _ hlink, ⟨_, _, _, hi⟩, hst⟩ (by rw [q2]; exact h6) q1 q3 (by rw [hsl]; exact k2_hasslot (q4 k hk)) rfl rfl hdg fun H' e1 e2 e3 => ?_
  rw [hsl] at e1 ⊢
  exact kk H' _ (hM.set ht ⟨_, hc, t_OB.to (V := updV (vp_V fs) k v) ⟨_, e1, q2, q3, t_set q4 hap hk v⟩ (fun j _ => vp_updV_set hl v j)⟩ e3) e2 (hS0.put e2 e3 (hM.1 t _ ht).2)
theorem m_putF (hexec : p.tables.exec = Jvm.exec) (hb : c.code = cc) {own C : String} {T : u_T} {N ci index : Nat} {Ts : List Cond} (hts : ∀ w ∈ Ts, w.before args s = true) (hin : ∀ w ∈ u_ws C T N, w ∈ Ts) (ty0 : Nat → FieldType) (hty : ∀ k, k < N → parseFieldDescriptor (T k).2.2.1 = some (ty0 k)) (hnm : ∀ a, a < N → ∀ b, b < N → a ≠ b → (T a).2.1 ≠ (T b).2.1) (hown : s.vm.findClass own = some m.cls) (hK : kK E s) (hM : mP E A g M H) (hS0 : va_S A H0 H locs) {fs : List Value} (ht : M t = some (.inr (ci, fs))) (hc : vwCl[ci]? = some (C, T, N)) (k : Nat) (hk : k < N) (hlink : Cond.fieldLink own index (T k).1 (T k).2.1 (T k).2.2.1 ∈ Ts) (hfin : (T k).2.2.2 = true) (hin2 : meth.name = "<init>") (hdecl : (T k).1 = own) {ty : FieldType} {v : Value} (hd : parseFieldDescriptor (T k).2.2.1 = some ty) (hn : narrow ty v = v) (hfit : fits ty v = true) (hl : k < fs.length)
    (hdg : decode cc pc = .ok (.putfield index, 3)) (kk : ∀ (H1 : Heap) (locs1 : List Loc), mP E A g (mu M t (.inr (ci, fs.set k v))) H1 → H1.size = H.size → va_S A H0 H1 locs1 → W p l e R s m args below meth c H1 locs1 cells slots Q (F0 m (pc + 3) ls rest)) : W p l e R s m args below meth c H locs cells slots Q (F0 m pc ls (v :: .ref (g t) :: rest)) := by
  have hap := va_apart (D := E.1) (cl := vwCl) (ci := ci) (own := own) hts hin ty0 hty hnm hK hc
  obtain ⟨r, h1, cell, q1, q2, q3, q4⟩ := (hM.1 t _ ht).1
  have hr : r = (C, T, N) := Option.some.inj (h1.symm.trans hc)
  subst hr
  obtain ⟨hS, hfc, kC, hkC, hkind⟩ := hK.1 ci _ hc
  obtain ⟨cf, kf, fi, f, hi, hsl⟩ := hS k hk
  have hlay := hts _ (hin _ (u_in_lay hk))
  unfold u_lay at hlay
  rw [if_pos hfin] at hlay
  have hst := (u_facts hfc hkC (u_lays hts hin hk) hi).1
  have hcf : m.cls = cf := by
    obtain ⟨_, _, c', _, _, _, -, -, hf', -, -, -, hown2, -⟩ := Cond.laysFinal_spec hlay
    have e1 : c' = cf := by have := hi.symm.trans hf'; simp at this; exact this.1.symm
    rw [hdecl] at hown2
    rw [← e1]; exact Option.some.inj (hown.symm.trans hown2)
  have h6 := u_fits hfc hkC hkind (Or.inr hlay) hi hd hn hfit
  refine W.putFinK hexec hb hown (hts _ hlink) hi hst hcf hin2 (by rw [q2]; exact h6) q1 q3 (by rw [hsl]; exact k2_hasslot (q4 k hk)) rfl rfl hdg fun H' e1 e2 e3 => ?_
  rw [hsl] at e1 ⊢
  exact kk H' _ (hM.set ht ⟨_, hc, t_OB.to (V := updV (vp_V fs) k v) ⟨_, e1, q2, q3, t_set q4 hap hk v⟩ (fun j _ => vp_updV_set hl v j)⟩ e3) e2 (hS0.put e2 e3 (hM.1 t _ ht).2)
theorem m_iald (hexec : p.tables.exec = Jvm.exec) (hb : c.code = cc) (hK : kK E s) (hM : mP E A g M H) {n : Nat} {f : Nat → Int32} (ht : M t = some (.inl (E.2.1, n, .inl f))) {i : Int32} {v : Int32} (hin : vp_in i n) (hv : f i.toNatClampNeg = v) (hdg : decode cc pc = .ok (.iaload, 1))
    (kk : W p l e R s m args below meth c H locs cells slots Q (F0 m (pc + 1) ls (.int v :: rest))) : W p l e R s m args below meth c H locs cells slots Q (F0 m pc ls (.int i :: .ref (g t) :: rest)) := by
  subst hv
  have hP : va_P E.1 vwCl [(g t, .inl (E.2.1, n, .inl f))] H := by
    intro k q hk
    cases k with
    | zero => simp at hk; subst hk; exact (hM.1 t _ ht).1
    | succ k => simp at hk
  exact va_iald (D := E.1) hexec hb hK hP 0 0 rfl rfl hin hdg kk
theorem m_alen (hexec : p.tables.exec = Jvm.exec) (hb : c.code = cc) (hK : kK E s) (hM : mP E A g M H) {n : Nat} {f : Nat → Int32} (ht : M t = some (.inl (E.2.1, n, .inl f))) {v : Int32} (hv : Int32.ofNat n = v) (hdg : decode cc pc = .ok (.arraylength, 1))
    (kk : W p l e R s m args below meth c H locs cells slots Q (F0 m (pc + 1) ls (.int v :: rest))) : W p l e R s m args below meth c H locs cells slots Q (F0 m pc ls (.ref (g t) :: rest)) := by
  have hP : va_P E.1 vwCl [(g t, .inl (E.2.1, n, .inl f))] H := by
    intro k q hk
    cases k with
    | zero => simp at hk; subst hk; exact (hM.1 t _ ht).1
    | succ k => simp at hk
  exact va_alen (D := E.1) hexec hb hK hP 0 0 rfl rfl hv hdg kk
theorem m_alenO (hexec : p.tables.exec = Jvm.exec) (hb : c.code = cc) (hK : kK E s) (hM : mP E A g M H) {n : Nat} {f : Nat → Option Nat} (ht : M t = some (.inl (E.2.2.2.1, n, .inr (.inr (.inr (.inr f)))))) {v : Int32} (hv : Int32.ofNat n = v) (hdg : decode cc pc = .ok (.arraylength, 1))
    (kk : W p l e R s m args below meth c H locs cells slots Q (F0 m (pc + 1) ls (.int v :: rest))) : W p l e R s m args below meth c H locs cells slots Q (F0 m pc ls (.ref (g t) :: rest)) := by
  have hP : va_P E.1 vwCl [(g t, .inl (E.2.2.2.1, n, .inr (.inr (.inr (.inr f)))))] H := by
    intro k q hk
    cases k with
    | zero => simp at hk; subst hk; exact (hM.1 t _ ht).1
    | succ k => simp at hk
  exact va_alen (D := E.1) hexec hb hK hP 0 2 rfl rfl hv hdg kk
theorem m_aald (hexec : p.tables.exec = Jvm.exec) (hb : c.code = cc) (hK : kK E s) (hM : mP E A g M H) {n : Nat} {f : Nat → Option Nat} (ht : M t = some (.inl (E.2.2.2.1, n, .inr (.inr (.inr (.inr f)))))) {i : Int32} {v : Value} (hin : vp_in i n) (hv : va_rf (f i.toNatClampNeg) = v) (hdg : decode cc pc = .ok (.aaload, 1))
    (kk : W p l e R s m args below meth c H locs cells slots Q (F0 m (pc + 1) ls (v :: rest))) : W p l e R s m args below meth c H locs cells slots Q (F0 m pc ls (.int i :: .ref (g t) :: rest)) := by
  subst hv
  have hP : va_P E.1 vwCl [(g t, .inl (E.2.2.2.1, n, .inr (.inr (.inr (.inr f)))))] H := by
    intro k q hk
    cases k with
    | zero => simp at hk; subst hk; exact (hM.1 t _ ht).1
    | succ k => simp at hk
  exact va_aldq (D := E.1) (C := "java/lang/Object") hexec hb hK hP 0 2 rfl rfl hin hdg kk
theorem m_iast (hexec : p.tables.exec = Jvm.exec) (hb : c.code = cc) (hK : kK E s) (hM : mP E A g M H) (hS : va_S A H0 H locs) {n : Nat} {f : Nat → Int32} (ht : M t = some (.inl (E.2.1, n, .inl f))) {i x : Int32} (hin : vp_in i n) (hdg : decode cc pc = .ok (.iastore, 1))
    (kk : ∀ (H1 : Heap) (locs1 : List Loc), mP E A g (mu M t (.inl (E.2.1, n, .inl (upd f i.toNatClampNeg x)))) H1 → H1.size = H.size → va_S A H0 H1 locs1 → W p l e R s m args below meth c H1 locs1 cells slots Q (F0 m (pc + 1) ls rest)) : W p l e R s m args below meth c H locs cells slots Q (F0 m pc ls (.int x :: .int i :: .ref (g t) :: rest)) := by
  refine W.iast hexec hb (hM.1 t _ ht).1 ((hK.2 0 _ rfl).1 n (fun j => .int (f j))) (fun q => by cases q) (by show ¬ (i < 0 ∨ (arrV _ _ _).slots.size ≤ _); rw [arrV_size]; exact hin) rfl rfl hdg fun H1 e z oq => ?_
  refine kk H1 _ (hM.set ht ?_ oq) z (hS.put z oq (hM.1 t _ ht).2)
  show H1[g t]? = some (vp_cell _ _)
  rw [e]
  rw [vp_cell_i, vp_cell_i, arrV_store]
  congr 2
  funext q
  by_cases hq : q = i.toNatClampNeg
  · subst hq
    simp [updV, upd]
  · simp [updV, upd, hq]
theorem m_new (hexec : p.tables.exec = Jvm.exec) (hb : c.code = cc) {own C : String} {T : u_T} {N ci index : Nat} {Ts : List Cond} (hts : ∀ w ∈ Ts, w.before args s = true) (hin : ∀ w ∈ u_ws C T N, w ∈ Ts) (ty : Nat → FieldType) (hty : ∀ k, k < N → parseFieldDescriptor (T k).2.2.1 = some (ty k)) (hown : s.vm.findClass own = some m.cls) (hcl : Cond.classLink own index C ∈ Ts) (hinst : Cond.instantiable C N ∈ Ts) (hini : Cond.initialized C ∈ Ts)
    (hK : kK E s) (hM : mP E A g M H) (hS : va_S A H0 H locs) (hA : ∀ q, H.size ≤ q → A q) (t : Nat) (ht : M t = none) (hc : vwCl[ci]? = some (C, T, N)) {fs : List Value} (hfs : ∀ j, j < N → defaultValue (ty j) = vp_V fs j) (hcells : cells + 1 ≤ R.cells) (hslots : slots + N ≤ R.slots) (hdg : decode cc pc = .ok (.new index, 3))
    (kk : ∀ (H1 : Heap), mP E A (gu1 g t H.size) (mu M t (.inr (ci, fs))) H1 → H1.size = H.size + 1 → (∀ q, q < H.size → H1[q]? = H[q]?) → va_S A H0 H1 locs →
      W p l e R s m args below meth c H1 locs (cells + 1) (slots + N) Q (F0 m (pc + 3) ls (.ref (gu1 g t H.size t) :: rest))) : W p l e R s m args below meth c H locs cells slots Q (F0 m pc ls rest) := by
  have hKn := hK.1 ci _ hc
  refine W.newcK hexec hb hown (hts _ hcl) (hts _ hinst) (hts _ hini) rfl hdg hcells hslots hKn.2.1 rfl fun H1 kC hkC e1 z1 o1 => ?_
  have h2 := kk H1 (hM.push ht ⟨_, hc, (u_born ty hts hin hKn hkC e1 hty).to hfs⟩ (hA _ (Nat.le_refl _)) o1) z1 o1 ⟨Nat.le_trans hS.1 (by omega), fun x h1 h2 => (o1 x (Nat.lt_of_lt_of_le h1 hS.1)).trans (hS.2.1 x h1 h2), hS.2.2⟩
  rw [gu1_s] at h2
  exact h2
theorem m_newa (hexec : p.tables.exec = Jvm.exec) (hb : c.code = cc) {Ts : List Cond} (hts : ∀ w ∈ Ts, w.before args s = true) (harr : Cond.arrayClass .int ∈ Ts) (hK : kK E s) (hM : mP E A g M H) (hS : va_S A H0 H locs) (hA : ∀ q, H.size ≤ q → A q) (t : Nat) (ht : M t = none)
    {n : Int32} (N : Nat) (hn : ¬ n < 0) (hN : n.toNatClampNeg = N) (hbytes : N * 4 ≤ 536870912) (hcells : cells + 1 ≤ R.cells) (hslots : slots + N ≤ R.slots) (hdg : decode cc pc = .ok (.newarray .int, 2))
    (kk : ∀ (H1 : Heap), mP E A (gu1 g t H.size) (mu M t (.inl (E.2.1, N, .inl (fun _ => 0)))) H1 → H1.size = H.size + 1 → (∀ q, q < H.size → H1[q]? = H[q]?) → va_S A H0 H1 locs →
      W p l e R s m args below meth c H1 locs (cells + 1) (slots + N) Q (F0 m (pc + 2) ls (.ref (gu1 g t H.size t) :: rest))) : W p l e R s m args below meth c H locs cells slots Q (F0 m pc ls (.int n :: rest)) := by
  refine va_newaK (atype := .int) hexec hb (hts _ harr) rfl hdg rfl hn hN hbytes hcells hslots rfl fun H1 cA e1 z1 o1 hAr hNm => ?_
  have hcA : cA = E.2.1 := by
    have h9 : s.vm.findClass ("[" ++ (FieldType.int).toString) = some E.2.1 := (hK.2 0 _ rfl).2
    exact Option.some.inj (hNm.symm.trans h9)
  subst hcA
  have h2 := kk H1 (hM.push ht (show H1[H.size]? = some (vp_cell _ _) by rw [vp_cell_i]; exact e1) (hA _ (Nat.le_refl _)) o1) z1 o1 ⟨Nat.le_trans hS.1 (by omega), fun x h1 h2 => (o1 x (Nat.lt_of_lt_of_le h1 hS.1)).trans (hS.2.1 x h1 h2), hS.2.2⟩
  rw [gu1_s] at h2
  exact h2
theorem m_cast (hexec : p.tables.exec = Jvm.exec) (hb : c.code = cc) {own : String} {q : vw_C} {index ci : Nat} {Ts : List Cond} (hts : ∀ w ∈ Ts, w.before args s = true) (hown : s.vm.findClass own = some m.cls) (hlink : Cond.classLink own index q.1 ∈ Ts) (hK : kK E s) (hM : mP E A g M H) {fs : List Value} (ht : M t = some (.inr (ci, fs))) (hc : vwCl[ci]? = some q) (hdg : decode cc pc = .ok (.checkcast index, 3))
    (k : W p l e R s m args below meth c H locs cells slots Q (F0 m (pc + 3) ls (.ref (g t) :: rest))) : W p l e R s m args below meth c H locs cells slots Q (F0 m pc ls (.ref (g t) :: rest)) :=
  va_castS hexec hb hown (hts _ hlink) (hK.1 ci q hc).2 (m_recv hK hM ht hc) hdg k
end MR
section MC
variable {p : Program} {l : Launch} {e : Env} {R : Room} {s : State} {m : MethodId} {args : Array Value} {below : List Frame} {meth : Method} {c : Code} {H : Heap} {locs : List Loc} {cells slots : Nat} {Q : State → Prop}
variable {cc bytes : ByteArray} {pc : Nat} {ls : Array Slot} {E : gE} {A : Nat → Prop} {g : Nat → Nat} {M : gM} {H0 : Heap} {t : Nat} {Ts ws ws' : List Cond} {nL maxL index mc ms : Nat} {own : String} {y : MethodName} {ret : Option FieldType} {rm : Room} {P Ph : Heap → Prop}
/-- a call that only reads, of an instance's method -/
theorem m_cV (n : Nat) {r : Value} {b : Addr} {C : String} {T : u_T} {N : Nat} {fs : List Value} {ci : Nat} (As rest : List Value) (hx : p.tables.exec = Jvm.exec) (hb : c.code = cc) (hml : c.maxLocals = nL) (hown : s.vm.findClass own = some m.cls) (hts : ∀ w ∈ Ts, w.before args s = true) (hK : kK E s) (hM : Met l y ws rm (Pm E (.ref b :: As) P) (k2_QcV r) 0 0 (fun _ => False)) (hG : GoodIn Ts (wsV own index C y ws)) (hw : ws = Cond.code y bytes maxL ret :: ws') (hrc : rm.cells = 0) (hrs : rm.slots = 0)
    (hd : y.cls = C ∧ y.cls ≠ "java/lang/invoke/MethodHandle" ∧ y.cls ≠ "java/lang/invoke/VarHandle" ∧ (parseMethodDescriptor y.desc).map (fun d => d.parameters.length) = some n) (hn : As.length = n) (hR : rm.frames + 1 ≤ R.frames ∧ 8 + (maxL + 11) + rm.locals ≤ R.locals) (hMm : mP E A g M H) (ht : M t = some (.inr (ci, fs))) (hc : vwCl[ci]? = some (C, T, N)) (hbt : g t = b) (hP : P H) (hsz : ls.size = nL) (hcat : (rest.map fun v => v.category).sum ≤ 8) (hf : cells ≤ R.cells ∧ slots ≤ R.slots) {st0 : List Value} (hst : st0 = As.reverse ++ .ref b :: rest) (hdg : decode cc pc = .ok (.invokevirtual index, 3))
    (kk : W p l e R s m args below meth c H locs cells slots Q (F0 m (pc + 3) ls (r :: rest))) : W p l e R s m args below meth c H locs cells slots Q (F0 m pc ls st0) := by
  subst hst
  have hr := m_recv hK hMm ht hc
  rw [hbt] at hr
  exact W.callV (a := (Value.ref b :: As).toArray) (W.runV (As := As) (rest := rest) ⟨hx, hb, hml, hown, hts⟩ hM (cwV n hts hG hw hrc hrs hd hR) (Pm.preV hK hP hr) rfl hn hsz rfl (lv_room hcat) hdg hf) kk
/-- .. of a static method -/
theorem m_cS (n : Nat) {r : Value} (As rest : List Value) (hx : p.tables.exec = Jvm.exec) (hb : c.code = cc) (hml : c.maxLocals = nL) (hown : s.vm.findClass own = some m.cls) (hts : ∀ w ∈ Ts, w.before args s = true) (hK : kK E s) (hM : Met l y ws rm (Pm E As P) (k2_QcV r) 0 0 (fun _ => False)) (hG : GoodIn Ts (va_wsS own index y ws)) (hw : ws = Cond.code y bytes maxL ret :: ws') (hrc : rm.cells = 0) (hrs : rm.slots = 0)
    (hd : y.cls ≠ "java/lang/invoke/MethodHandle" ∧ y.cls ≠ "java/lang/invoke/VarHandle" ∧ (parseMethodDescriptor y.desc).map (fun d => d.parameters.length) = some n) (hn : As.length = n) (hR : rm.frames + 1 ≤ R.frames ∧ 8 + (maxL + 11) + rm.locals ≤ R.locals) (hP : P H) (hsz : ls.size = nL) (hcat : (rest.map fun v => v.category).sum ≤ 8) (hf : cells ≤ R.cells ∧ slots ≤ R.slots) {st0 : List Value} (hst : st0 = As.reverse ++ rest) (hdg : decode cc pc = .ok (.invokestatic index, 3))
    (kk : W p l e R s m args below meth c H locs cells slots Q (F0 m (pc + 3) ls (r :: rest))) : W p l e R s m args below meth c H locs cells slots Q (F0 m pc ls st0) := by
  subst hst
  exact W.callV (a := As.toArray) (W.runS (As := As) (rest := rest) ⟨hx, hb, hml, hown, hts⟩ hM (va_cwS n hts hG hw hrc hrs hd hR) (Pm.preS hK hP) rfl hn hsz rfl (lv_room hcat) hdg hf) kk
/-- a call that writes -/
theorem m_wrun {v0 : Option Value} {A1 : Nat → Prop} {free : Addr → Prop} {a : Array Value} {st0 rest : List Value} (hr : va_Run p l e R s m args below meth c H locs cells slots mc ms (F0 m pc ls st0) rest (QW v0 Ph A1 a) free) (hS : va_S A H0 H locs) (hA : ∀ q, q < H.size → A1 q → A q) (hf : ∀ q, free q → A q)
    (kk : ∀ (H1 : Heap) (locs1 : List Loc), Ph H1 → H.size ≤ H1.size → (∀ q : Nat, q < H.size → ¬ A1 q → H1[q]? = H[q]?) → va_S A H0 H1 locs1 → W p l e R s m args below meth c H1 locs1 (cells + mc) (slots + ms) Q (F0 m (pc + 3) ls (v0.toList ++ rest))) : W p l e R s m args below meth c H locs cells slots Q (F0 m pc ls st0) := by
  intro T hT X
  obtain ⟨v, st₀, t, T', L, h0, X', hL, e1, e2, ⟨hv, hp, hz, hk⟩, st⟩ := hr T hT X
  cases hv
  rw [h0] at hz hk
  obtain ⟨t2, a1, b1⟩ := kk T'.heap (locs ++ L) (by rw [e1]; exact hp) (by rw [e1]; exact hz) (fun q h1 h2 => by rw [e1]; exact hk q h1 h2)
    ⟨Nat.le_trans hS.1 (by rw [e1]; exact hz), fun q h1 h2 => by rw [e1, hk q (Nat.lt_of_lt_of_le h1 hS.1) (fun z => h2 (hA q (Nat.lt_of_lt_of_le h1 hS.1) z))]; exact hS.2.1 q h1 h2, fun q hq => by
      rcases List.mem_append.mp hq with h | h
      · exact hS.2.2 q h
      · exact hf _ (hL q h)⟩ T' rfl X'
  exact ⟨t2, st t2 a1, b1⟩
theorem m_wV (n : Nat) {v0 : Option Value} {A1 : Nat → Prop} {free : Addr → Prop} {b : Addr} {C : String} {T : u_T} {N : Nat} {fs : List Value} {ci : Nat} (As rest : List Value) (hx : p.tables.exec = Jvm.exec) (hb : c.code = cc) (hml : c.maxLocals = nL) (hown : s.vm.findClass own = some m.cls) (hts : ∀ w ∈ Ts, w.before args s = true) (hK : kK E s) (hM : Met l y ws rm (Pm E (.ref b :: As) P) (QW v0 Ph A1) mc ms free) (hG : GoodIn Ts (wsV own index C y ws)) (hw : ws = Cond.code y bytes maxL ret :: ws') (hrc : rm.cells = mc) (hrs : rm.slots = ms)
    (hd : y.cls = C ∧ y.cls ≠ "java/lang/invoke/MethodHandle" ∧ y.cls ≠ "java/lang/invoke/VarHandle" ∧ (parseMethodDescriptor y.desc).map (fun d => d.parameters.length) = some n) (hn : As.length = n) (hR : rm.frames + 1 ≤ R.frames ∧ 8 + (maxL + 11) + rm.locals ≤ R.locals) (hMm : mP E A g M H) (ht : M t = some (.inr (ci, fs))) (hc : vwCl[ci]? = some (C, T, N)) (hbt : g t = b) (hP : P H) (hsz : ls.size = nL) (hcat : (rest.map fun v => v.category).sum ≤ 8) (hf : cells + mc ≤ R.cells ∧ slots + ms ≤ R.slots) {st0 : List Value} (hst : st0 = As.reverse ++ .ref b :: rest) (hdg : decode cc pc = .ok (.invokevirtual index, 3)) (hS : va_S A H0 H locs) (hA : ∀ q, q < H.size → A1 q → A q) (hfr : ∀ q, free q → A q)
    (kk : ∀ (H1 : Heap) (locs1 : List Loc), Ph H1 → H.size ≤ H1.size → (∀ q : Nat, q < H.size → ¬ A1 q → H1[q]? = H[q]?) → va_S A H0 H1 locs1 → W p l e R s m args below meth c H1 locs1 (cells + mc) (slots + ms) Q (F0 m (pc + 3) ls (v0.toList ++ rest))) : W p l e R s m args below meth c H locs cells slots Q (F0 m pc ls st0) := by
  subst hst
  have hr := m_recv hK hMm ht hc
  rw [hbt] at hr
  exact m_wrun (va_runV (As := As) (rest := rest) ⟨hx, hb, hml, hown, hts⟩ hM (cwV n hts hG hw hrc hrs hd hR) (Pm.preV hK hP hr) rfl hn hsz rfl (lv_room hcat) hdg hf) hS hA hfr kk
theorem m_wS (n : Nat) {v0 : Option Value} {A1 : Nat → Prop} {free : Addr → Prop} (As rest : List Value) (hx : p.tables.exec = Jvm.exec) (hb : c.code = cc) (hml : c.maxLocals = nL) (hown : s.vm.findClass own = some m.cls) (hts : ∀ w ∈ Ts, w.before args s = true) (hK : kK E s) (hM : Met l y ws rm (Pm E As P) (QW v0 Ph A1) mc ms free) (hG : GoodIn Ts (va_wsS own index y ws)) (hw : ws = Cond.code y bytes maxL ret :: ws') (hrc : rm.cells = mc) (hrs : rm.slots = ms)
    (hd : y.cls ≠ "java/lang/invoke/MethodHandle" ∧ y.cls ≠ "java/lang/invoke/VarHandle" ∧ (parseMethodDescriptor y.desc).map (fun d => d.parameters.length) = some n) (hn : As.length = n) (hR : rm.frames + 1 ≤ R.frames ∧ 8 + (maxL + 11) + rm.locals ≤ R.locals) (hP : P H) (hsz : ls.size = nL) (hcat : (rest.map fun v => v.category).sum ≤ 8) (hf : cells + mc ≤ R.cells ∧ slots + ms ≤ R.slots) {st0 : List Value} (hst : st0 = As.reverse ++ rest) (hdg : decode cc pc = .ok (.invokestatic index, 3)) (hS : va_S A H0 H locs) (hA : ∀ q, q < H.size → A1 q → A q) (hfr : ∀ q, free q → A q)
    (kk : ∀ (H1 : Heap) (locs1 : List Loc), Ph H1 → H.size ≤ H1.size → (∀ q : Nat, q < H.size → ¬ A1 q → H1[q]? = H[q]?) → va_S A H0 H1 locs1 → W p l e R s m args below meth c H1 locs1 (cells + mc) (slots + ms) Q (F0 m (pc + 3) ls (v0.toList ++ rest))) : W p l e R s m args below meth c H locs cells slots Q (F0 m pc ls st0) := by
  subst hst
  exact m_wrun (va_runS (As := As) (rest := rest) ⟨hx, hb, hml, hown, hts⟩ hM (va_cwS n hts hG hw hrc hrs hd hR) (Pm.preS hK hP) rfl hn hsz rfl (lv_room hcat) hdg hf) hS hA hfr kk
/-- a constructor -/
theorem m_wI (n : Nat) {v0 : Option Value} {A1 : Nat → Prop} {free : Addr → Prop} {b : Addr} (As rest : List Value) (hx : p.tables.exec = Jvm.exec) (hb : c.code = cc) (hml : c.maxLocals = nL) (hown : s.vm.findClass own = some m.cls) (hts : ∀ w ∈ Ts, w.before args s = true) (hK : kK E s) (hM : Met l y ws rm (Pm E (.ref b :: As) P) (QW v0 Ph A1) mc ms free) (hG : GoodIn Ts ws) (hw : ws = Cond.code y bytes maxL none :: ws') (hrc : rm.cells = mc) (hrs : rm.slots = ms) (hini : Cond.initialized y.cls ∈ Ts) (hlk : Cond.methodLink own index y ∈ Ts) (hins : Cond.instanceMethod y ∈ Ts) (hy1 : y.name = "<init>")
    (hd : y.cls ≠ "java/lang/invoke/MethodHandle" ∧ y.cls ≠ "java/lang/invoke/VarHandle" ∧ (parseMethodDescriptor y.desc).map (fun d => d.parameters.length) = some n) (hn : As.length = n) (hR : rm.frames + 1 ≤ R.frames ∧ 8 + (maxL + 11) + rm.locals ≤ R.locals) (hP : P H) (hsz : ls.size = nL) (hcat : (rest.map fun v => v.category).sum ≤ 8) (hf : cells + mc ≤ R.cells ∧ slots + ms ≤ R.slots) {st0 : List Value} (hst : st0 = As.reverse ++ .ref b :: rest) (hdg : decode cc pc = .ok (.invokespecial index, 3)) (hS : va_S A H0 H locs) (hA : ∀ q, q < H.size → A1 q → A q) (hfr : ∀ q, free q → A q)
    (kk : ∀ (H1 : Heap) (locs1 : List Loc), Ph H1 → H.size ≤ H1.size → (∀ q : Nat, q < H.size → ¬ A1 q → H1[q]? = H[q]?) → va_S A H0 H1 locs1 → W p l e R s m args below meth c H1 locs1 (cells + mc) (slots + ms) Q (F0 m (pc + 3) ls (v0.toList ++ rest))) : W p l e R s m args below meth c H locs cells slots Q (F0 m pc ls st0) := by
  subst hst
  exact m_wrun (va_runI (As := As) (rest := rest) ⟨hx, hb, hml, hown, hts⟩ hM (cwI n hts hG hw hrc hrs (hts _ hini) (hts _ hlk) (hts _ hins) hy1 hd hR) (Pm.preS hK hP) rfl hn hsz rfl (lv_room hcat) hdg hf) hS hA hfr kk
end MC
section MT
variable {p : Program} {l : Launch} {e : Env} {R : Room} {s : State} {m : MethodId} {args : Array Value} {below : List Frame} {meth : Method} {c : Code} {H : Heap} {locs : List Loc} {cells slots : Nat}
variable {cc : ByteArray} {pc : Nat} {ls : Array Slot} {A : Nat → Prop} {Ph : Heap → Prop} {mc ms : Nat}
/-- ends of methods that only read -/
theorem r_i {x y : Int32} (hx : p.tables.exec = Jvm.exec) (hb : c.code = cc) (hr : meth.sig.returnType = some .int) (hlocks : meth.locks = false) (hdg : decode cc pc = .ok (.ireturn, 1)) (e1 : x = y) : W p l e R s m args below meth c s.heap [] 0 0 (MQ below (k2_QcV (.int y)) args s 0 0 (fun _ => False)) (F0 m pc ls [.int x]) := by
  subst e1
  exact W.iret hx hb hr (fun t ht hW => ⟨rfl, ht⟩) (fun q hq => absurd hq List.not_mem_nil) hdg hlocks
def bI (b : Bool) : Int32 := if b then 1 else 0
theorem bI_t {b : Bool} (h : ¬ bI b = 0) : b = true := by cases b <;> simp_all [bI]
theorem bI_f {b : Bool} (h : bI b = 0) : b = false := by cases b <;> simp_all [bI]
theorem bI_1 : bI true = 1 := rfl
theorem bI_0 : bI false = 0 := rfl
theorem r_z {x : Int32} {b : Bool} (hx : p.tables.exec = Jvm.exec) (hb : c.code = cc) (hr : meth.sig.returnType = some .boolean) (hlocks : meth.locks = false) (hdg : decode cc pc = .ok (.ireturn, 1)) (e1 : x = bI b) : W p l e R s m args below meth c s.heap [] 0 0 (MQ below (k2_QcV (.int (bI b))) args s 0 0 (fun _ => False)) (F0 m pc ls [.int x]) := by
  subst e1
  exact W.zret hx hb hr (by cases b <;> rfl) (fun t ht hW => ⟨rfl, ht⟩) (fun q hq => absurd hq List.not_mem_nil) hdg hlocks
theorem r_a {x y : Addr} {ty : String} (hx : p.tables.exec = Jvm.exec) (hb : c.code = cc) (hr : meth.sig.returnType = some (.object ty)) (hlocks : meth.locks = false) (hdg : decode cc pc = .ok (.areturn, 1)) (e1 : x = y) : W p l e R s m args below meth c s.heap [] 0 0 (MQ below (k2_QcV (.ref y)) args s 0 0 (fun _ => False)) (F0 m pc ls [.ref x]) := by
  subst e1
  exact W.aret hx hb hr (Or.inl ⟨_, rfl⟩) (Or.inr ⟨_, rfl⟩) (fun t ht hW => ⟨rfl, ht⟩) (fun q hq => absurd hq List.not_mem_nil) hdg hlocks
theorem r_l {x y : Int64} (hx : p.tables.exec = Jvm.exec) (hb : c.code = cc) (hr : meth.sig.returnType = some .long) (hlocks : meth.locks = false) (hdg : decode cc pc = .ok (.lreturn, 1)) (e1 : x = y) : W p l e R s m args below meth c s.heap [] 0 0 (MQ below (k2_QcV (.long y)) args s 0 0 (fun _ => False)) (F0 m pc ls [.long x]) := by
  subst e1
  exact W.lret hx hb hr (fun t ht hW => ⟨rfl, ht⟩) (fun q hq => absurd hq List.not_mem_nil) hdg hlocks
/-- ends of methods that write -/
theorem w_i {x y : Int32} (hx : p.tables.exec = Jvm.exec) (hb : c.code = cc) (hr : meth.sig.returnType = some .int) (hlocks : meth.locks = false) (hdg : decode cc pc = .ok (.ireturn, 1)) (hS : va_S A s.heap H locs) (hc : cells ≤ mc) (hs : slots ≤ ms) (e1 : x = y) (hP : Ph H) : W p l e R s m args below meth c H locs cells slots (MQ below (QW (some (.int y)) Ph A) args s mc ms A) (F0 m pc ls [.int x]) := by
  subst e1
  refine W.widen hc hs ?_
  exact W.iret hx hb hr (fun t ht hW => ⟨rfl, by rw [ht]; exact hP, hS.F ht⟩) hS.2.2 hdg hlocks
theorem w_z {x : Int32} {b : Bool} (hx : p.tables.exec = Jvm.exec) (hb : c.code = cc) (hr : meth.sig.returnType = some .boolean) (hlocks : meth.locks = false) (hdg : decode cc pc = .ok (.ireturn, 1)) (hS : va_S A s.heap H locs) (hc : cells ≤ mc) (hs : slots ≤ ms) (e1 : x = bI b) (hP : Ph H) : W p l e R s m args below meth c H locs cells slots (MQ below (QW (some (.int (bI b))) Ph A) args s mc ms A) (F0 m pc ls [.int x]) := by
  subst e1
  refine W.widen hc hs ?_
  exact W.zret hx hb hr (by cases b <;> rfl) (fun t ht hW => ⟨rfl, by rw [ht]; exact hP, hS.F ht⟩) hS.2.2 hdg hlocks
theorem w_v (hx : p.tables.exec = Jvm.exec) (hb : c.code = cc) (hr : meth.sig.returnType = none) (hlocks : meth.locks = false) (hdg : decode cc pc = .ok (.return_, 1)) (hS : va_S A s.heap H locs) (hc : cells ≤ mc) (hs : slots ≤ ms) (hP : Ph H) : W p l e R s m args below meth c H locs cells slots (MQ below (QW none Ph A) args s mc ms A) (F0 m pc ls []) := by
  refine W.widen hc hs ?_
  exact W.vret hx hb hr (fun t ht hW => ⟨rfl, by rw [ht]; exact hP, hS.F ht⟩) hS.2.2 hdg hlocks
theorem w_l {x y : Int64} (hx : p.tables.exec = Jvm.exec) (hb : c.code = cc) (hr : meth.sig.returnType = some .long) (hlocks : meth.locks = false) (hdg : decode cc pc = .ok (.lreturn, 1)) (hS : va_S A s.heap H locs) (hc : cells ≤ mc) (hs : slots ≤ ms) (e1 : x = y) (hP : Ph H) : W p l e R s m args below meth c H locs cells slots (MQ below (QW (some (.long y)) Ph A) args s mc ms A) (F0 m pc ls [.long x]) := by
  subst e1
  refine W.widen hc hs ?_
  exact W.lret hx hb hr (fun t ht hW => ⟨rfl, by rw [ht]; exact hP, hS.F ht⟩) hS.2.2 hdg hlocks
end MT
theorem m_inc (i : Nat) : nI i + Int32.ofInt 1 = nI (i + 1) := nI_1 i
end
section
/-! THE STATE: rooms' numbers (beds, comfort, least, let, taken), ghosts' (home, fright, wakes, bed), guests' (coins, needs, nerve, for, price, slept, bad), doors by bits; how many; night, coins, given back -/
abbrev Sg : Type := (Nat → Nat → Int32) × (Nat → Nat → Int32) × (Nat → Nat → Int32) × (Nat → Int32) × (Nat × Nat × Nat × Nat) × (Int32 × Int32 × Int32)
def sRm (σ : Sg) : Nat → Nat → Int32 := σ.1
def sGh (σ : Sg) : Nat → Nat → Int32 := σ.2.1
def sGu (σ : Sg) : Nat → Nat → Int32 := σ.2.2.1
def sJn (σ : Sg) : Nat → Int32 := σ.2.2.2.1
def kR (σ : Sg) : Nat := σ.2.2.2.2.1.1
def kG (σ : Sg) : Nat := σ.2.2.2.2.1.2.1
def kU (σ : Sg) : Nat := σ.2.2.2.2.1.2.2.1
def kD (σ : Sg) : Nat := σ.2.2.2.2.1.2.2.2
def sN (σ : Sg) : Int32 := σ.2.2.2.2.2.1
def sH (σ : Sg) : Int32 := σ.2.2.2.2.2.2.1
def sB (σ : Sg) : Int32 := σ.2.2.2.2.2.2.2
/-- the first number below n, from lo on, whose bit is set -/
def bitAt (b : Int32) (j : Nat) : Bool := decide (b >>> (nI j &&& 31) &&& 1 = 1)
def fstB (b : Int32) : Nat → Nat → Option Nat
  | _, 0 => none
  | lo, n + 1 => if bitAt b lo then some lo else fstB b (lo + 1) n
/-- the next room of a ghost -/
def nxt (b : Int32) (r : Nat) : Nat := match fstB b (r + 1) (9 - r) with
  | some j => j
  | none => match fstB b 0 10 with
    | some j => j
    | none => r
def plN (σ : Sg) (i : Nat) : Nat → Nat
  | 0 => (sGh σ i 0).toNatClampNeg
  | k + 1 => nxt (sJn σ (plN σ i k)) (plN σ i k)
/-- where a ghost is in an hour -/
def plc (σ : Sg) (i h : Nat) : Int32 := if sGh σ i 2 ≤ nI h ∧ nI h < sGh σ i 3 then nI (plN σ i (h - (sGh σ i 2).toNatClampNeg)) else -1
/-- what holds in every state -/
def VS (σ : Sg) : Prop := (kR σ ≤ 10 ∧ kG σ ≤ 5 ∧ kU σ ≤ 12 ∧ kD σ ≤ 20) ∧
  (∀ i, i < kR σ → 0 ≤ sRm σ i 1 ∧ sRm σ i 1 ≤ 9) ∧
  (∀ i, i < kG σ → (∃ r w, r < kR σ ∧ w < 12 ∧ sGh σ i 0 = nI r ∧ sGh σ i 2 = nI w)) ∧
  (∀ i, i < kU σ → (sGu σ i 3 = -1 ∧ sGu σ i 4 = 0 ∨ ∃ r, r < kR σ ∧ sGu σ i 3 = nI r ∧ 1 ≤ sGu σ i 4 ∧ sGu σ i 4 ≤ 200)) ∧
  (∀ i, ∃ b : Nat, b < 2 ^ kR σ ∧ sJn σ i = nI b)
def roomE (σ : Sg) (i : Nat) : va_E := .inr (3, [.int (sRm σ i 0), .int (sRm σ i 2), .int (sRm σ i 1), .int (sRm σ i 3), .int (sRm σ i 4), .int (sJn σ i)])
def ghostE (g : Nat → Nat) (σ : Sg) (i : Nat) : va_E := .inr (1, [.int (sGh σ i 0), .int (sGh σ i 1), .int (sGh σ i 2), .int (sGh σ i 3), .ref (g (300 + i))])
def guestE (σ : Sg) (i : Nat) : va_E := .inr (2, [.int (sGu σ i 1), .int (sGu σ i 0), .int (sGu σ i 2), .int (sGu σ i 3), .int (sGu σ i 4), .int (sGu σ i 5), .int (sGu σ i 6)])
/-- a list: its object at the tag tl, its row at te, its elements at base, base + 1 .. -/
def LW (E : gE) (g : Nat → Nat) (M : gM) (tl te base n : Nat) : Prop := ∃ (mc : Int32) (el : Nat), M tl = some (.inr (0, [.int mc, .ref el, .int (nI n)])) ∧ (n = 0 → el = E.2.2.2.2 ∧ M te = none) ∧
  (0 < n → el = g te ∧ ∃ f : Nat → Option Nat, M te = some (.inl (E.2.2.2.1, (if n ≤ 10 then 10 else 15), .inr (.inr (.inr (.inr f))))) ∧ ∀ i, i < n → f i = some (g (base + i)))
/-- the class's world holds the state σ -/
def CW (E : gE) (g : Nat → Nat) (M : gM) (σ : Sg) : Prop :=
  (M 0 = some (.inr (5, [.ref (g 1), .ref (g 2), .ref (g 3), .ref (g 4), .int (nI (kD σ)), .int (sN σ), .int (sH σ), .int (sB σ)])) ∧ LW E g M 1 7 100 (kR σ) ∧ LW E g M 2 8 200 (kG σ) ∧ LW E g M 3 9 400 (kU σ)) ∧
  ((∃ as, M 4 = some (.inr (4, [.ref (g 5), .ref (g 6), .int as]))) ∧ (∃ f, M 5 = some (.inl (E.2.1, 12, .inl f))) ∧ (∃ f, M 6 = some (.inl (E.2.1, 10, .inl f)))) ∧
  (∀ i, i < kR σ → M (100 + i) = some (roomE σ i)) ∧
  (∀ i, i < kG σ → M (200 + i) = some (ghostE g σ i) ∧ ∃ f : Nat → Int32, M (300 + i) = some (.inl (E.2.1, 12, .inl f)) ∧ ∀ h, h < 12 → f h = plc σ i h) ∧
  (∀ i, i < kU σ → M (400 + i) = some (guestE σ i))
theorem CW.x {E : gE} {g : Nat → Nat} {M : gM} {σ : Sg} (h : CW E g M σ) : M 0 = some (.inr (5, [.ref (g 1), .ref (g 2), .ref (g 3), .ref (g 4), .int (nI (kD σ)), .int (sN σ), .int (sH σ), .int (sB σ)])) := h.1.1
theorem CW.room {E : gE} {g : Nat → Nat} {M : gM} {σ : Sg} (h : CW E g M σ) {i : Nat} (hi : i < kR σ) : M (100 + i) = some (roomE σ i) := h.2.2.1 i hi
theorem CW.ghost {E : gE} {g : Nat → Nat} {M : gM} {σ : Sg} (h : CW E g M σ) {i : Nat} (hi : i < kG σ) : M (200 + i) = some (ghostE g σ i) := (h.2.2.2.1 i hi).1
theorem CW.guest {E : gE} {g : Nat → Nat} {M : gM} {σ : Sg} (h : CW E g M σ) {i : Nat} (hi : i < kU σ) : M (400 + i) = some (guestE σ i) := h.2.2.2.2 i hi
theorem CW.LR {E : gE} {g : Nat → Nat} {M : gM} {σ : Sg} (h : CW E g M σ) : LW E g M 1 7 100 (kR σ) := h.1.2.1
theorem CW.LG {E : gE} {g : Nat → Nat} {M : gM} {σ : Sg} (h : CW E g M σ) : LW E g M 2 8 200 (kG σ) := h.1.2.2.1
theorem CW.LU {E : gE} {g : Nat → Nat} {M : gM} {σ : Sg} (h : CW E g M σ) : LW E g M 3 9 400 (kU σ) := h.1.2.2.2
theorem ix_ok {n N : Nat} (h : n < N ∧ N < 2 ^ 31) : vp_in (nI n) N := vp_in_nI h.1 h.2
theorem rd_ok {α : Type} {f : Nat → α} {i : Nat} {x : α} (hi : i < 2 ^ 31) (h : f i = x) : f (nI i).toNatClampNeg = x := by rw [nI_clamp hi]; exact h
end
section
/-- Integer.numberOfTrailingZeros, as its code has it -/
def ntz5 (n x : Int32) : Int32 := n + (x.toUInt32 >>> ((1 : Int32).toUInt32 &&& Int32.toUInt32 31)).toInt32
def ntz4 (n x : Int32) : Int32 := if x ≤ 4 then ntz5 n x else ntz5 (n + 2) (x.toUInt32 >>> ((2 : Int32).toUInt32 &&& Int32.toUInt32 31)).toInt32
def ntz3 (n x : Int32) : Int32 := if x ≤ 16 then ntz4 n x else ntz4 (n + 4) (x.toUInt32 >>> ((4 : Int32).toUInt32 &&& Int32.toUInt32 31)).toInt32
def ntz2 (n x : Int32) : Int32 := if x ≤ 256 then ntz3 n x else ntz3 (n + 8) (x.toUInt32 >>> ((8 : Int32).toUInt32 &&& Int32.toUInt32 31)).toInt32
def ntz1 (z0 : Int32) : Int32 := if 0 < z0 then (if z0 ≤ 65536 then ntz2 1 z0 else ntz2 (1 + 16) (z0.toUInt32 >>> ((16 : Int32).toUInt32 &&& Int32.toUInt32 31)).toInt32) else z0 &&& 32
def ntz (x : Int32) : Int32 := ntz1 ((x ^^^ (-1)) &&& (x - 1))
theorem bI_one {b : Bool} (h : b = true) : (1 : Int32) = bI b := by rw [h]; rfl
theorem bI_zero {b : Bool} (h : b = false) : (0 : Int32) = bI b := by rw [h]; rfl
/-- Integer.bitCount, as its code has it -/
def bitC (x : Int32) : Int32 :=
  let z1 := x - ((x.toUInt32 >>> ((1 : Int32).toUInt32 &&& Int32.toUInt32 31)).toInt32 &&& 1431655765)
  let z2 := (z1 &&& 858993459) + ((z1.toUInt32 >>> ((2 : Int32).toUInt32 &&& Int32.toUInt32 31)).toInt32 &&& 858993459)
  let z3 := (z2 + (z2.toUInt32 >>> ((4 : Int32).toUInt32 &&& Int32.toUInt32 31)).toInt32) &&& 252645135
  let z4 := z3 + (z3.toUInt32 >>> ((8 : Int32).toUInt32 &&& Int32.toUInt32 31)).toInt32
  let z5 := z4 + (z4.toUInt32 >>> ((16 : Int32).toUInt32 &&& Int32.toUInt32 31)).toInt32
  z5 &&& 63
theorem in_Jx4a65c_size_8abf5_Jx4a65c : ∀ w ∈ u_ws RJx4a65c TJx4a65c 3, w ∈ wsJx4a65c_size_8abf5 := by decide +kernel
set_option maxHeartbeats 4000000 in
set_option maxRecDepth 100000 in
/-- ArrayList.size() -/
theorem c_size0 (l : Launch) (E : gE) (A : Nat → Prop) (g : Nat → Nat) (M : gM) (tl : Nat) (mc : Int32) (el : Nat) (n : Int32) (h : M tl = some (.inr (0, [.int mc, .ref el, .int n]))) : Met l yJx4a65c_size_8abf5 wsJx4a65c_size_8abf5 ({ frames := 0, cells := 0, slots := 0, locals := 0 } : Room) (Pm E [.ref (g tl)] (mP E A g M)) (k2_QcV (.int n)) 0 0 (fun _ => False) := by
  refine m_entry (by decide) rfl (Nat.le_of_ble_eq_true rfl) ?_
  intro p e s m args below meth c hx hb hr hml hts hown hlocks hin hM hK ls hl
  have hl : lv_has ls 1 [(0, .ref (g tl))] := hl
  have hown : s.vm.findClass RJx4a65c = some m.cls := hown
  refine lv_aload_n hx hb dJx4a65c_size_8abf5_0 rfl (lv_at hl 0 rfl) ?_
  refine m_get hx hb hts in_Jx4a65c_size_8abf5_Jx4a65c hown hK hM h rfl 2 (by decide) (by decide +kernel) rfl dJx4a65c_size_8abf5_1 ?_
  exact r_i hx hb hr hlocks dJx4a65c_size_8abf5_4 (rfl)
set_option maxHeartbeats 4000000 in
set_option maxRecDepth 100000 in
/-- Preconditions.checkIndex(i, n, null) where i is an index -/
theorem c_checkIndex3 (l : Launch) (E : gE) (A : Nat → Prop) (g : Nat → Nat) (M : gM) (i n : Int32) (h0 : ¬ i < 0) (h1 : i < n) : Met l yJ3_checkIndex_8e157 wsJ3_checkIndex_8e157 ({ frames := 0, cells := 0, slots := 0, locals := 0 } : Room) (Pm E [.int i, .int n, .null] (fun _ => True)) (k2_QcV (.int i)) 0 0 (fun _ => False) := by
  refine m_entry (by decide) rfl (Nat.le_of_ble_eq_true rfl) ?_
  intro p e s m args below meth c hx hb hr hml hts hown hlocks hin _ hK ls hl
  have hl : lv_has ls 3 [(0, .int i), (1, .int n), (2, .null)] := hl
  have hown : s.vm.findClass RJ3 = some m.cls := hown
  refine lv_iload_n hx hb dJ3_checkIndex_8e157_0 rfl (lv_at hl 0 rfl) ?_
  refine lv_if_lt (tgt := 9) hx hb dJ3_checkIndex_8e157_1 (by decide) (fun c9 => absurd c9 h0) (fun c1 => ?_)
  refine lv_iload_n hx hb dJ3_checkIndex_8e157_4 rfl (lv_at hl 0 rfl) ?_
  refine lv_iload_n hx hb dJ3_checkIndex_8e157_5 rfl (lv_at hl 1 rfl) ?_
  refine lv_icmp_lt (tgt := 16) hx hb dJ3_checkIndex_8e157_6 (by decide) (fun c6 => ?_) (fun c9 => absurd h1 c9)
  refine lv_iload_n hx hb dJ3_checkIndex_8e157_16 rfl (lv_at hl 0 rfl) ?_
  exact r_i hx hb hr hlocks dJ3_checkIndex_8e157_17 (rfl)
set_option maxHeartbeats 4000000 in
set_option maxRecDepth 100000 in
theorem c_checkIndex2 (l : Launch) (E : gE) (A : Nat → Prop) (g : Nat → Nat) (M : gM) (i n : Int32) (h0 : ¬ i < 0) (h1 : i < n) : Met l yJ15_checkIndex_7cf53 wsJ15_checkIndex_7cf53 ({ frames := 1, cells := 0, slots := 0, locals := 22 } : Room) (Pm E [.int i, .int n] (fun _ => True)) (k2_QcV (.int i)) 0 0 (fun _ => False) := by
  refine m_entry (by decide) rfl (Nat.le_of_ble_eq_true rfl) ?_
  intro p e s m args below meth c hx hb hr hml hts hown hlocks hin _ hK ls hl
  have hl : lv_has ls 2 [(0, .int i), (1, .int n)] := hl
  have hown : s.vm.findClass RJ15 = some m.cls := hown
  refine lv_iload_n hx hb dJ15_checkIndex_7cf53_0 rfl (lv_at hl 0 rfl) ?_
  refine lv_iload_n hx hb dJ15_checkIndex_7cf53_1 rfl (lv_at hl 1 rfl) ?_
  refine lv_null hx hb dJ15_checkIndex_7cf53_2 ?_
  refine m_cS 3 [.int i, .int n, .null] [] hx hb hml hown hts hK (c_checkIndex3 l E A g M i n h0 h1) gJ15_checkIndex_7cf53_J3_checkIndex_8e157 rfl rfl rfl (by decide +kernel) rfl ⟨Nat.le_of_ble_eq_true rfl, Nat.le_of_ble_eq_true rfl⟩ trivial hl.1 (Nat.le_of_ble_eq_true rfl) ⟨Nat.le_of_ble_eq_true rfl, Nat.le_of_ble_eq_true rfl⟩ rfl dJ15_checkIndex_7cf53_3 ?_
  exact r_i hx hb hr hlocks dJ15_checkIndex_7cf53_6 (rfl)
theorem in_Jx4a65c_elementData_915e3_Jx4a65c : ∀ w ∈ u_ws RJx4a65c TJx4a65c 3, w ∈ wsJx4a65c_elementData_915e3 := by decide +kernel
set_option maxHeartbeats 4000000 in
set_option maxRecDepth 100000 in
theorem c_elementData (l : Launch) (E : gE) (A : Nat → Prop) (g : Nat → Nat) (M : gM) (tl te cap : Nat) (mc : Int32) (n : Nat) (f : Nat → Option Nat) (h : M tl = some (.inr (0, [.int mc, .ref (g te), .int (nI n)]))) (h2 : M te = some (.inl (E.2.2.2.1, cap, .inr (.inr (.inr (.inr f)))))) (i a : Nat) (hi : i < n) (hn : n ≤ cap) (hc : cap ≤ 15) (ha : f i = some a) : Met l yJx4a65c_elementData_915e3 wsJx4a65c_elementData_915e3 ({ frames := 0, cells := 0, slots := 0, locals := 0 } : Room) (Pm E [.ref (g tl), .int (nI i)] (mP E A g M)) (k2_QcV (.ref a)) 0 0 (fun _ => False) := by
  refine m_entry (by decide) rfl (Nat.le_of_ble_eq_true rfl) ?_
  intro p e s m args below meth c hx hb hr hml hts hown hlocks hin hM hK ls hl
  have hl : lv_has ls 2 [(0, .ref (g tl)), (1, .int (nI i))] := hl
  have hown : s.vm.findClass RJx4a65c = some m.cls := hown
  refine lv_aload_n hx hb dJx4a65c_elementData_915e3_0 rfl (lv_at hl 0 rfl) ?_
  refine m_get hx hb hts in_Jx4a65c_elementData_915e3_Jx4a65c hown hK hM h rfl 1 (by decide) (by decide +kernel) rfl dJx4a65c_elementData_915e3_1 ?_
  refine lv_iload_n hx hb dJx4a65c_elementData_915e3_4 rfl (lv_at hl 1 rfl) ?_
  refine m_aald (v := .ref a) hx hb hK hM h2 (ix_ok (by omega)) (by rw [nI_clamp (by omega), ha]; rfl) dJx4a65c_elementData_915e3_5 ?_
  exact r_a hx hb hr hlocks dJx4a65c_elementData_915e3_6 (rfl)
theorem in_Jx4a65c_get_915e3_Jx4a65c : ∀ w ∈ u_ws RJx4a65c TJx4a65c 3, w ∈ wsJx4a65c_get_915e3 := by decide +kernel
set_option maxHeartbeats 4000000 in
set_option maxRecDepth 100000 in
theorem c_get0 (l : Launch) (E : gE) (A : Nat → Prop) (g : Nat → Nat) (M : gM) (tl te cap : Nat) (mc : Int32) (n : Nat) (f : Nat → Option Nat) (h : M tl = some (.inr (0, [.int mc, .ref (g te), .int (nI n)]))) (h2 : M te = some (.inl (E.2.2.2.1, cap, .inr (.inr (.inr (.inr f)))))) (i a : Nat) (hi : i < n) (hn : n ≤ cap) (hc : cap ≤ 15) (ha : f i = some a) : Met l yJx4a65c_get_915e3 wsJx4a65c_get_915e3 ({ frames := 2, cells := 0, slots := 0, locals := 43 } : Room) (Pm E [.ref (g tl), .int (nI i)] (mP E A g M)) (k2_QcV (.ref a)) 0 0 (fun _ => False) := by
  refine m_entry (by decide) rfl (Nat.le_of_ble_eq_true rfl) ?_
  intro p e s m args below meth c hx hb hr hml hts hown hlocks hin hM hK ls hl
  have hl : lv_has ls 2 [(0, .ref (g tl)), (1, .int (nI i))] := hl
  have hown : s.vm.findClass RJx4a65c = some m.cls := hown
  refine lv_iload_n hx hb dJx4a65c_get_915e3_0 rfl (lv_at hl 1 rfl) ?_
  refine lv_aload_n hx hb dJx4a65c_get_915e3_1 rfl (lv_at hl 0 rfl) ?_
  refine m_get hx hb hts in_Jx4a65c_get_915e3_Jx4a65c hown hK hM h rfl 2 (by decide) (by decide +kernel) rfl dJx4a65c_get_915e3_2 ?_
  refine m_cS 2 [.int (nI i), .int (nI n)] [] hx hb hml hown hts hK (c_checkIndex2 l E A g M (nI i) (nI n) (nI_pos (by omega)) (nI_lt hi (by omega))) gJx4a65c_get_915e3_J15_checkIndex_7cf53 rfl rfl rfl (by decide +kernel) rfl ⟨Nat.le_of_ble_eq_true rfl, Nat.le_of_ble_eq_true rfl⟩ trivial hl.1 (Nat.le_of_ble_eq_true rfl) ⟨Nat.le_of_ble_eq_true rfl, Nat.le_of_ble_eq_true rfl⟩ rfl dJx4a65c_get_915e3_5 ?_
  refine lv_pop hx hb dJx4a65c_get_915e3_8 rfl ?_
  refine lv_aload_n hx hb dJx4a65c_get_915e3_9 rfl (lv_at hl 0 rfl) ?_
  refine lv_iload_n hx hb dJx4a65c_get_915e3_10 rfl (lv_at hl 1 rfl) ?_
  refine m_cV 1 [.int (nI i)] [] hx hb hml hown hts hK (c_elementData l E A g M tl te cap mc n f h h2 i a hi hn hc ha) gJx4a65c_get_915e3_Jx4a65c_elementData_915e3 rfl rfl rfl (by decide +kernel) rfl ⟨Nat.le_of_ble_eq_true rfl, Nat.le_of_ble_eq_true rfl⟩ hM h rfl rfl hM hl.1 (Nat.le_of_ble_eq_true rfl) ⟨Nat.le_of_ble_eq_true rfl, Nat.le_of_ble_eq_true rfl⟩ rfl dJx4a65c_get_915e3_11 ?_
  exact r_a hx hb hr hlocks dJx4a65c_get_915e3_14 (rfl)
set_option maxHeartbeats 4000000 in
set_option maxRecDepth 100000 in
theorem c_bitCount (l : Launch) (E : gE) (A : Nat → Prop) (g : Nat → Nat) (M : gM) (x : Int32) : Met l yJ6_bitCount_0f7a4 wsJ6_bitCount_0f7a4 ({ frames := 0, cells := 0, slots := 0, locals := 0 } : Room) (Pm E [.int x] (fun _ => True)) (k2_QcV (.int (bitC x))) 0 0 (fun _ => False) := by
  refine m_entry (by decide) rfl (Nat.le_of_ble_eq_true rfl) ?_
  intro p e s m args below meth c hx hb hr hml hts hown hlocks hin _ hK ls hl
  have hl : lv_has ls 1 [(0, .int x)] := hl
  have hown : s.vm.findClass RJ6 = some m.cls := hown
  refine lv_iload_n hx hb dJ6_bitCount_0f7a4_0 rfl (lv_at hl 0 rfl) ?_
  refine lv_iload_n hx hb dJ6_bitCount_0f7a4_1 rfl (lv_at hl 0 rfl) ?_
  refine lv_iconst (v := 1) hx hb dJ6_bitCount_0f7a4_2 (by decide) ?_
  refine lv_iushr hx hb dJ6_bitCount_0f7a4_3 rfl ?_
  refine lv_ldcw (v := 1431655765) hx hb hown (hts _ (by decide +kernel)) dJ6_bitCount_0f7a4_4 ?_
  refine lv_iand hx hb dJ6_bitCount_0f7a4_7 ?_
  refine lv_isub hx hb dJ6_bitCount_0f7a4_8 ?_
  refine lv_topi (fun z1 ez1 => ?_)
  refine lv_istore_n (lv' := [(0, .int z1)]) hx hb dJ6_bitCount_0f7a4_9 rfl hl (by decide) rfl (fun ls hl => ?_)
  refine lv_iload_n hx hb dJ6_bitCount_0f7a4_10 rfl (lv_at hl 0 rfl) ?_
  refine lv_ldcw (v := 858993459) hx hb hown (hts _ (by decide +kernel)) dJ6_bitCount_0f7a4_11 ?_
  refine lv_iand hx hb dJ6_bitCount_0f7a4_14 ?_
  refine lv_iload_n hx hb dJ6_bitCount_0f7a4_15 rfl (lv_at hl 0 rfl) ?_
  refine lv_iconst (v := 2) hx hb dJ6_bitCount_0f7a4_16 (by decide) ?_
  refine lv_iushr hx hb dJ6_bitCount_0f7a4_17 rfl ?_
  refine lv_ldcw (v := 858993459) hx hb hown (hts _ (by decide +kernel)) dJ6_bitCount_0f7a4_18 ?_
  refine lv_iand hx hb dJ6_bitCount_0f7a4_21 ?_
  refine lv_iadd hx hb dJ6_bitCount_0f7a4_22 ?_
  refine lv_topi (fun z2 ez2 => ?_)
  refine lv_istore_n (lv' := [(0, .int z2)]) hx hb dJ6_bitCount_0f7a4_23 rfl hl (by decide) rfl (fun ls hl => ?_)
  refine lv_iload_n hx hb dJ6_bitCount_0f7a4_24 rfl (lv_at hl 0 rfl) ?_
  refine lv_iload_n hx hb dJ6_bitCount_0f7a4_25 rfl (lv_at hl 0 rfl) ?_
  refine lv_iconst (v := 4) hx hb dJ6_bitCount_0f7a4_26 (by decide) ?_
  refine lv_iushr hx hb dJ6_bitCount_0f7a4_27 rfl ?_
  refine lv_iadd hx hb dJ6_bitCount_0f7a4_28 ?_
  refine lv_ldcw (v := 252645135) hx hb hown (hts _ (by decide +kernel)) dJ6_bitCount_0f7a4_29 ?_
  refine lv_iand hx hb dJ6_bitCount_0f7a4_32 ?_
  refine lv_topi (fun z3 ez3 => ?_)
  refine lv_istore_n (lv' := [(0, .int z3)]) hx hb dJ6_bitCount_0f7a4_33 rfl hl (by decide) rfl (fun ls hl => ?_)
  refine lv_iload_n hx hb dJ6_bitCount_0f7a4_34 rfl (lv_at hl 0 rfl) ?_
  refine lv_iload_n hx hb dJ6_bitCount_0f7a4_35 rfl (lv_at hl 0 rfl) ?_
  refine lv_bipush (v := 8) hx hb dJ6_bitCount_0f7a4_36 (by decide) ?_
  refine lv_iushr hx hb dJ6_bitCount_0f7a4_38 rfl ?_
  refine lv_iadd hx hb dJ6_bitCount_0f7a4_39 ?_
  refine lv_topi (fun z4 ez4 => ?_)
  refine lv_istore_n (lv' := [(0, .int z4)]) hx hb dJ6_bitCount_0f7a4_40 rfl hl (by decide) rfl (fun ls hl => ?_)
  refine lv_iload_n hx hb dJ6_bitCount_0f7a4_41 rfl (lv_at hl 0 rfl) ?_
  refine lv_iload_n hx hb dJ6_bitCount_0f7a4_42 rfl (lv_at hl 0 rfl) ?_
  refine lv_bipush (v := 16) hx hb dJ6_bitCount_0f7a4_43 (by decide) ?_
  refine lv_iushr hx hb dJ6_bitCount_0f7a4_45 rfl ?_
  refine lv_iadd hx hb dJ6_bitCount_0f7a4_46 ?_
  refine lv_topi (fun z5 ez5 => ?_)
  refine lv_istore_n (lv' := [(0, .int z5)]) hx hb dJ6_bitCount_0f7a4_47 rfl hl (by decide) rfl (fun ls hl => ?_)
  refine lv_iload_n hx hb dJ6_bitCount_0f7a4_48 rfl (lv_at hl 0 rfl) ?_
  refine lv_bipush (v := 63) hx hb dJ6_bitCount_0f7a4_49 (by decide) ?_
  refine lv_iand hx hb dJ6_bitCount_0f7a4_51 ?_
  exact r_i hx hb hr hlocks dJ6_bitCount_0f7a4_52 (by rw [ez5, ez4, ez3, ez2, ez1]; rfl)
set_option maxHeartbeats 4000000 in
set_option maxRecDepth 100000 in
theorem c_ntz (l : Launch) (E : gE) (A : Nat → Prop) (g : Nat → Nat) (M : gM) (x : Int32) : Met l yJ6_numberOfTrailingZeros_0f7a4 wsJ6_numberOfTrailingZeros_0f7a4 ({ frames := 0, cells := 0, slots := 0, locals := 0 } : Room) (Pm E [.int x] (fun _ => True)) (k2_QcV (.int (ntz x))) 0 0 (fun _ => False) := by
  refine m_entry (by decide) rfl (Nat.le_of_ble_eq_true rfl) ?_
  intro p e s m args below meth c hx hb hr hml hts hown hlocks hin _ hK ls hl
  have hl : lv_has ls 2 [(0, .int x)] := hl
  have hown : s.vm.findClass RJ6 = some m.cls := hown
  refine lv_iload_n hx hb dJ6_numberOfTrailingZeros_0f7a4_0 rfl (lv_at hl 0 rfl) ?_
  refine lv_iconst (v := (-1)) hx hb dJ6_numberOfTrailingZeros_0f7a4_1 (by decide) ?_
  refine lv_ixor hx hb dJ6_numberOfTrailingZeros_0f7a4_2 ?_
  refine lv_iload_n hx hb dJ6_numberOfTrailingZeros_0f7a4_3 rfl (lv_at hl 0 rfl) ?_
  refine lv_iconst (v := 1) hx hb dJ6_numberOfTrailingZeros_0f7a4_4 (by decide) ?_
  refine lv_isub hx hb dJ6_numberOfTrailingZeros_0f7a4_5 ?_
  refine lv_iand hx hb dJ6_numberOfTrailingZeros_0f7a4_6 ?_
  refine lv_topi (fun z0 ez0 => ?_)
  refine lv_istore_n (lv' := [(0, .int z0)]) hx hb dJ6_numberOfTrailingZeros_0f7a4_7 rfl hl (by decide) rfl (fun ls hl => ?_)
  refine lv_iload_n hx hb dJ6_numberOfTrailingZeros_0f7a4_8 rfl (lv_at hl 0 rfl) ?_
  refine lv_if_gt (tgt := 17) hx hb dJ6_numberOfTrailingZeros_0f7a4_9 (by decide) (fun c9 => ?_) (fun c9 => ?_)
  · refine lv_iconst (v := 1) hx hb dJ6_numberOfTrailingZeros_0f7a4_17 (by decide) ?_
    refine lv_istore_n (lv' := [(1, .int 1), (0, .int z0)]) hx hb dJ6_numberOfTrailingZeros_0f7a4_18 rfl hl (by decide) rfl (fun ls hl => ?_)
    refine lv_iload_n hx hb dJ6_numberOfTrailingZeros_0f7a4_19 rfl (lv_at hl 1 rfl) ?_
    refine lv_ldcw (v := 65536) hx hb hown (hts _ (by decide +kernel)) dJ6_numberOfTrailingZeros_0f7a4_20 ?_
    refine lv_icmp_le (tgt := 34) hx hb dJ6_numberOfTrailingZeros_0f7a4_23 (by decide) (fun c23 => ?_) (fun c23 => ?_)
    · refine lv_iload_n hx hb dJ6_numberOfTrailingZeros_0f7a4_34 rfl (lv_at hl 1 rfl) ?_
      refine lv_sipush (v := 256) hx hb dJ6_numberOfTrailingZeros_0f7a4_35 (by decide) ?_
      refine lv_icmp_le (tgt := 49) hx hb dJ6_numberOfTrailingZeros_0f7a4_38 (by decide) (fun c38 => ?_) (fun c38 => ?_)
      · refine lv_iload_n hx hb dJ6_numberOfTrailingZeros_0f7a4_49 rfl (lv_at hl 1 rfl) ?_
        refine lv_bipush (v := 16) hx hb dJ6_numberOfTrailingZeros_0f7a4_50 (by decide) ?_
        refine lv_icmp_le (tgt := 62) hx hb dJ6_numberOfTrailingZeros_0f7a4_52 (by decide) (fun c52 => ?_) (fun c52 => ?_)
        · refine lv_iload_n hx hb dJ6_numberOfTrailingZeros_0f7a4_62 rfl (lv_at hl 1 rfl) ?_
          refine lv_iconst (v := 4) hx hb dJ6_numberOfTrailingZeros_0f7a4_63 (by decide) ?_
          refine lv_icmp_le (tgt := 74) hx hb dJ6_numberOfTrailingZeros_0f7a4_64 (by decide) (fun c64 => ?_) (fun c64 => ?_)
          · refine lv_iload_n hx hb dJ6_numberOfTrailingZeros_0f7a4_74 rfl (lv_at hl 0 rfl) ?_
            refine lv_iload_n hx hb dJ6_numberOfTrailingZeros_0f7a4_75 rfl (lv_at hl 1 rfl) ?_
            refine lv_iconst (v := 1) hx hb dJ6_numberOfTrailingZeros_0f7a4_76 (by decide) ?_
            refine lv_iushr hx hb dJ6_numberOfTrailingZeros_0f7a4_77 rfl ?_
            refine lv_iadd hx hb dJ6_numberOfTrailingZeros_0f7a4_78 ?_
            exact r_i hx hb hr hlocks dJ6_numberOfTrailingZeros_0f7a4_79 (by simp only [ntz, ntz1, ntz2, ntz3, ntz4, ntz5, ← ez0, c9, c23, c38, c52, c64, if_true, if_false])
          · refine lv_iinc (v := 1 + 2) (lv' := [(1, .int (1 + 2)), (0, .int z0)]) hx hb dJ6_numberOfTrailingZeros_0f7a4_67 hl (k := 0) rfl (by first | rfl | decide) (by decide) rfl (fun ls hl => ?_)
            refine lv_iload_n hx hb dJ6_numberOfTrailingZeros_0f7a4_70 rfl (lv_at hl 1 rfl) ?_
            refine lv_iconst (v := 2) hx hb dJ6_numberOfTrailingZeros_0f7a4_71 (by decide) ?_
            refine lv_iushr hx hb dJ6_numberOfTrailingZeros_0f7a4_72 rfl ?_
            refine lv_topi (fun z4 ez4 => ?_)
            refine lv_istore_n (lv' := [(0, .int z4), (1, .int (1 + 2))]) hx hb dJ6_numberOfTrailingZeros_0f7a4_73 rfl hl (by decide) rfl (fun ls hl => ?_)
            refine lv_iload_n hx hb dJ6_numberOfTrailingZeros_0f7a4_74 rfl (lv_at hl 1 rfl) ?_
            refine lv_iload_n hx hb dJ6_numberOfTrailingZeros_0f7a4_75 rfl (lv_at hl 0 rfl) ?_
            refine lv_iconst (v := 1) hx hb dJ6_numberOfTrailingZeros_0f7a4_76 (by decide) ?_
            refine lv_iushr hx hb dJ6_numberOfTrailingZeros_0f7a4_77 rfl ?_
            refine lv_iadd hx hb dJ6_numberOfTrailingZeros_0f7a4_78 ?_
            exact r_i hx hb hr hlocks dJ6_numberOfTrailingZeros_0f7a4_79 (by simp only [ntz, ntz1, ntz2, ntz3, ntz4, ntz5, ← ez0, ← ez4, c9, c23, c38, c52, c64, if_true, if_false])
        · refine lv_iinc (v := 1 + 4) (lv' := [(1, .int (1 + 4)), (0, .int z0)]) hx hb dJ6_numberOfTrailingZeros_0f7a4_55 hl (k := 0) rfl (by first | rfl | decide) (by decide) rfl (fun ls hl => ?_)
          refine lv_iload_n hx hb dJ6_numberOfTrailingZeros_0f7a4_58 rfl (lv_at hl 1 rfl) ?_
          refine lv_iconst (v := 4) hx hb dJ6_numberOfTrailingZeros_0f7a4_59 (by decide) ?_
          refine lv_iushr hx hb dJ6_numberOfTrailingZeros_0f7a4_60 rfl ?_
          refine lv_topi (fun z3 ez3 => ?_)
          refine lv_istore_n (lv' := [(0, .int z3), (1, .int (1 + 4))]) hx hb dJ6_numberOfTrailingZeros_0f7a4_61 rfl hl (by decide) rfl (fun ls hl => ?_)
          refine lv_iload_n hx hb dJ6_numberOfTrailingZeros_0f7a4_62 rfl (lv_at hl 0 rfl) ?_
          refine lv_iconst (v := 4) hx hb dJ6_numberOfTrailingZeros_0f7a4_63 (by decide) ?_
          refine lv_icmp_le (tgt := 74) hx hb dJ6_numberOfTrailingZeros_0f7a4_64 (by decide) (fun c64 => ?_) (fun c64 => ?_)
          · refine lv_iload_n hx hb dJ6_numberOfTrailingZeros_0f7a4_74 rfl (lv_at hl 1 rfl) ?_
            refine lv_iload_n hx hb dJ6_numberOfTrailingZeros_0f7a4_75 rfl (lv_at hl 0 rfl) ?_
            refine lv_iconst (v := 1) hx hb dJ6_numberOfTrailingZeros_0f7a4_76 (by decide) ?_
            refine lv_iushr hx hb dJ6_numberOfTrailingZeros_0f7a4_77 rfl ?_
            refine lv_iadd hx hb dJ6_numberOfTrailingZeros_0f7a4_78 ?_
            exact r_i hx hb hr hlocks dJ6_numberOfTrailingZeros_0f7a4_79 (by simp only [ntz, ntz1, ntz2, ntz3, ntz4, ntz5, ← ez0, ← ez3, c9, c23, c38, c52, c64, if_true, if_false])
          · refine lv_iinc (v := (1 + 4) + 2) (lv' := [(1, .int ((1 + 4) + 2)), (0, .int z3)]) hx hb dJ6_numberOfTrailingZeros_0f7a4_67 hl (k := 1) rfl (by first | rfl | decide) (by decide) rfl (fun ls hl => ?_)
            refine lv_iload_n hx hb dJ6_numberOfTrailingZeros_0f7a4_70 rfl (lv_at hl 1 rfl) ?_
            refine lv_iconst (v := 2) hx hb dJ6_numberOfTrailingZeros_0f7a4_71 (by decide) ?_
            refine lv_iushr hx hb dJ6_numberOfTrailingZeros_0f7a4_72 rfl ?_
            refine lv_topi (fun z4 ez4 => ?_)
            refine lv_istore_n (lv' := [(0, .int z4), (1, .int ((1 + 4) + 2))]) hx hb dJ6_numberOfTrailingZeros_0f7a4_73 rfl hl (by decide) rfl (fun ls hl => ?_)
            refine lv_iload_n hx hb dJ6_numberOfTrailingZeros_0f7a4_74 rfl (lv_at hl 1 rfl) ?_
            refine lv_iload_n hx hb dJ6_numberOfTrailingZeros_0f7a4_75 rfl (lv_at hl 0 rfl) ?_
            refine lv_iconst (v := 1) hx hb dJ6_numberOfTrailingZeros_0f7a4_76 (by decide) ?_
            refine lv_iushr hx hb dJ6_numberOfTrailingZeros_0f7a4_77 rfl ?_
            refine lv_iadd hx hb dJ6_numberOfTrailingZeros_0f7a4_78 ?_
            exact r_i hx hb hr hlocks dJ6_numberOfTrailingZeros_0f7a4_79 (by simp only [ntz, ntz1, ntz2, ntz3, ntz4, ntz5, ← ez0, ← ez3, ← ez4, c9, c23, c38, c52, c64, if_true, if_false])
      · refine lv_iinc (v := 1 + 8) (lv' := [(1, .int (1 + 8)), (0, .int z0)]) hx hb dJ6_numberOfTrailingZeros_0f7a4_41 hl (k := 0) rfl (by first | rfl | decide) (by decide) rfl (fun ls hl => ?_)
        refine lv_iload_n hx hb dJ6_numberOfTrailingZeros_0f7a4_44 rfl (lv_at hl 1 rfl) ?_
        refine lv_bipush (v := 8) hx hb dJ6_numberOfTrailingZeros_0f7a4_45 (by decide) ?_
        refine lv_iushr hx hb dJ6_numberOfTrailingZeros_0f7a4_47 rfl ?_
        refine lv_topi (fun z2 ez2 => ?_)
        refine lv_istore_n (lv' := [(0, .int z2), (1, .int (1 + 8))]) hx hb dJ6_numberOfTrailingZeros_0f7a4_48 rfl hl (by decide) rfl (fun ls hl => ?_)
        refine lv_iload_n hx hb dJ6_numberOfTrailingZeros_0f7a4_49 rfl (lv_at hl 0 rfl) ?_
        refine lv_bipush (v := 16) hx hb dJ6_numberOfTrailingZeros_0f7a4_50 (by decide) ?_
        refine lv_icmp_le (tgt := 62) hx hb dJ6_numberOfTrailingZeros_0f7a4_52 (by decide) (fun c52 => ?_) (fun c52 => ?_)
        · refine lv_iload_n hx hb dJ6_numberOfTrailingZeros_0f7a4_62 rfl (lv_at hl 0 rfl) ?_
          refine lv_iconst (v := 4) hx hb dJ6_numberOfTrailingZeros_0f7a4_63 (by decide) ?_
          refine lv_icmp_le (tgt := 74) hx hb dJ6_numberOfTrailingZeros_0f7a4_64 (by decide) (fun c64 => ?_) (fun c64 => ?_)
          · refine lv_iload_n hx hb dJ6_numberOfTrailingZeros_0f7a4_74 rfl (lv_at hl 1 rfl) ?_
            refine lv_iload_n hx hb dJ6_numberOfTrailingZeros_0f7a4_75 rfl (lv_at hl 0 rfl) ?_
            refine lv_iconst (v := 1) hx hb dJ6_numberOfTrailingZeros_0f7a4_76 (by decide) ?_
            refine lv_iushr hx hb dJ6_numberOfTrailingZeros_0f7a4_77 rfl ?_
            refine lv_iadd hx hb dJ6_numberOfTrailingZeros_0f7a4_78 ?_
            exact r_i hx hb hr hlocks dJ6_numberOfTrailingZeros_0f7a4_79 (by simp only [ntz, ntz1, ntz2, ntz3, ntz4, ntz5, ← ez0, ← ez2, c9, c23, c38, c52, c64, if_true, if_false])
          · refine lv_iinc (v := (1 + 8) + 2) (lv' := [(1, .int ((1 + 8) + 2)), (0, .int z2)]) hx hb dJ6_numberOfTrailingZeros_0f7a4_67 hl (k := 1) rfl (by first | rfl | decide) (by decide) rfl (fun ls hl => ?_)
            refine lv_iload_n hx hb dJ6_numberOfTrailingZeros_0f7a4_70 rfl (lv_at hl 1 rfl) ?_
            refine lv_iconst (v := 2) hx hb dJ6_numberOfTrailingZeros_0f7a4_71 (by decide) ?_
            refine lv_iushr hx hb dJ6_numberOfTrailingZeros_0f7a4_72 rfl ?_
            refine lv_topi (fun z4 ez4 => ?_)
            refine lv_istore_n (lv' := [(0, .int z4), (1, .int ((1 + 8) + 2))]) hx hb dJ6_numberOfTrailingZeros_0f7a4_73 rfl hl (by decide) rfl (fun ls hl => ?_)
            refine lv_iload_n hx hb dJ6_numberOfTrailingZeros_0f7a4_74 rfl (lv_at hl 1 rfl) ?_
            refine lv_iload_n hx hb dJ6_numberOfTrailingZeros_0f7a4_75 rfl (lv_at hl 0 rfl) ?_
            refine lv_iconst (v := 1) hx hb dJ6_numberOfTrailingZeros_0f7a4_76 (by decide) ?_
            refine lv_iushr hx hb dJ6_numberOfTrailingZeros_0f7a4_77 rfl ?_
            refine lv_iadd hx hb dJ6_numberOfTrailingZeros_0f7a4_78 ?_
            exact r_i hx hb hr hlocks dJ6_numberOfTrailingZeros_0f7a4_79 (by simp only [ntz, ntz1, ntz2, ntz3, ntz4, ntz5, ← ez0, ← ez2, ← ez4, c9, c23, c38, c52, c64, if_true, if_false])
        · refine lv_iinc (v := (1 + 8) + 4) (lv' := [(1, .int ((1 + 8) + 4)), (0, .int z2)]) hx hb dJ6_numberOfTrailingZeros_0f7a4_55 hl (k := 1) rfl (by first | rfl | decide) (by decide) rfl (fun ls hl => ?_)
          refine lv_iload_n hx hb dJ6_numberOfTrailingZeros_0f7a4_58 rfl (lv_at hl 1 rfl) ?_
          refine lv_iconst (v := 4) hx hb dJ6_numberOfTrailingZeros_0f7a4_59 (by decide) ?_
          refine lv_iushr hx hb dJ6_numberOfTrailingZeros_0f7a4_60 rfl ?_
          refine lv_topi (fun z3 ez3 => ?_)
          refine lv_istore_n (lv' := [(0, .int z3), (1, .int ((1 + 8) + 4))]) hx hb dJ6_numberOfTrailingZeros_0f7a4_61 rfl hl (by decide) rfl (fun ls hl => ?_)
          refine lv_iload_n hx hb dJ6_numberOfTrailingZeros_0f7a4_62 rfl (lv_at hl 0 rfl) ?_
          refine lv_iconst (v := 4) hx hb dJ6_numberOfTrailingZeros_0f7a4_63 (by decide) ?_
          refine lv_icmp_le (tgt := 74) hx hb dJ6_numberOfTrailingZeros_0f7a4_64 (by decide) (fun c64 => ?_) (fun c64 => ?_)
          · refine lv_iload_n hx hb dJ6_numberOfTrailingZeros_0f7a4_74 rfl (lv_at hl 1 rfl) ?_
            refine lv_iload_n hx hb dJ6_numberOfTrailingZeros_0f7a4_75 rfl (lv_at hl 0 rfl) ?_
            refine lv_iconst (v := 1) hx hb dJ6_numberOfTrailingZeros_0f7a4_76 (by decide) ?_
            refine lv_iushr hx hb dJ6_numberOfTrailingZeros_0f7a4_77 rfl ?_
            refine lv_iadd hx hb dJ6_numberOfTrailingZeros_0f7a4_78 ?_
            exact r_i hx hb hr hlocks dJ6_numberOfTrailingZeros_0f7a4_79 (by simp only [ntz, ntz1, ntz2, ntz3, ntz4, ntz5, ← ez0, ← ez2, ← ez3, c9, c23, c38, c52, c64, if_true, if_false])
          · refine lv_iinc (v := ((1 + 8) + 4) + 2) (lv' := [(1, .int (((1 + 8) + 4) + 2)), (0, .int z3)]) hx hb dJ6_numberOfTrailingZeros_0f7a4_67 hl (k := 1) rfl (by first | rfl | decide) (by decide) rfl (fun ls hl => ?_)
            refine lv_iload_n hx hb dJ6_numberOfTrailingZeros_0f7a4_70 rfl (lv_at hl 1 rfl) ?_
            refine lv_iconst (v := 2) hx hb dJ6_numberOfTrailingZeros_0f7a4_71 (by decide) ?_
            refine lv_iushr hx hb dJ6_numberOfTrailingZeros_0f7a4_72 rfl ?_
            refine lv_topi (fun z4 ez4 => ?_)
            refine lv_istore_n (lv' := [(0, .int z4), (1, .int (((1 + 8) + 4) + 2))]) hx hb dJ6_numberOfTrailingZeros_0f7a4_73 rfl hl (by decide) rfl (fun ls hl => ?_)
            refine lv_iload_n hx hb dJ6_numberOfTrailingZeros_0f7a4_74 rfl (lv_at hl 1 rfl) ?_
            refine lv_iload_n hx hb dJ6_numberOfTrailingZeros_0f7a4_75 rfl (lv_at hl 0 rfl) ?_
            refine lv_iconst (v := 1) hx hb dJ6_numberOfTrailingZeros_0f7a4_76 (by decide) ?_
            refine lv_iushr hx hb dJ6_numberOfTrailingZeros_0f7a4_77 rfl ?_
            refine lv_iadd hx hb dJ6_numberOfTrailingZeros_0f7a4_78 ?_
            exact r_i hx hb hr hlocks dJ6_numberOfTrailingZeros_0f7a4_79 (by simp only [ntz, ntz1, ntz2, ntz3, ntz4, ntz5, ← ez0, ← ez2, ← ez3, ← ez4, c9, c23, c38, c52, c64, if_true, if_false])
    · refine lv_iinc (v := 1 + 16) (lv' := [(1, .int (1 + 16)), (0, .int z0)]) hx hb dJ6_numberOfTrailingZeros_0f7a4_26 hl (k := 0) rfl (by first | rfl | decide) (by decide) rfl (fun ls hl => ?_)
      refine lv_iload_n hx hb dJ6_numberOfTrailingZeros_0f7a4_29 rfl (lv_at hl 1 rfl) ?_
      refine lv_bipush (v := 16) hx hb dJ6_numberOfTrailingZeros_0f7a4_30 (by decide) ?_
      refine lv_iushr hx hb dJ6_numberOfTrailingZeros_0f7a4_32 rfl ?_
      refine lv_topi (fun z1 ez1 => ?_)
      refine lv_istore_n (lv' := [(0, .int z1), (1, .int (1 + 16))]) hx hb dJ6_numberOfTrailingZeros_0f7a4_33 rfl hl (by decide) rfl (fun ls hl => ?_)
      refine lv_iload_n hx hb dJ6_numberOfTrailingZeros_0f7a4_34 rfl (lv_at hl 0 rfl) ?_
      refine lv_sipush (v := 256) hx hb dJ6_numberOfTrailingZeros_0f7a4_35 (by decide) ?_
      refine lv_icmp_le (tgt := 49) hx hb dJ6_numberOfTrailingZeros_0f7a4_38 (by decide) (fun c38 => ?_) (fun c38 => ?_)
      · refine lv_iload_n hx hb dJ6_numberOfTrailingZeros_0f7a4_49 rfl (lv_at hl 0 rfl) ?_
        refine lv_bipush (v := 16) hx hb dJ6_numberOfTrailingZeros_0f7a4_50 (by decide) ?_
        refine lv_icmp_le (tgt := 62) hx hb dJ6_numberOfTrailingZeros_0f7a4_52 (by decide) (fun c52 => ?_) (fun c52 => ?_)
        · refine lv_iload_n hx hb dJ6_numberOfTrailingZeros_0f7a4_62 rfl (lv_at hl 0 rfl) ?_
          refine lv_iconst (v := 4) hx hb dJ6_numberOfTrailingZeros_0f7a4_63 (by decide) ?_
          refine lv_icmp_le (tgt := 74) hx hb dJ6_numberOfTrailingZeros_0f7a4_64 (by decide) (fun c64 => ?_) (fun c64 => ?_)
          · refine lv_iload_n hx hb dJ6_numberOfTrailingZeros_0f7a4_74 rfl (lv_at hl 1 rfl) ?_
            refine lv_iload_n hx hb dJ6_numberOfTrailingZeros_0f7a4_75 rfl (lv_at hl 0 rfl) ?_
            refine lv_iconst (v := 1) hx hb dJ6_numberOfTrailingZeros_0f7a4_76 (by decide) ?_
            refine lv_iushr hx hb dJ6_numberOfTrailingZeros_0f7a4_77 rfl ?_
            refine lv_iadd hx hb dJ6_numberOfTrailingZeros_0f7a4_78 ?_
            exact r_i hx hb hr hlocks dJ6_numberOfTrailingZeros_0f7a4_79 (by simp only [ntz, ntz1, ntz2, ntz3, ntz4, ntz5, ← ez0, ← ez1, c9, c23, c38, c52, c64, if_true, if_false])
          · refine lv_iinc (v := (1 + 16) + 2) (lv' := [(1, .int ((1 + 16) + 2)), (0, .int z1)]) hx hb dJ6_numberOfTrailingZeros_0f7a4_67 hl (k := 1) rfl (by first | rfl | decide) (by decide) rfl (fun ls hl => ?_)
            refine lv_iload_n hx hb dJ6_numberOfTrailingZeros_0f7a4_70 rfl (lv_at hl 1 rfl) ?_
            refine lv_iconst (v := 2) hx hb dJ6_numberOfTrailingZeros_0f7a4_71 (by decide) ?_
            refine lv_iushr hx hb dJ6_numberOfTrailingZeros_0f7a4_72 rfl ?_
            refine lv_topi (fun z4 ez4 => ?_)
            refine lv_istore_n (lv' := [(0, .int z4), (1, .int ((1 + 16) + 2))]) hx hb dJ6_numberOfTrailingZeros_0f7a4_73 rfl hl (by decide) rfl (fun ls hl => ?_)
            refine lv_iload_n hx hb dJ6_numberOfTrailingZeros_0f7a4_74 rfl (lv_at hl 1 rfl) ?_
            refine lv_iload_n hx hb dJ6_numberOfTrailingZeros_0f7a4_75 rfl (lv_at hl 0 rfl) ?_
            refine lv_iconst (v := 1) hx hb dJ6_numberOfTrailingZeros_0f7a4_76 (by decide) ?_
            refine lv_iushr hx hb dJ6_numberOfTrailingZeros_0f7a4_77 rfl ?_
            refine lv_iadd hx hb dJ6_numberOfTrailingZeros_0f7a4_78 ?_
            exact r_i hx hb hr hlocks dJ6_numberOfTrailingZeros_0f7a4_79 (by simp only [ntz, ntz1, ntz2, ntz3, ntz4, ntz5, ← ez0, ← ez1, ← ez4, c9, c23, c38, c52, c64, if_true, if_false])
        · refine lv_iinc (v := (1 + 16) + 4) (lv' := [(1, .int ((1 + 16) + 4)), (0, .int z1)]) hx hb dJ6_numberOfTrailingZeros_0f7a4_55 hl (k := 1) rfl (by first | rfl | decide) (by decide) rfl (fun ls hl => ?_)
          refine lv_iload_n hx hb dJ6_numberOfTrailingZeros_0f7a4_58 rfl (lv_at hl 1 rfl) ?_
          refine lv_iconst (v := 4) hx hb dJ6_numberOfTrailingZeros_0f7a4_59 (by decide) ?_
          refine lv_iushr hx hb dJ6_numberOfTrailingZeros_0f7a4_60 rfl ?_
          refine lv_topi (fun z3 ez3 => ?_)
          refine lv_istore_n (lv' := [(0, .int z3), (1, .int ((1 + 16) + 4))]) hx hb dJ6_numberOfTrailingZeros_0f7a4_61 rfl hl (by decide) rfl (fun ls hl => ?_)
          refine lv_iload_n hx hb dJ6_numberOfTrailingZeros_0f7a4_62 rfl (lv_at hl 0 rfl) ?_
          refine lv_iconst (v := 4) hx hb dJ6_numberOfTrailingZeros_0f7a4_63 (by decide) ?_
          refine lv_icmp_le (tgt := 74) hx hb dJ6_numberOfTrailingZeros_0f7a4_64 (by decide) (fun c64 => ?_) (fun c64 => ?_)
          · refine lv_iload_n hx hb dJ6_numberOfTrailingZeros_0f7a4_74 rfl (lv_at hl 1 rfl) ?_
            refine lv_iload_n hx hb dJ6_numberOfTrailingZeros_0f7a4_75 rfl (lv_at hl 0 rfl) ?_
            refine lv_iconst (v := 1) hx hb dJ6_numberOfTrailingZeros_0f7a4_76 (by decide) ?_
            refine lv_iushr hx hb dJ6_numberOfTrailingZeros_0f7a4_77 rfl ?_
            refine lv_iadd hx hb dJ6_numberOfTrailingZeros_0f7a4_78 ?_
            exact r_i hx hb hr hlocks dJ6_numberOfTrailingZeros_0f7a4_79 (by simp only [ntz, ntz1, ntz2, ntz3, ntz4, ntz5, ← ez0, ← ez1, ← ez3, c9, c23, c38, c52, c64, if_true, if_false])
          · refine lv_iinc (v := ((1 + 16) + 4) + 2) (lv' := [(1, .int (((1 + 16) + 4) + 2)), (0, .int z3)]) hx hb dJ6_numberOfTrailingZeros_0f7a4_67 hl (k := 1) rfl (by first | rfl | decide) (by decide) rfl (fun ls hl => ?_)
            refine lv_iload_n hx hb dJ6_numberOfTrailingZeros_0f7a4_70 rfl (lv_at hl 1 rfl) ?_
            refine lv_iconst (v := 2) hx hb dJ6_numberOfTrailingZeros_0f7a4_71 (by decide) ?_
            refine lv_iushr hx hb dJ6_numberOfTrailingZeros_0f7a4_72 rfl ?_
            refine lv_topi (fun z4 ez4 => ?_)
            refine lv_istore_n (lv' := [(0, .int z4), (1, .int (((1 + 16) + 4) + 2))]) hx hb dJ6_numberOfTrailingZeros_0f7a4_73 rfl hl (by decide) rfl (fun ls hl => ?_)
            refine lv_iload_n hx hb dJ6_numberOfTrailingZeros_0f7a4_74 rfl (lv_at hl 1 rfl) ?_
            refine lv_iload_n hx hb dJ6_numberOfTrailingZeros_0f7a4_75 rfl (lv_at hl 0 rfl) ?_
            refine lv_iconst (v := 1) hx hb dJ6_numberOfTrailingZeros_0f7a4_76 (by decide) ?_
            refine lv_iushr hx hb dJ6_numberOfTrailingZeros_0f7a4_77 rfl ?_
            refine lv_iadd hx hb dJ6_numberOfTrailingZeros_0f7a4_78 ?_
            exact r_i hx hb hr hlocks dJ6_numberOfTrailingZeros_0f7a4_79 (by simp only [ntz, ntz1, ntz2, ntz3, ntz4, ntz5, ← ez0, ← ez1, ← ez3, ← ez4, c9, c23, c38, c52, c64, if_true, if_false])
      · refine lv_iinc (v := (1 + 16) + 8) (lv' := [(1, .int ((1 + 16) + 8)), (0, .int z1)]) hx hb dJ6_numberOfTrailingZeros_0f7a4_41 hl (k := 1) rfl (by first | rfl | decide) (by decide) rfl (fun ls hl => ?_)
        refine lv_iload_n hx hb dJ6_numberOfTrailingZeros_0f7a4_44 rfl (lv_at hl 1 rfl) ?_
        refine lv_bipush (v := 8) hx hb dJ6_numberOfTrailingZeros_0f7a4_45 (by decide) ?_
        refine lv_iushr hx hb dJ6_numberOfTrailingZeros_0f7a4_47 rfl ?_
        refine lv_topi (fun z2 ez2 => ?_)
        refine lv_istore_n (lv' := [(0, .int z2), (1, .int ((1 + 16) + 8))]) hx hb dJ6_numberOfTrailingZeros_0f7a4_48 rfl hl (by decide) rfl (fun ls hl => ?_)
        refine lv_iload_n hx hb dJ6_numberOfTrailingZeros_0f7a4_49 rfl (lv_at hl 0 rfl) ?_
        refine lv_bipush (v := 16) hx hb dJ6_numberOfTrailingZeros_0f7a4_50 (by decide) ?_
        refine lv_icmp_le (tgt := 62) hx hb dJ6_numberOfTrailingZeros_0f7a4_52 (by decide) (fun c52 => ?_) (fun c52 => ?_)
        · refine lv_iload_n hx hb dJ6_numberOfTrailingZeros_0f7a4_62 rfl (lv_at hl 0 rfl) ?_
          refine lv_iconst (v := 4) hx hb dJ6_numberOfTrailingZeros_0f7a4_63 (by decide) ?_
          refine lv_icmp_le (tgt := 74) hx hb dJ6_numberOfTrailingZeros_0f7a4_64 (by decide) (fun c64 => ?_) (fun c64 => ?_)
          · refine lv_iload_n hx hb dJ6_numberOfTrailingZeros_0f7a4_74 rfl (lv_at hl 1 rfl) ?_
            refine lv_iload_n hx hb dJ6_numberOfTrailingZeros_0f7a4_75 rfl (lv_at hl 0 rfl) ?_
            refine lv_iconst (v := 1) hx hb dJ6_numberOfTrailingZeros_0f7a4_76 (by decide) ?_
            refine lv_iushr hx hb dJ6_numberOfTrailingZeros_0f7a4_77 rfl ?_
            refine lv_iadd hx hb dJ6_numberOfTrailingZeros_0f7a4_78 ?_
            exact r_i hx hb hr hlocks dJ6_numberOfTrailingZeros_0f7a4_79 (by simp only [ntz, ntz1, ntz2, ntz3, ntz4, ntz5, ← ez0, ← ez1, ← ez2, c9, c23, c38, c52, c64, if_true, if_false])
          · refine lv_iinc (v := ((1 + 16) + 8) + 2) (lv' := [(1, .int (((1 + 16) + 8) + 2)), (0, .int z2)]) hx hb dJ6_numberOfTrailingZeros_0f7a4_67 hl (k := 1) rfl (by first | rfl | decide) (by decide) rfl (fun ls hl => ?_)
            refine lv_iload_n hx hb dJ6_numberOfTrailingZeros_0f7a4_70 rfl (lv_at hl 1 rfl) ?_
            refine lv_iconst (v := 2) hx hb dJ6_numberOfTrailingZeros_0f7a4_71 (by decide) ?_
            refine lv_iushr hx hb dJ6_numberOfTrailingZeros_0f7a4_72 rfl ?_
            refine lv_topi (fun z4 ez4 => ?_)
            refine lv_istore_n (lv' := [(0, .int z4), (1, .int (((1 + 16) + 8) + 2))]) hx hb dJ6_numberOfTrailingZeros_0f7a4_73 rfl hl (by decide) rfl (fun ls hl => ?_)
            refine lv_iload_n hx hb dJ6_numberOfTrailingZeros_0f7a4_74 rfl (lv_at hl 1 rfl) ?_
            refine lv_iload_n hx hb dJ6_numberOfTrailingZeros_0f7a4_75 rfl (lv_at hl 0 rfl) ?_
            refine lv_iconst (v := 1) hx hb dJ6_numberOfTrailingZeros_0f7a4_76 (by decide) ?_
            refine lv_iushr hx hb dJ6_numberOfTrailingZeros_0f7a4_77 rfl ?_
            refine lv_iadd hx hb dJ6_numberOfTrailingZeros_0f7a4_78 ?_
            exact r_i hx hb hr hlocks dJ6_numberOfTrailingZeros_0f7a4_79 (by simp only [ntz, ntz1, ntz2, ntz3, ntz4, ntz5, ← ez0, ← ez1, ← ez2, ← ez4, c9, c23, c38, c52, c64, if_true, if_false])
        · refine lv_iinc (v := ((1 + 16) + 8) + 4) (lv' := [(1, .int (((1 + 16) + 8) + 4)), (0, .int z2)]) hx hb dJ6_numberOfTrailingZeros_0f7a4_55 hl (k := 1) rfl (by first | rfl | decide) (by decide) rfl (fun ls hl => ?_)
          refine lv_iload_n hx hb dJ6_numberOfTrailingZeros_0f7a4_58 rfl (lv_at hl 1 rfl) ?_
          refine lv_iconst (v := 4) hx hb dJ6_numberOfTrailingZeros_0f7a4_59 (by decide) ?_
          refine lv_iushr hx hb dJ6_numberOfTrailingZeros_0f7a4_60 rfl ?_
          refine lv_topi (fun z3 ez3 => ?_)
          refine lv_istore_n (lv' := [(0, .int z3), (1, .int (((1 + 16) + 8) + 4))]) hx hb dJ6_numberOfTrailingZeros_0f7a4_61 rfl hl (by decide) rfl (fun ls hl => ?_)
          refine lv_iload_n hx hb dJ6_numberOfTrailingZeros_0f7a4_62 rfl (lv_at hl 0 rfl) ?_
          refine lv_iconst (v := 4) hx hb dJ6_numberOfTrailingZeros_0f7a4_63 (by decide) ?_
          refine lv_icmp_le (tgt := 74) hx hb dJ6_numberOfTrailingZeros_0f7a4_64 (by decide) (fun c64 => ?_) (fun c64 => ?_)
          · refine lv_iload_n hx hb dJ6_numberOfTrailingZeros_0f7a4_74 rfl (lv_at hl 1 rfl) ?_
            refine lv_iload_n hx hb dJ6_numberOfTrailingZeros_0f7a4_75 rfl (lv_at hl 0 rfl) ?_
            refine lv_iconst (v := 1) hx hb dJ6_numberOfTrailingZeros_0f7a4_76 (by decide) ?_
            refine lv_iushr hx hb dJ6_numberOfTrailingZeros_0f7a4_77 rfl ?_
            refine lv_iadd hx hb dJ6_numberOfTrailingZeros_0f7a4_78 ?_
            exact r_i hx hb hr hlocks dJ6_numberOfTrailingZeros_0f7a4_79 (by simp only [ntz, ntz1, ntz2, ntz3, ntz4, ntz5, ← ez0, ← ez1, ← ez2, ← ez3, c9, c23, c38, c52, c64, if_true, if_false])
          · refine lv_iinc (v := (((1 + 16) + 8) + 4) + 2) (lv' := [(1, .int ((((1 + 16) + 8) + 4) + 2)), (0, .int z3)]) hx hb dJ6_numberOfTrailingZeros_0f7a4_67 hl (k := 1) rfl (by first | rfl | decide) (by decide) rfl (fun ls hl => ?_)
            refine lv_iload_n hx hb dJ6_numberOfTrailingZeros_0f7a4_70 rfl (lv_at hl 1 rfl) ?_
            refine lv_iconst (v := 2) hx hb dJ6_numberOfTrailingZeros_0f7a4_71 (by decide) ?_
            refine lv_iushr hx hb dJ6_numberOfTrailingZeros_0f7a4_72 rfl ?_
            refine lv_topi (fun z4 ez4 => ?_)
            refine lv_istore_n (lv' := [(0, .int z4), (1, .int ((((1 + 16) + 8) + 4) + 2))]) hx hb dJ6_numberOfTrailingZeros_0f7a4_73 rfl hl (by decide) rfl (fun ls hl => ?_)
            refine lv_iload_n hx hb dJ6_numberOfTrailingZeros_0f7a4_74 rfl (lv_at hl 1 rfl) ?_
            refine lv_iload_n hx hb dJ6_numberOfTrailingZeros_0f7a4_75 rfl (lv_at hl 0 rfl) ?_
            refine lv_iconst (v := 1) hx hb dJ6_numberOfTrailingZeros_0f7a4_76 (by decide) ?_
            refine lv_iushr hx hb dJ6_numberOfTrailingZeros_0f7a4_77 rfl ?_
            refine lv_iadd hx hb dJ6_numberOfTrailingZeros_0f7a4_78 ?_
            exact r_i hx hb hr hlocks dJ6_numberOfTrailingZeros_0f7a4_79 (by simp only [ntz, ntz1, ntz2, ntz3, ntz4, ntz5, ← ez0, ← ez1, ← ez2, ← ez3, ← ez4, c9, c23, c38, c52, c64, if_true, if_false])
  · refine lv_iload_n hx hb dJ6_numberOfTrailingZeros_0f7a4_12 rfl (lv_at hl 0 rfl) ?_
    refine lv_bipush (v := 32) hx hb dJ6_numberOfTrailingZeros_0f7a4_13 (by decide) ?_
    refine lv_iand hx hb dJ6_numberOfTrailingZeros_0f7a4_15 ?_
    exact r_i hx hb hr hlocks dJ6_numberOfTrailingZeros_0f7a4_16 (by simp only [ntz, ntz1, ntz2, ntz3, ntz4, ntz5, ← ez0, c9, if_true, if_false])
theorem in_X0_isAwakeIn_X0 : ∀ w ∈ u_ws RX0 TX0 5, w ∈ wsX0_isAwakeIn := by decide +kernel
set_option maxHeartbeats 4000000 in
set_option maxRecDepth 100000 in
theorem c_isAwakeIn (l : Launch) (E : gE) (A : Nat → Prop) (g : Nat → Nat) (M : gM) (tg tp : Nat) (ho fr wa be : Int32) (h : M tg = some (.inr (1, [.int ho, .int fr, .int wa, .int be, .ref (g tp)]))) (x : Int32) : Met l yX0_isAwakeIn wsX0_isAwakeIn ({ frames := 0, cells := 0, slots := 0, locals := 0 } : Room) (Pm E [.ref (g tg), .int x] (mP E A g M)) (k2_QcV (.int (bI (decide (wa ≤ x ∧ x < be))))) 0 0 (fun _ => False) := by
  refine m_entry (by decide) rfl (Nat.le_of_ble_eq_true rfl) ?_
  intro p e s m args below meth c hx hb hr hml hts hown hlocks hin hM hK ls hl
  have hl : lv_has ls 2 [(0, .ref (g tg)), (1, .int x)] := hl
  have hown : s.vm.findClass RX0 = some m.cls := hown
  refine lv_iload_n hx hb dX0_isAwakeIn_0 rfl (lv_at hl 1 rfl) ?_
  refine lv_aload_n hx hb dX0_isAwakeIn_1 rfl (lv_at hl 0 rfl) ?_
  refine m_get hx hb hts in_X0_isAwakeIn_X0 hown hK hM h rfl 2 (by decide) (by decide +kernel) rfl dX0_isAwakeIn_2 ?_
  refine lv_icmp_lt (tgt := 20) hx hb dX0_isAwakeIn_5 (by decide) (fun c5 => ?_) (fun c5 => ?_)
  · refine lv_iconst (v := 0) hx hb dX0_isAwakeIn_20 (by decide) ?_
    exact r_z hx hb hr hlocks dX0_isAwakeIn_21 (bI_zero (decide_eq_false (by first | omega | (simp only [Int32.le_iff_toInt_le, Int32.lt_iff_toInt_lt, ← Int32.toInt_inj] at c5 ⊢; omega))))
  · refine lv_iload_n hx hb dX0_isAwakeIn_8 rfl (lv_at hl 1 rfl) ?_
    refine lv_aload_n hx hb dX0_isAwakeIn_9 rfl (lv_at hl 0 rfl) ?_
    refine m_get hx hb hts in_X0_isAwakeIn_X0 hown hK hM h rfl 3 (by decide) (by decide +kernel) rfl dX0_isAwakeIn_10 ?_
    refine lv_icmp_ge (tgt := 20) hx hb dX0_isAwakeIn_13 (by decide) (fun c13 => ?_) (fun c13 => ?_)
    · refine lv_iconst (v := 0) hx hb dX0_isAwakeIn_20 (by decide) ?_
      exact r_z hx hb hr hlocks dX0_isAwakeIn_21 (bI_zero (decide_eq_false (by first | omega | (simp only [Int32.le_iff_toInt_le, Int32.lt_iff_toInt_lt, ← Int32.toInt_inj] at c5 c13 ⊢; omega))))
    · refine lv_iconst (v := 1) hx hb dX0_isAwakeIn_16 (by decide) ?_
      refine lv_goto (tgt := 21) hx hb dX0_isAwakeIn_17 (by decide) ?_
      exact r_z hx hb hr hlocks dX0_isAwakeIn_21 (bI_one (decide_eq_true (by first | omega | (simp only [Int32.le_iff_toInt_le, Int32.lt_iff_toInt_lt, ← Int32.toInt_inj] at c5 c13 ⊢; omega))))
theorem in_X0_placeIn_X0 : ∀ w ∈ u_ws RX0 TX0 5, w ∈ wsX0_placeIn := by decide +kernel
set_option maxHeartbeats 4000000 in
set_option maxRecDepth 100000 in
theorem c_placeIn (l : Launch) (E : gE) (A : Nat → Prop) (g : Nat → Nat) (M : gM) (tg tp : Nat) (ho fr wa be : Int32) (h : M tg = some (.inr (1, [.int ho, .int fr, .int wa, .int be, .ref (g tp)]))) (f : Nat → Int32) (h2 : M tp = some (.inl (E.2.1, 12, .inl f))) (j : Nat) (hj : j < 12) : Met l yX0_placeIn wsX0_placeIn ({ frames := 0, cells := 0, slots := 0, locals := 0 } : Room) (Pm E [.ref (g tg), .int (nI j)] (mP E A g M)) (k2_QcV (.int (f j))) 0 0 (fun _ => False) := by
  refine m_entry (by decide) rfl (Nat.le_of_ble_eq_true rfl) ?_
  intro p e s m args below meth c hx hb hr hml hts hown hlocks hin hM hK ls hl
  have hl : lv_has ls 2 [(0, .ref (g tg)), (1, .int (nI j))] := hl
  have hown : s.vm.findClass RX0 = some m.cls := hown
  refine lv_iload_n hx hb dX0_placeIn_0 rfl (lv_at hl 1 rfl) ?_
  refine lv_if_lt (tgt := 22) hx hb dX0_placeIn_1 (by decide) (fun c9 => absurd c9 (nI_pos (by omega))) (fun c1 => ?_)
  refine lv_iload_n hx hb dX0_placeIn_4 rfl (lv_at hl 1 rfl) ?_
  refine lv_aload_n hx hb dX0_placeIn_5 rfl (lv_at hl 0 rfl) ?_
  refine m_get hx hb hts in_X0_placeIn_X0 hown hK hM h rfl 4 (by decide) (by decide +kernel) rfl dX0_placeIn_6 ?_
  refine m_alen (v := nI 12) hx hb hK hM h2 rfl dX0_placeIn_9 ?_
  refine lv_icmp_ge (tgt := 22) hx hb dX0_placeIn_10 (by decide) (fun c9 => absurd c9 (nI_ge hj (by decide))) (fun c10 => ?_)
  refine lv_aload_n hx hb dX0_placeIn_13 rfl (lv_at hl 0 rfl) ?_
  refine m_get hx hb hts in_X0_placeIn_X0 hown hK hM h rfl 4 (by decide) (by decide +kernel) rfl dX0_placeIn_14 ?_
  refine lv_iload_n hx hb dX0_placeIn_17 rfl (lv_at hl 1 rfl) ?_
  refine m_iald (v := f j) hx hb hK hM h2 (ix_ok ⟨hj, by decide⟩) (rd_ok (by omega) rfl) dX0_placeIn_18 ?_
  refine lv_goto (tgt := 23) hx hb dX0_placeIn_19 (by decide) ?_
  exact r_i hx hb hr hlocks dX0_placeIn_23 (rfl)
theorem in_X1_hasBid_X1 : ∀ w ∈ u_ws RX1 TX1 7, w ∈ wsX1_hasBid := by decide +kernel
set_option maxHeartbeats 4000000 in
set_option maxRecDepth 100000 in
theorem c_hasBid (l : Launch) (E : gE) (A : Nat → Prop) (g : Nat → Nat) (M : gM) (tu : Nat) (ne co nv fo pr sl ba : Int32) (h : M tu = some (.inr (2, [.int ne, .int co, .int nv, .int fo, .int pr, .int sl, .int ba]))) : Met l yX1_hasBid wsX1_hasBid ({ frames := 0, cells := 0, slots := 0, locals := 0 } : Room) (Pm E [.ref (g tu)] (mP E A g M)) (k2_QcV (.int (bI (decide (¬ fo = -1))))) 0 0 (fun _ => False) := by
  refine m_entry (by decide) rfl (Nat.le_of_ble_eq_true rfl) ?_
  intro p e s m args below meth c hx hb hr hml hts hown hlocks hin hM hK ls hl
  have hl : lv_has ls 1 [(0, .ref (g tu))] := hl
  have hown : s.vm.findClass RX1 = some m.cls := hown
  refine lv_aload_n hx hb dX1_hasBid_0 rfl (lv_at hl 0 rfl) ?_
  refine m_get hx hb hts in_X1_hasBid_X1 hown hK hM h rfl 3 (by decide) (by decide +kernel) rfl dX1_hasBid_1 ?_
  refine lv_iconst (v := (-1)) hx hb dX1_hasBid_4 (by decide) ?_
  refine lv_icmp_eq (tgt := 12) hx hb dX1_hasBid_5 (by decide) (fun c5 => ?_) (fun c5 => ?_)
  · refine lv_iconst (v := 0) hx hb dX1_hasBid_12 (by decide) ?_
    exact r_z hx hb hr hlocks dX1_hasBid_13 (bI_zero (decide_eq_false (by first | omega | (simp only [Int32.le_iff_toInt_le, Int32.lt_iff_toInt_lt, ← Int32.toInt_inj] at c5 ⊢; omega))))
  · refine lv_iconst (v := 1) hx hb dX1_hasBid_8 (by decide) ?_
    refine lv_goto (tgt := 13) hx hb dX1_hasBid_9 (by decide) ?_
    exact r_z hx hb hr hlocks dX1_hasBid_13 (bI_one (decide_eq_true (by first | omega | (simp only [Int32.le_iff_toInt_le, Int32.lt_iff_toInt_lt, ← Int32.toInt_inj] at c5 ⊢; omega))))
theorem in_X1_couldBidFor_X1 : ∀ w ∈ u_ws RX1 TX1 7, w ∈ wsX1_couldBidFor := by decide +kernel
theorem in_X1_couldBidFor_X2 : ∀ w ∈ u_ws RX2 TX2 6, w ∈ wsX1_couldBidFor := by decide +kernel
set_option maxHeartbeats 4000000 in
set_option maxRecDepth 100000 in
theorem c_couldBidFor (l : Launch) (E : gE) (A : Nat → Prop) (g : Nat → Nat) (M : gM) (tu : Nat) (ne co nv fo pr sl ba : Int32) (h : M tu = some (.inr (2, [.int ne, .int co, .int nv, .int fo, .int pr, .int sl, .int ba]))) (tr : Nat) (rb rl rc rn re rd : Int32) (h9 : M tr = some (.inr (3, [.int rb, .int rl, .int rc, .int rn, .int re, .int rd]))) : Met l yX1_couldBidFor wsX1_couldBidFor ({ frames := 0, cells := 0, slots := 0, locals := 0 } : Room) (Pm E [.ref (g tu), .ref (g tr)] (mP E A g M)) (k2_QcV (.int (bI (decide (pr ≤ co ∧ ne ≤ rb ∧ rl ≤ pr))))) 0 0 (fun _ => False) := by
  refine m_entry (by decide) rfl (Nat.le_of_ble_eq_true rfl) ?_
  intro p e s m args below meth c hx hb hr hml hts hown hlocks hin hM hK ls hl
  have hl : lv_has ls 2 [(0, .ref (g tu)), (1, .ref (g tr))] := hl
  have hown : s.vm.findClass RX1 = some m.cls := hown
  refine lv_aload_n hx hb dX1_couldBidFor_0 rfl (lv_at hl 0 rfl) ?_
  refine m_get hx hb hts in_X1_couldBidFor_X1 hown hK hM h rfl 1 (by decide) (by decide +kernel) rfl dX1_couldBidFor_1 ?_
  refine lv_aload_n hx hb dX1_couldBidFor_4 rfl (lv_at hl 0 rfl) ?_
  refine m_get hx hb hts in_X1_couldBidFor_X1 hown hK hM h rfl 4 (by decide) (by decide +kernel) rfl dX1_couldBidFor_5 ?_
  refine lv_icmp_lt (tgt := 37) hx hb dX1_couldBidFor_8 (by decide) (fun c8 => ?_) (fun c8 => ?_)
  · refine lv_iconst (v := 0) hx hb dX1_couldBidFor_37 (by decide) ?_
    exact r_z hx hb hr hlocks dX1_couldBidFor_38 (bI_zero (decide_eq_false (by first | omega | (simp only [Int32.le_iff_toInt_le, Int32.lt_iff_toInt_lt, ← Int32.toInt_inj] at c8 ⊢; omega))))
  · refine lv_aload_n hx hb dX1_couldBidFor_11 rfl (lv_at hl 1 rfl) ?_
    refine m_get hx hb hts in_X1_couldBidFor_X2 hown hK hM h9 rfl 0 (by decide) (by decide +kernel) rfl dX1_couldBidFor_12 ?_
    refine lv_aload_n hx hb dX1_couldBidFor_15 rfl (lv_at hl 0 rfl) ?_
    refine m_get hx hb hts in_X1_couldBidFor_X1 hown hK hM h rfl 0 (by decide) (by decide +kernel) rfl dX1_couldBidFor_16 ?_
    refine lv_icmp_lt (tgt := 37) hx hb dX1_couldBidFor_19 (by decide) (fun c19 => ?_) (fun c19 => ?_)
    · refine lv_iconst (v := 0) hx hb dX1_couldBidFor_37 (by decide) ?_
      exact r_z hx hb hr hlocks dX1_couldBidFor_38 (bI_zero (decide_eq_false (by first | omega | (simp only [Int32.le_iff_toInt_le, Int32.lt_iff_toInt_lt, ← Int32.toInt_inj] at c8 c19 ⊢; omega))))
    · refine lv_aload_n hx hb dX1_couldBidFor_22 rfl (lv_at hl 0 rfl) ?_
      refine m_get hx hb hts in_X1_couldBidFor_X1 hown hK hM h rfl 4 (by decide) (by decide +kernel) rfl dX1_couldBidFor_23 ?_
      refine lv_aload_n hx hb dX1_couldBidFor_26 rfl (lv_at hl 1 rfl) ?_
      refine m_get hx hb hts in_X1_couldBidFor_X2 hown hK hM h9 rfl 1 (by decide) (by decide +kernel) rfl dX1_couldBidFor_27 ?_
      refine lv_icmp_lt (tgt := 37) hx hb dX1_couldBidFor_30 (by decide) (fun c30 => ?_) (fun c30 => ?_)
      · refine lv_iconst (v := 0) hx hb dX1_couldBidFor_37 (by decide) ?_
        exact r_z hx hb hr hlocks dX1_couldBidFor_38 (bI_zero (decide_eq_false (by first | omega | (simp only [Int32.le_iff_toInt_le, Int32.lt_iff_toInt_lt, ← Int32.toInt_inj] at c8 c19 c30 ⊢; omega))))
      · refine lv_iconst (v := 1) hx hb dX1_couldBidFor_33 (by decide) ?_
        refine lv_goto (tgt := 38) hx hb dX1_couldBidFor_34 (by decide) ?_
        exact r_z hx hb hr hlocks dX1_couldBidFor_38 (bI_one (decide_eq_true (by first | omega | (simp only [Int32.le_iff_toInt_le, Int32.lt_iff_toInt_lt, ← Int32.toInt_inj] at c8 c19 c30 ⊢; omega))))
theorem in_X1_isFrightenedBy_X1 : ∀ w ∈ u_ws RX1 TX1 7, w ∈ wsX1_isFrightenedBy := by decide +kernel
set_option maxHeartbeats 4000000 in
set_option maxRecDepth 100000 in
theorem c_isFrightenedBy (l : Launch) (E : gE) (A : Nat → Prop) (g : Nat → Nat) (M : gM) (tu : Nat) (ne co nv fo pr sl ba : Int32) (h : M tu = some (.inr (2, [.int ne, .int co, .int nv, .int fo, .int pr, .int sl, .int ba]))) (x : Int32) : Met l yX1_isFrightenedBy wsX1_isFrightenedBy ({ frames := 0, cells := 0, slots := 0, locals := 0 } : Room) (Pm E [.ref (g tu), .int x] (mP E A g M)) (k2_QcV (.int (bI (decide (0 ≤ nv ∧ nv < x))))) 0 0 (fun _ => False) := by
  refine m_entry (by decide) rfl (Nat.le_of_ble_eq_true rfl) ?_
  intro p e s m args below meth c hx hb hr hml hts hown hlocks hin hM hK ls hl
  have hl : lv_has ls 2 [(0, .ref (g tu)), (1, .int x)] := hl
  have hown : s.vm.findClass RX1 = some m.cls := hown
  refine lv_aload_n hx hb dX1_isFrightenedBy_0 rfl (lv_at hl 0 rfl) ?_
  refine m_get hx hb hts in_X1_isFrightenedBy_X1 hown hK hM h rfl 2 (by decide) (by decide +kernel) rfl dX1_isFrightenedBy_1 ?_
  refine lv_if_lt (tgt := 19) hx hb dX1_isFrightenedBy_4 (by decide) (fun c4 => ?_) (fun c4 => ?_)
  · refine lv_iconst (v := 0) hx hb dX1_isFrightenedBy_19 (by decide) ?_
    exact r_z hx hb hr hlocks dX1_isFrightenedBy_20 (bI_zero (decide_eq_false (by first | omega | (simp only [Int32.le_iff_toInt_le, Int32.lt_iff_toInt_lt, ← Int32.toInt_inj] at c4 ⊢; omega))))
  · refine lv_iload_n hx hb dX1_isFrightenedBy_7 rfl (lv_at hl 1 rfl) ?_
    refine lv_aload_n hx hb dX1_isFrightenedBy_8 rfl (lv_at hl 0 rfl) ?_
    refine m_get hx hb hts in_X1_isFrightenedBy_X1 hown hK hM h rfl 2 (by decide) (by decide +kernel) rfl dX1_isFrightenedBy_9 ?_
    refine lv_icmp_le (tgt := 19) hx hb dX1_isFrightenedBy_12 (by decide) (fun c12 => ?_) (fun c12 => ?_)
    · refine lv_iconst (v := 0) hx hb dX1_isFrightenedBy_19 (by decide) ?_
      exact r_z hx hb hr hlocks dX1_isFrightenedBy_20 (bI_zero (decide_eq_false (by first | omega | (simp only [Int32.le_iff_toInt_le, Int32.lt_iff_toInt_lt, ← Int32.toInt_inj] at c4 c12 ⊢; omega))))
    · refine lv_iconst (v := 1) hx hb dX1_isFrightenedBy_15 (by decide) ?_
      refine lv_goto (tgt := 20) hx hb dX1_isFrightenedBy_16 (by decide) ?_
      exact r_z hx hb hr hlocks dX1_isFrightenedBy_20 (bI_one (decide_eq_true (by first | omega | (simp only [Int32.le_iff_toInt_le, Int32.lt_iff_toInt_lt, ← Int32.toInt_inj] at c4 c12 ⊢; omega))))
theorem in_X1_isUpsetBy_X1 : ∀ w ∈ u_ws RX1 TX1 7, w ∈ wsX1_isUpsetBy := by decide +kernel
set_option maxHeartbeats 4000000 in
set_option maxRecDepth 100000 in
theorem c_isUpsetBy (l : Launch) (E : gE) (A : Nat → Prop) (g : Nat → Nat) (M : gM) (tu : Nat) (ne co nv fo pr sl ba : Int32) (h : M tu = some (.inr (2, [.int ne, .int co, .int nv, .int fo, .int pr, .int sl, .int ba]))) (x : Int32) : Met l yX1_isUpsetBy wsX1_isUpsetBy ({ frames := 1, cells := 0, slots := 0, locals := 21 } : Room) (Pm E [.ref (g tu), .int x] (mP E A g M)) (k2_QcV (.int (bI (decide (nv < 0 ∧ x < -nv ∨ 0 ≤ nv ∧ nv < x))))) 0 0 (fun _ => False) := by
  refine m_entry (by decide) rfl (Nat.le_of_ble_eq_true rfl) ?_
  intro p e s m args below meth c hx hb hr hml hts hown hlocks hin hM hK ls hl
  have hl : lv_has ls 3 [(0, .ref (g tu)), (1, .int x)] := hl
  have hown : s.vm.findClass RX1 = some m.cls := hown
  refine lv_aload_n hx hb dX1_isUpsetBy_0 rfl (lv_at hl 0 rfl) ?_
  refine m_get hx hb hts in_X1_isUpsetBy_X1 hown hK hM h rfl 2 (by decide) (by decide +kernel) rfl dX1_isUpsetBy_1 ?_
  refine lv_if_ge (tgt := 20) hx hb dX1_isUpsetBy_4 (by decide) (fun c4 => ?_) (fun c4 => ?_)
  · refine lv_iconst (v := 0) hx hb dX1_isUpsetBy_20 (by decide) ?_
    refine lv_istore_n (lv' := [(2, .int 0), (0, .ref (g tu)), (1, .int x)]) hx hb dX1_isUpsetBy_21 rfl hl (by decide) rfl (fun ls hl => ?_)
    refine lv_iload_n hx hb dX1_isUpsetBy_22 rfl (lv_at hl 0 rfl) ?_
    refine lv_if_ne (tgt := 34) hx hb dX1_isUpsetBy_23 (by decide) (fun c9 => absurd c9 (by decide)) (fun c9 => ?_)
    refine lv_aload_n hx hb dX1_isUpsetBy_26 rfl (lv_at hl 1 rfl) ?_
    refine lv_iload_n hx hb dX1_isUpsetBy_27 rfl (lv_at hl 2 rfl) ?_
    refine m_cV 1 [.int x] [] hx hb hml hown hts hK (c_isFrightenedBy l E A g M tu ne co nv fo pr sl ba h x) gX1_isUpsetBy_X1_isFrightenedBy rfl rfl rfl (by decide +kernel) rfl ⟨Nat.le_of_ble_eq_true rfl, Nat.le_of_ble_eq_true rfl⟩ hM h rfl rfl hM hl.1 (Nat.le_of_ble_eq_true rfl) ⟨Nat.le_of_ble_eq_true rfl, Nat.le_of_ble_eq_true rfl⟩ rfl dX1_isUpsetBy_28 ?_
    refine lv_if_eq (tgt := 38) hx hb dX1_isUpsetBy_31 (by decide) (fun c31 => ?_) (fun c31 => ?_)
    · have c31 := of_decide_eq_false (bI_f c31)
      refine lv_iconst (v := 0) hx hb dX1_isUpsetBy_38 (by decide) ?_
      exact r_z hx hb hr hlocks dX1_isUpsetBy_39 (bI_zero (decide_eq_false (by first | omega | (simp only [Int32.le_iff_toInt_le, Int32.lt_iff_toInt_lt, ← Int32.toInt_inj] at c4 c31 ⊢; omega))))
    · have c31 := of_decide_eq_true (bI_t c31)
      refine lv_iconst (v := 1) hx hb dX1_isUpsetBy_34 (by decide) ?_
      refine lv_goto (tgt := 39) hx hb dX1_isUpsetBy_35 (by decide) ?_
      exact r_z hx hb hr hlocks dX1_isUpsetBy_39 (bI_one (decide_eq_true (by first | omega | (simp only [Int32.le_iff_toInt_le, Int32.lt_iff_toInt_lt, ← Int32.toInt_inj] at c4 c31 ⊢; omega))))
  · refine lv_iload_n hx hb dX1_isUpsetBy_7 rfl (lv_at hl 1 rfl) ?_
    refine lv_aload_n hx hb dX1_isUpsetBy_8 rfl (lv_at hl 0 rfl) ?_
    refine m_get hx hb hts in_X1_isUpsetBy_X1 hown hK hM h rfl 2 (by decide) (by decide +kernel) rfl dX1_isUpsetBy_9 ?_
    refine lv_ineg hx hb dX1_isUpsetBy_12 ?_
    refine lv_icmp_ge (tgt := 20) hx hb dX1_isUpsetBy_13 (by decide) (fun c13 => ?_) (fun c13 => ?_)
    · refine lv_iconst (v := 0) hx hb dX1_isUpsetBy_20 (by decide) ?_
      refine lv_istore_n (lv' := [(2, .int 0), (0, .ref (g tu)), (1, .int x)]) hx hb dX1_isUpsetBy_21 rfl hl (by decide) rfl (fun ls hl => ?_)
      refine lv_iload_n hx hb dX1_isUpsetBy_22 rfl (lv_at hl 0 rfl) ?_
      refine lv_if_ne (tgt := 34) hx hb dX1_isUpsetBy_23 (by decide) (fun c9 => absurd c9 (by decide)) (fun c9 => ?_)
      refine lv_aload_n hx hb dX1_isUpsetBy_26 rfl (lv_at hl 1 rfl) ?_
      refine lv_iload_n hx hb dX1_isUpsetBy_27 rfl (lv_at hl 2 rfl) ?_
      refine m_cV 1 [.int x] [] hx hb hml hown hts hK (c_isFrightenedBy l E A g M tu ne co nv fo pr sl ba h x) gX1_isUpsetBy_X1_isFrightenedBy rfl rfl rfl (by decide +kernel) rfl ⟨Nat.le_of_ble_eq_true rfl, Nat.le_of_ble_eq_true rfl⟩ hM h rfl rfl hM hl.1 (Nat.le_of_ble_eq_true rfl) ⟨Nat.le_of_ble_eq_true rfl, Nat.le_of_ble_eq_true rfl⟩ rfl dX1_isUpsetBy_28 ?_
      refine lv_if_eq (tgt := 38) hx hb dX1_isUpsetBy_31 (by decide) (fun c31 => ?_) (fun c31 => ?_)
      · have c31 := of_decide_eq_false (bI_f c31)
        refine lv_iconst (v := 0) hx hb dX1_isUpsetBy_38 (by decide) ?_
        exact r_z hx hb hr hlocks dX1_isUpsetBy_39 (bI_zero (decide_eq_false (by first | omega | (simp only [Int32.le_iff_toInt_le, Int32.lt_iff_toInt_lt, ← Int32.toInt_inj] at c4 c13 c31 ⊢; omega))))
      · have c31 := of_decide_eq_true (bI_t c31)
        refine lv_iconst (v := 1) hx hb dX1_isUpsetBy_34 (by decide) ?_
        refine lv_goto (tgt := 39) hx hb dX1_isUpsetBy_35 (by decide) ?_
        exact r_z hx hb hr hlocks dX1_isUpsetBy_39 (bI_one (decide_eq_true (by first | omega | (simp only [Int32.le_iff_toInt_le, Int32.lt_iff_toInt_lt, ← Int32.toInt_inj] at c4 c13 c31 ⊢; omega))))
    · refine lv_iconst (v := 1) hx hb dX1_isUpsetBy_16 (by decide) ?_
      refine lv_goto (tgt := 21) hx hb dX1_isUpsetBy_17 (by decide) ?_
      refine lv_istore_n (lv' := [(2, .int 1), (0, .ref (g tu)), (1, .int x)]) hx hb dX1_isUpsetBy_21 rfl hl (by decide) rfl (fun ls hl => ?_)
      refine lv_iload_n hx hb dX1_isUpsetBy_22 rfl (lv_at hl 0 rfl) ?_
      refine lv_if_ne (tgt := 34) hx hb dX1_isUpsetBy_23 (by decide) (fun c9 => ?_) (fun c9 => absurd c9 (by decide))
      refine lv_iconst (v := 1) hx hb dX1_isUpsetBy_34 (by decide) ?_
      refine lv_goto (tgt := 39) hx hb dX1_isUpsetBy_35 (by decide) ?_
      exact r_z hx hb hr hlocks dX1_isUpsetBy_39 (bI_one (decide_eq_true (by first | omega | (simp only [Int32.le_iff_toInt_le, Int32.lt_iff_toInt_lt, ← Int32.toInt_inj] at c4 c13 ⊢; omega))))
theorem in_X2_leadsTo_X2 : ∀ w ∈ u_ws RX2 TX2 6, w ∈ wsX2_leadsTo := by decide +kernel
set_option maxHeartbeats 4000000 in
set_option maxRecDepth 100000 in
theorem c_leadsTo (l : Launch) (E : gE) (A : Nat → Prop) (g : Nat → Nat) (M : gM) (tr : Nat) (rb rl rc rn re rd : Int32) (h9 : M tr = some (.inr (3, [.int rb, .int rl, .int rc, .int rn, .int re, .int rd]))) (j : Nat) : Met l yX2_leadsTo wsX2_leadsTo ({ frames := 0, cells := 0, slots := 0, locals := 0 } : Room) (Pm E [.ref (g tr), .int (nI j)] (mP E A g M)) (k2_QcV (.int (bI (bitAt rd j)))) 0 0 (fun _ => False) := by
  refine m_entry (by decide) rfl (Nat.le_of_ble_eq_true rfl) ?_
  intro p e s m args below meth c hx hb hr hml hts hown hlocks hin hM hK ls hl
  have hl : lv_has ls 2 [(0, .ref (g tr)), (1, .int (nI j))] := hl
  have hown : s.vm.findClass RX2 = some m.cls := hown
  refine lv_aload_n hx hb dX2_leadsTo_0 rfl (lv_at hl 0 rfl) ?_
  refine m_get hx hb hts in_X2_leadsTo_X2 hown hK hM h9 rfl 5 (by decide) (by decide +kernel) rfl dX2_leadsTo_1 ?_
  refine lv_iload_n hx hb dX2_leadsTo_4 rfl (lv_at hl 1 rfl) ?_
  refine lv_ishr hx hb dX2_leadsTo_5 ?_
  refine lv_iconst (v := 1) hx hb dX2_leadsTo_6 (by decide) ?_
  refine lv_iand hx hb dX2_leadsTo_7 ?_
  refine lv_iconst (v := 1) hx hb dX2_leadsTo_8 (by decide) ?_
  refine lv_icmp_ne (tgt := 16) hx hb dX2_leadsTo_9 (by decide) (fun c9 => ?_) (fun c9 => ?_)
  · refine lv_iconst (v := 0) hx hb dX2_leadsTo_16 (by decide) ?_
    exact r_z hx hb hr hlocks dX2_leadsTo_17 (bI_zero (decide_eq_false (by first | omega | (simp only [Int32.le_iff_toInt_le, Int32.lt_iff_toInt_lt, ← Int32.toInt_inj] at c9 ⊢; omega))))
  · refine lv_iconst (v := 1) hx hb dX2_leadsTo_12 (by decide) ?_
    refine lv_goto (tgt := 17) hx hb dX2_leadsTo_13 (by decide) ?_
    exact r_z hx hb hr hlocks dX2_leadsTo_17 (bI_one (decide_eq_true (by first | omega | (simp only [Int32.le_iff_toInt_le, Int32.lt_iff_toInt_lt, ← Int32.toInt_inj] at c9 ⊢; omega))))
theorem in_X2_doorsThere_X2 : ∀ w ∈ u_ws RX2 TX2 6, w ∈ wsX2_doorsThere := by decide +kernel
set_option maxHeartbeats 4000000 in
set_option maxRecDepth 100000 in
theorem c_doorsThere (l : Launch) (E : gE) (A : Nat → Prop) (g : Nat → Nat) (M : gM) (tr : Nat) (rb rl rc rn re rd : Int32) (h9 : M tr = some (.inr (3, [.int rb, .int rl, .int rc, .int rn, .int re, .int rd]))) : Met l yX2_doorsThere wsX2_doorsThere ({ frames := 1, cells := 0, slots := 0, locals := 20 } : Room) (Pm E [.ref (g tr)] (mP E A g M)) (k2_QcV (.int (bitC rd))) 0 0 (fun _ => False) := by
  refine m_entry (by decide) rfl (Nat.le_of_ble_eq_true rfl) ?_
  intro p e s m args below meth c hx hb hr hml hts hown hlocks hin hM hK ls hl
  have hl : lv_has ls 1 [(0, .ref (g tr))] := hl
  have hown : s.vm.findClass RX2 = some m.cls := hown
  refine lv_aload_n hx hb dX2_doorsThere_0 rfl (lv_at hl 0 rfl) ?_
  refine m_get hx hb hts in_X2_doorsThere_X2 hown hK hM h9 rfl 5 (by decide) (by decide +kernel) rfl dX2_doorsThere_1 ?_
  refine m_cS 1 [.int rd] [] hx hb hml hown hts hK (c_bitCount l E A g M rd) gX2_doorsThere_J6_bitCount_0f7a4 rfl rfl rfl (by decide +kernel) rfl ⟨Nat.le_of_ble_eq_true rfl, Nat.le_of_ble_eq_true rfl⟩ trivial hl.1 (Nat.le_of_ble_eq_true rfl) ⟨Nat.le_of_ble_eq_true rfl, Nat.le_of_ble_eq_true rfl⟩ rfl dX2_doorsThere_4 ?_
  exact r_i hx hb hr hlocks dX2_doorsThere_7 (rfl)
set_option maxHeartbeats 4000000 in
set_option maxRecDepth 100000 in
theorem c_within (l : Launch) (E : gE) (A : Nat → Prop) (g : Nat → Nat) (M : gM) (x lo hi : Int32) : Met l yX4_within wsX4_within ({ frames := 0, cells := 0, slots := 0, locals := 0 } : Room) (Pm E [.int x, .int lo, .int hi] (fun _ => True)) (k2_QcV (.int (bI (decide (lo ≤ x ∧ x ≤ hi))))) 0 0 (fun _ => False) := by
  refine m_entry (by decide) rfl (Nat.le_of_ble_eq_true rfl) ?_
  intro p e s m args below meth c hx hb hr hml hts hown hlocks hin _ hK ls hl
  have hl : lv_has ls 3 [(0, .int x), (1, .int lo), (2, .int hi)] := hl
  have hown : s.vm.findClass RX4 = some m.cls := hown
  refine lv_iload_n hx hb dX4_within_0 rfl (lv_at hl 0 rfl) ?_
  refine lv_iload_n hx hb dX4_within_1 rfl (lv_at hl 1 rfl) ?_
  refine lv_icmp_lt (tgt := 14) hx hb dX4_within_2 (by decide) (fun c2 => ?_) (fun c2 => ?_)
  · refine lv_iconst (v := 0) hx hb dX4_within_14 (by decide) ?_
    exact r_z hx hb hr hlocks dX4_within_15 (bI_zero (decide_eq_false (by first | omega | (simp only [Int32.le_iff_toInt_le, Int32.lt_iff_toInt_lt, ← Int32.toInt_inj] at c2 ⊢; omega))))
  · refine lv_iload_n hx hb dX4_within_5 rfl (lv_at hl 0 rfl) ?_
    refine lv_iload_n hx hb dX4_within_6 rfl (lv_at hl 2 rfl) ?_
    refine lv_icmp_gt (tgt := 14) hx hb dX4_within_7 (by decide) (fun c7 => ?_) (fun c7 => ?_)
    · refine lv_iconst (v := 0) hx hb dX4_within_14 (by decide) ?_
      exact r_z hx hb hr hlocks dX4_within_15 (bI_zero (decide_eq_false (by first | omega | (simp only [Int32.le_iff_toInt_le, Int32.lt_iff_toInt_lt, ← Int32.toInt_inj] at c2 c7 ⊢; omega))))
    · refine lv_iconst (v := 1) hx hb dX4_within_10 (by decide) ?_
      refine lv_goto (tgt := 15) hx hb dX4_within_11 (by decide) ?_
      exact r_z hx hb hr hlocks dX4_within_15 (bI_one (decide_eq_true (by first | omega | (simp only [Int32.le_iff_toInt_le, Int32.lt_iff_toInt_lt, ← Int32.toInt_inj] at c2 c7 ⊢; omega))))
end
