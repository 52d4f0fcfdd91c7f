theorem dX5_init_0 : decode cX5_init 0 = .ok (.aload_n 0, 1) := by decide +kernel
theorem dX5_init_1 : decode cX5_init 1 = .ok (.invokespecial 1, 3) := by decide +kernel
theorem dX5_init_4 : decode cX5_init 4 = .ok (.aload_n 0, 1) := by decide +kernel
theorem dX5_init_5 : decode cX5_init 5 = .ok (.bipush 50, 2) := by decide +kernel
theorem dX5_init_7 : decode cX5_init 7 = .ok (.newarray .int, 2) := by decide +kernel
theorem dX5_init_9 : decode cX5_init 9 = .ok (.putfield 9, 3) := by decide +kernel
theorem dX5_init_12 : decode cX5_init 12 = .ok (.aload_n 0, 1) := by decide +kernel
theorem dX5_init_13 : decode cX5_init 13 = .ok (.bipush 10, 2) := by decide +kernel
theorem dX5_init_15 : decode cX5_init 15 = .ok (.newarray .int, 2) := by decide +kernel
theorem dX5_init_17 : decode cX5_init 17 = .ok (.putfield 13, 3) := by decide +kernel
theorem dX5_init_20 : decode cX5_init 20 = .ok (.aload_n 0, 1) := by decide +kernel
theorem dX5_init_21 : decode cX5_init 21 = .ok (.bipush 20, 2) := by decide +kernel
theorem dX5_init_23 : decode cX5_init 23 = .ok (.newarray .int, 2) := by decide +kernel
theorem dX5_init_25 : decode cX5_init 25 = .ok (.putfield 16, 3) := by decide +kernel
theorem dX5_init_28 : decode cX5_init 28 = .ok (.aload_n 0, 1) := by decide +kernel
theorem dX5_init_29 : decode cX5_init 29 = .ok (.bipush 84, 2) := by decide +kernel
theorem dX5_init_31 : decode cX5_init 31 = .ok (.newarray .int, 2) := by decide +kernel
theorem dX5_init_33 : decode cX5_init 33 = .ok (.putfield 19, 3) := by decide +kernel
theorem dX5_init_36 : decode cX5_init 36 = .ok (.aload_n 0, 1) := by decide +kernel
theorem dX5_init_37 : decode cX5_init 37 = .ok (.iconst 3, 1) := by decide +kernel
theorem dX5_init_38 : decode cX5_init 38 = .ok (.newarray .int, 2) := by decide +kernel
theorem dX5_init_40 : decode cX5_init 40 = .ok (.putfield 22, 3) := by decide +kernel
theorem dX5_init_43 : decode cX5_init 43 = .ok (.aload_n 0, 1) := by decide +kernel
theorem dX5_init_44 : decode cX5_init 44 = .ok (.sipush 1024, 3) := by decide +kernel
theorem dX5_init_47 : decode cX5_init 47 = .ok (.newarray .int, 2) := by decide +kernel
theorem dX5_init_49 : decode cX5_init 49 = .ok (.putfield 25, 3) := by decide +kernel
theorem dX5_init_52 : decode cX5_init 52 = .ok (.return_, 1) := by decide +kernel
theorem dX5_thrown_0 : decode cX5_thrown 0 = .ok (.aload_n 0, 1) := by decide +kernel
theorem dX5_thrown_1 : decode cX5_thrown 1 = .ok (.getfield 28, 3) := by decide +kernel
theorem dX5_thrown_4 : decode cX5_thrown 4 = .ok (.ireturn, 1) := by decide +kernel
theorem dX5_fail_0 : decode cX5_fail 0 = .ok (.aload_n 0, 1) := by decide +kernel
theorem dX5_fail_1 : decode cX5_fail 1 = .ok (.iload_n 1, 1) := by decide +kernel
theorem dX5_fail_2 : decode cX5_fail 2 = .ok (.putfield 28, 3) := by decide +kernel
theorem dX5_fail_5 : decode cX5_fail 5 = .ok (.iconst 0, 1) := by decide +kernel
theorem dX5_fail_6 : decode cX5_fail 6 = .ok (.ireturn, 1) := by decide +kernel
theorem dX5_isIn_0 : decode cX5_isIn 0 = .ok (.iload_n 0, 1) := by decide +kernel
theorem dX5_isIn_1 : decode cX5_isIn 1 = .ok (.iload_n 1, 1) := by decide +kernel
theorem dX5_isIn_2 : decode cX5_isIn 2 = .ok (.if_icmp .lt 12, 3) := by decide +kernel
theorem dX5_isIn_5 : decode cX5_isIn 5 = .ok (.iload_n 0, 1) := by decide +kernel
theorem dX5_isIn_6 : decode cX5_isIn 6 = .ok (.iload_n 2, 1) := by decide +kernel
theorem dX5_isIn_7 : decode cX5_isIn 7 = .ok (.if_icmp .gt 7, 3) := by decide +kernel
theorem dX5_isIn_10 : decode cX5_isIn 10 = .ok (.iconst 1, 1) := by decide +kernel
theorem dX5_isIn_11 : decode cX5_isIn 11 = .ok (.goto 4, 3) := by decide +kernel
theorem dX5_isIn_14 : decode cX5_isIn 14 = .ok (.iconst 0, 1) := by decide +kernel
theorem dX5_isIn_15 : decode cX5_isIn 15 = .ok (.ireturn, 1) := by decide +kernel
set_option maxRecDepth 20000 in
theorem ggX5_isRoom_X5_isIn : GoodIn wsX5_isRoom wsX5_isIn := goodIn_r _ [5] (by decide +kernel) (by decide +kernel)
set_option maxRecDepth 20000 in
theorem gX5_isRoom_X5_isIn : GoodIn wsX5_isRoom (va_wsS RX5 35 yX5_isIn wsX5_isIn) := goodIn_app (goodIn_of _ (by decide +kernel)) ggX5_isRoom_X5_isIn
theorem dX5_isRoom_0 : decode cX5_isRoom 0 = .ok (.iload_n 1, 1) := by decide +kernel
theorem dX5_isRoom_1 : decode cX5_isRoom 1 = .ok (.iconst 0, 1) := by decide +kernel
theorem dX5_isRoom_2 : decode cX5_isRoom 2 = .ok (.aload_n 0, 1) := by decide +kernel
theorem dX5_isRoom_3 : decode cX5_isRoom 3 = .ok (.getfield 32, 3) := by decide +kernel
theorem dX5_isRoom_6 : decode cX5_isRoom 6 = .ok (.iconst 1, 1) := by decide +kernel
theorem dX5_isRoom_7 : decode cX5_isRoom 7 = .ok (.isub, 1) := by decide +kernel
theorem dX5_isRoom_8 : decode cX5_isRoom 8 = .ok (.invokestatic 35, 3) := by decide +kernel
theorem dX5_isRoom_11 : decode cX5_isRoom 11 = .ok (.ireturn, 1) := by decide +kernel
set_option maxRecDepth 20000 in
theorem ggX5_isGhost_X5_isIn : GoodIn wsX5_isGhost wsX5_isIn := goodIn_r _ [5] (by decide +kernel) (by decide +kernel)
set_option maxRecDepth 20000 in
theorem gX5_isGhost_X5_isIn : GoodIn wsX5_isGhost (va_wsS RX5 35 yX5_isIn wsX5_isIn) := goodIn_app (goodIn_of _ (by decide +kernel)) ggX5_isGhost_X5_isIn
theorem dX5_isGhost_0 : decode cX5_isGhost 0 = .ok (.iload_n 1, 1) := by decide +kernel
theorem dX5_isGhost_1 : decode cX5_isGhost 1 = .ok (.iconst 0, 1) := by decide +kernel
theorem dX5_isGhost_2 : decode cX5_isGhost 2 = .ok (.aload_n 0, 1) := by decide +kernel
theorem dX5_isGhost_3 : decode cX5_isGhost 3 = .ok (.getfield 39, 3) := by decide +kernel
theorem dX5_isGhost_6 : decode cX5_isGhost 6 = .ok (.iconst 1, 1) := by decide +kernel
theorem dX5_isGhost_7 : decode cX5_isGhost 7 = .ok (.isub, 1) := by decide +kernel
theorem dX5_isGhost_8 : decode cX5_isGhost 8 = .ok (.invokestatic 35, 3) := by decide +kernel
theorem dX5_isGhost_11 : decode cX5_isGhost 11 = .ok (.ireturn, 1) := by decide +kernel
set_option maxRecDepth 20000 in
theorem ggX5_isGuest_X5_isIn : GoodIn wsX5_isGuest wsX5_isIn := goodIn_r _ [5] (by decide +kernel) (by decide +kernel)
set_option maxRecDepth 20000 in
theorem gX5_isGuest_X5_isIn : GoodIn wsX5_isGuest (va_wsS RX5 35 yX5_isIn wsX5_isIn) := goodIn_app (goodIn_of _ (by decide +kernel)) ggX5_isGuest_X5_isIn
theorem dX5_isGuest_0 : decode cX5_isGuest 0 = .ok (.iload_n 1, 1) := by decide +kernel
theorem dX5_isGuest_1 : decode cX5_isGuest 1 = .ok (.iconst 0, 1) := by decide +kernel
theorem dX5_isGuest_2 : decode cX5_isGuest 2 = .ok (.aload_n 0, 1) := by decide +kernel
theorem dX5_isGuest_3 : decode cX5_isGuest 3 = .ok (.getfield 42, 3) := by decide +kernel
theorem dX5_isGuest_6 : decode cX5_isGuest 6 = .ok (.iconst 1, 1) := by decide +kernel
theorem dX5_isGuest_7 : decode cX5_isGuest 7 = .ok (.isub, 1) := by decide +kernel
theorem dX5_isGuest_8 : decode cX5_isGuest 8 = .ok (.invokestatic 35, 3) := by decide +kernel
theorem dX5_isGuest_11 : decode cX5_isGuest 11 = .ok (.ireturn, 1) := by decide +kernel
theorem dX5_ro_0 : decode cX5_ro 0 = .ok (.aload_n 0, 1) := by decide +kernel
theorem dX5_ro_1 : decode cX5_ro 1 = .ok (.getfield 9, 3) := by decide +kernel
theorem dX5_ro_4 : decode cX5_ro 4 = .ok (.iconst 5, 1) := by decide +kernel
theorem dX5_ro_5 : decode cX5_ro 5 = .ok (.iload_n 1, 1) := by decide +kernel
theorem dX5_ro_6 : decode cX5_ro 6 = .ok (.imul, 1) := by decide +kernel
theorem dX5_ro_7 : decode cX5_ro 7 = .ok (.iload_n 2, 1) := by decide +kernel
theorem dX5_ro_8 : decode cX5_ro 8 = .ok (.iadd, 1) := by decide +kernel
theorem dX5_ro_9 : decode cX5_ro 9 = .ok (.iaload, 1) := by decide +kernel
theorem dX5_ro_10 : decode cX5_ro 10 = .ok (.ireturn, 1) := by decide +kernel
theorem dX5_addRo_0 : decode cX5_addRo 0 = .ok (.aload_n 0, 1) := by decide +kernel
theorem dX5_addRo_1 : decode cX5_addRo 1 = .ok (.getfield 9, 3) := by decide +kernel
theorem dX5_addRo_4 : decode cX5_addRo 4 = .ok (.iconst 5, 1) := by decide +kernel
theorem dX5_addRo_5 : decode cX5_addRo 5 = .ok (.iload_n 1, 1) := by decide +kernel
theorem dX5_addRo_6 : decode cX5_addRo 6 = .ok (.imul, 1) := by decide +kernel
theorem dX5_addRo_7 : decode cX5_addRo 7 = .ok (.iload_n 2, 1) := by decide +kernel
theorem dX5_addRo_8 : decode cX5_addRo 8 = .ok (.iadd, 1) := by decide +kernel
theorem dX5_addRo_9 : decode cX5_addRo 9 = .ok (.dup2, 1) := by decide +kernel
theorem dX5_addRo_10 : decode cX5_addRo 10 = .ok (.iaload, 1) := by decide +kernel
theorem dX5_addRo_11 : decode cX5_addRo 11 = .ok (.iload_n 3, 1) := by decide +kernel
theorem dX5_addRo_12 : decode cX5_addRo 12 = .ok (.iadd, 1) := by decide +kernel
theorem dX5_addRo_13 : decode cX5_addRo 13 = .ok (.iastore, 1) := by decide +kernel
theorem dX5_addRo_14 : decode cX5_addRo 14 = .ok (.return_, 1) := by decide +kernel
theorem dX5_sp_0 : decode cX5_sp 0 = .ok (.aload_n 0, 1) := by decide +kernel
theorem dX5_sp_1 : decode cX5_sp 1 = .ok (.getfield 16, 3) := by decide +kernel
theorem dX5_sp_4 : decode cX5_sp 4 = .ok (.iconst 4, 1) := by decide +kernel
theorem dX5_sp_5 : decode cX5_sp 5 = .ok (.iload_n 1, 1) := by decide +kernel
theorem dX5_sp_6 : decode cX5_sp 6 = .ok (.imul, 1) := by decide +kernel
theorem dX5_sp_7 : decode cX5_sp 7 = .ok (.iload_n 2, 1) := by decide +kernel
theorem dX5_sp_8 : decode cX5_sp 8 = .ok (.iadd, 1) := by decide +kernel
theorem dX5_sp_9 : decode cX5_sp 9 = .ok (.iaload, 1) := by decide +kernel
theorem dX5_sp_10 : decode cX5_sp 10 = .ok (.ireturn, 1) := by decide +kernel
theorem dX5_pe_0 : decode cX5_pe 0 = .ok (.aload_n 0, 1) := by decide +kernel
theorem dX5_pe_1 : decode cX5_pe 1 = .ok (.getfield 19, 3) := by decide +kernel
theorem dX5_pe_4 : decode cX5_pe 4 = .ok (.bipush 7, 2) := by decide +kernel
theorem dX5_pe_6 : decode cX5_pe 6 = .ok (.iload_n 1, 1) := by decide +kernel
theorem dX5_pe_7 : decode cX5_pe 7 = .ok (.imul, 1) := by decide +kernel
theorem dX5_pe_8 : decode cX5_pe 8 = .ok (.iload_n 2, 1) := by decide +kernel
theorem dX5_pe_9 : decode cX5_pe 9 = .ok (.iadd, 1) := by decide +kernel
theorem dX5_pe_10 : decode cX5_pe 10 = .ok (.iaload, 1) := by decide +kernel
theorem dX5_pe_11 : decode cX5_pe 11 = .ok (.ireturn, 1) := by decide +kernel
theorem dX5_set_0 : decode cX5_set 0 = .ok (.aload_n 0, 1) := by decide +kernel
theorem dX5_set_1 : decode cX5_set 1 = .ok (.getfield 19, 3) := by decide +kernel
theorem dX5_set_4 : decode cX5_set 4 = .ok (.bipush 7, 2) := by decide +kernel
theorem dX5_set_6 : decode cX5_set 6 = .ok (.iload_n 1, 1) := by decide +kernel
theorem dX5_set_7 : decode cX5_set 7 = .ok (.imul, 1) := by decide +kernel
theorem dX5_set_8 : decode cX5_set 8 = .ok (.iload_n 2, 1) := by decide +kernel
theorem dX5_set_9 : decode cX5_set 9 = .ok (.iadd, 1) := by decide +kernel
theorem dX5_set_10 : decode cX5_set 10 = .ok (.iload_n 3, 1) := by decide +kernel
theorem dX5_set_11 : decode cX5_set 11 = .ok (.iastore, 1) := by decide +kernel
theorem dX5_set_12 : decode cX5_set 12 = .ok (.return_, 1) := by decide +kernel
set_option maxRecDepth 20000 in
theorem ggX5_furnish_X5_isIn : GoodIn wsX5_furnish wsX5_isIn := goodIn_r _ [12] (by decide +kernel) (by decide +kernel)
set_option maxRecDepth 20000 in
theorem gX5_furnish_X5_isIn : GoodIn wsX5_furnish (va_wsS RX5 35 yX5_isIn wsX5_isIn) := goodIn_app (goodIn_of _ (by decide +kernel)) ggX5_furnish_X5_isIn
set_option maxRecDepth 20000 in
theorem ggX5_furnish_X5_fail : GoodIn wsX5_furnish wsX5_fail := goodIn_r _ [16, 1, 17, 18, 19, 20, 21, 22, 23, 24, 25, 26, 27] (by decide +kernel) (by decide +kernel)
set_option maxRecDepth 20000 in
theorem gX5_furnish_X5_fail : GoodIn wsX5_furnish (wsV RX5 45 RX5 yX5_fail wsX5_fail) := goodIn_app (goodIn_of _ (by decide +kernel)) ggX5_furnish_X5_fail
theorem dX5_furnish_0 : decode cX5_furnish 0 = .ok (.aload_n 0, 1) := by decide +kernel
theorem dX5_furnish_1 : decode cX5_furnish 1 = .ok (.iconst 0, 1) := by decide +kernel
theorem dX5_furnish_2 : decode cX5_furnish 2 = .ok (.putfield 28, 3) := by decide +kernel
theorem dX5_furnish_5 : decode cX5_furnish 5 = .ok (.iload_n 1, 1) := by decide +kernel
theorem dX5_furnish_6 : decode cX5_furnish 6 = .ok (.iconst 1, 1) := by decide +kernel
theorem dX5_furnish_7 : decode cX5_furnish 7 = .ok (.bipush 6, 2) := by decide +kernel
theorem dX5_furnish_9 : decode cX5_furnish 9 = .ok (.invokestatic 35, 3) := by decide +kernel
theorem dX5_furnish_12 : decode cX5_furnish 12 = .ok (.ifCond .eq 23, 3) := by decide +kernel
theorem dX5_furnish_15 : decode cX5_furnish 15 = .ok (.iload_n 2, 1) := by decide +kernel
theorem dX5_furnish_16 : decode cX5_furnish 16 = .ok (.iconst 0, 1) := by decide +kernel
theorem dX5_furnish_17 : decode cX5_furnish 17 = .ok (.bipush 9, 2) := by decide +kernel
theorem dX5_furnish_19 : decode cX5_furnish 19 = .ok (.invokestatic 35, 3) := by decide +kernel
theorem dX5_furnish_22 : decode cX5_furnish 22 = .ok (.ifCond .eq 13, 3) := by decide +kernel
theorem dX5_furnish_25 : decode cX5_furnish 25 = .ok (.iload_n 3, 1) := by decide +kernel
theorem dX5_furnish_26 : decode cX5_furnish 26 = .ok (.iconst 0, 1) := by decide +kernel
theorem dX5_furnish_27 : decode cX5_furnish 27 = .ok (.bipush 100, 2) := by decide +kernel
theorem dX5_furnish_29 : decode cX5_furnish 29 = .ok (.invokestatic 35, 3) := by decide +kernel
theorem dX5_furnish_32 : decode cX5_furnish 32 = .ok (.ifCond .ne 9, 3) := by decide +kernel
theorem dX5_furnish_35 : decode cX5_furnish 35 = .ok (.aload_n 0, 1) := by decide +kernel
theorem dX5_furnish_36 : decode cX5_furnish 36 = .ok (.iconst 1, 1) := by decide +kernel
theorem dX5_furnish_37 : decode cX5_furnish 37 = .ok (.invokevirtual 45, 3) := by decide +kernel
theorem dX5_furnish_40 : decode cX5_furnish 40 = .ok (.ireturn, 1) := by decide +kernel
theorem dX5_furnish_41 : decode cX5_furnish 41 = .ok (.aload_n 0, 1) := by decide +kernel
theorem dX5_furnish_42 : decode cX5_furnish 42 = .ok (.getfield 32, 3) := by decide +kernel
theorem dX5_furnish_45 : decode cX5_furnish 45 = .ok (.bipush 10, 2) := by decide +kernel
theorem dX5_furnish_47 : decode cX5_furnish 47 = .ok (.if_icmp .ne 9, 3) := by decide +kernel
theorem dX5_furnish_50 : decode cX5_furnish 50 = .ok (.aload_n 0, 1) := by decide +kernel
theorem dX5_furnish_51 : decode cX5_furnish 51 = .ok (.iconst 2, 1) := by decide +kernel
theorem dX5_furnish_52 : decode cX5_furnish 52 = .ok (.invokevirtual 45, 3) := by decide +kernel
theorem dX5_furnish_55 : decode cX5_furnish 55 = .ok (.ireturn, 1) := by decide +kernel
theorem dX5_furnish_56 : decode cX5_furnish 56 = .ok (.iconst 5, 1) := by decide +kernel
theorem dX5_furnish_57 : decode cX5_furnish 57 = .ok (.newarray .int, 2) := by decide +kernel
theorem dX5_furnish_59 : decode cX5_furnish 59 = .ok (.dup, 1) := by decide +kernel
theorem dX5_furnish_60 : decode cX5_furnish 60 = .ok (.iconst 0, 1) := by decide +kernel
theorem dX5_furnish_61 : decode cX5_furnish 61 = .ok (.iload_n 1, 1) := by decide +kernel
theorem dX5_furnish_62 : decode cX5_furnish 62 = .ok (.iastore, 1) := by decide +kernel
theorem dX5_furnish_63 : decode cX5_furnish 63 = .ok (.dup, 1) := by decide +kernel
theorem dX5_furnish_64 : decode cX5_furnish 64 = .ok (.iconst 1, 1) := by decide +kernel
theorem dX5_furnish_65 : decode cX5_furnish 65 = .ok (.iload_n 2, 1) := by decide +kernel
theorem dX5_furnish_66 : decode cX5_furnish 66 = .ok (.iastore, 1) := by decide +kernel
theorem dX5_furnish_67 : decode cX5_furnish 67 = .ok (.dup, 1) := by decide +kernel
theorem dX5_furnish_68 : decode cX5_furnish 68 = .ok (.iconst 2, 1) := by decide +kernel
theorem dX5_furnish_69 : decode cX5_furnish 69 = .ok (.iload_n 3, 1) := by decide +kernel
theorem dX5_furnish_70 : decode cX5_furnish 70 = .ok (.iastore, 1) := by decide +kernel
theorem dX5_furnish_71 : decode cX5_furnish 71 = .ok (.dup, 1) := by decide +kernel
theorem dX5_furnish_72 : decode cX5_furnish 72 = .ok (.iconst 3, 1) := by decide +kernel
theorem dX5_furnish_73 : decode cX5_furnish 73 = .ok (.iconst 0, 1) := by decide +kernel
theorem dX5_furnish_74 : decode cX5_furnish 74 = .ok (.iastore, 1) := by decide +kernel
theorem dX5_furnish_75 : decode cX5_furnish 75 = .ok (.dup, 1) := by decide +kernel
theorem dX5_furnish_76 : decode cX5_furnish 76 = .ok (.iconst 4, 1) := by decide +kernel
theorem dX5_furnish_77 : decode cX5_furnish 77 = .ok (.iconst 0, 1) := by decide +kernel
theorem dX5_furnish_78 : decode cX5_furnish 78 = .ok (.iastore, 1) := by decide +kernel
theorem dX5_furnish_79 : decode cX5_furnish 79 = .ok (.astore 4, 2) := by decide +kernel
theorem dX5_furnish_81 : decode cX5_furnish 81 = .ok (.aload 4, 2) := by decide +kernel
theorem dX5_furnish_83 : decode cX5_furnish 83 = .ok (.iconst 0, 1) := by decide +kernel
theorem dX5_furnish_84 : decode cX5_furnish 84 = .ok (.aload_n 0, 1) := by decide +kernel
theorem dX5_furnish_85 : decode cX5_furnish 85 = .ok (.getfield 9, 3) := by decide +kernel
theorem dX5_furnish_88 : decode cX5_furnish 88 = .ok (.iconst 5, 1) := by decide +kernel
theorem dX5_furnish_89 : decode cX5_furnish 89 = .ok (.aload_n 0, 1) := by decide +kernel
theorem dX5_furnish_90 : decode cX5_furnish 90 = .ok (.getfield 32, 3) := by decide +kernel
theorem dX5_furnish_93 : decode cX5_furnish 93 = .ok (.imul, 1) := by decide +kernel
theorem dX5_furnish_94 : decode cX5_furnish 94 = .ok (.iconst 5, 1) := by decide +kernel
theorem dX5_furnish_95 : decode cX5_furnish 95 = .ok (.invokestatic 49, 3) := by decide +kernel
theorem dX5_furnish_98 : decode cX5_furnish 98 = .ok (.aload_n 0, 1) := by decide +kernel
theorem dX5_furnish_99 : decode cX5_furnish 99 = .ok (.dup, 1) := by decide +kernel
theorem dX5_furnish_100 : decode cX5_furnish 100 = .ok (.getfield 32, 3) := by decide +kernel
theorem dX5_furnish_103 : decode cX5_furnish 103 = .ok (.iconst 1, 1) := by decide +kernel
theorem dX5_furnish_104 : decode cX5_furnish 104 = .ok (.iadd, 1) := by decide +kernel
theorem dX5_furnish_105 : decode cX5_furnish 105 = .ok (.putfield 32, 3) := by decide +kernel
theorem dX5_furnish_108 : decode cX5_furnish 108 = .ok (.aload_n 0, 1) := by decide +kernel
theorem dX5_furnish_109 : decode cX5_furnish 109 = .ok (.getfield 32, 3) := by decide +kernel
theorem dX5_furnish_112 : decode cX5_furnish 112 = .ok (.iconst 1, 1) := by decide +kernel
theorem dX5_furnish_113 : decode cX5_furnish 113 = .ok (.isub, 1) := by decide +kernel
theorem dX5_furnish_114 : decode cX5_furnish 114 = .ok (.ireturn, 1) := by decide +kernel
set_option maxRecDepth 20000 in
theorem ggX5_door_X5_isRoom : GoodIn wsX5_door wsX5_isRoom := goodIn_r _ [8, 9, 10, 11, 7, 12, 17, 18, 19, 20, 21, 22, 23, 24, 25, 26, 27] (by decide +kernel) (by decide +kernel)
set_option maxRecDepth 20000 in
theorem gX5_door_X5_isRoom : GoodIn wsX5_door (wsV RX5 55 RX5 yX5_isRoom wsX5_isRoom) := goodIn_app (goodIn_of _ (by decide +kernel)) ggX5_door_X5_isRoom
set_option maxRecDepth 20000 in
theorem ggX5_door_X5_fail : GoodIn wsX5_door wsX5_fail := goodIn_r _ [16, 1, 17, 18, 19, 20, 21, 22, 23, 24, 25, 26, 27] (by decide +kernel) (by decide +kernel)
set_option maxRecDepth 20000 in
theorem gX5_door_X5_fail : GoodIn wsX5_door (wsV RX5 45 RX5 yX5_fail wsX5_fail) := goodIn_app (goodIn_of _ (by decide +kernel)) ggX5_door_X5_fail
theorem dX5_door_0 : decode cX5_door 0 = .ok (.aload_n 0, 1) := by decide +kernel
theorem dX5_door_1 : decode cX5_door 1 = .ok (.iconst 0, 1) := by decide +kernel
theorem dX5_door_2 : decode cX5_door 2 = .ok (.putfield 28, 3) := by decide +kernel
theorem dX5_door_5 : decode cX5_door 5 = .ok (.aload_n 0, 1) := by decide +kernel
theorem dX5_door_6 : decode cX5_door 6 = .ok (.iload_n 1, 1) := by decide +kernel
theorem dX5_door_7 : decode cX5_door 7 = .ok (.invokevirtual 55, 3) := by decide +kernel
theorem dX5_door_10 : decode cX5_door 10 = .ok (.ifCond .eq 11, 3) := by decide +kernel
theorem dX5_door_13 : decode cX5_door 13 = .ok (.aload_n 0, 1) := by decide +kernel
theorem dX5_door_14 : decode cX5_door 14 = .ok (.iload_n 2, 1) := by decide +kernel
theorem dX5_door_15 : decode cX5_door 15 = .ok (.invokevirtual 55, 3) := by decide +kernel
theorem dX5_door_18 : decode cX5_door 18 = .ok (.ifCond .ne 9, 3) := by decide +kernel
theorem dX5_door_21 : decode cX5_door 21 = .ok (.aload_n 0, 1) := by decide +kernel
theorem dX5_door_22 : decode cX5_door 22 = .ok (.iconst 1, 1) := by decide +kernel
theorem dX5_door_23 : decode cX5_door 23 = .ok (.invokevirtual 45, 3) := by decide +kernel
theorem dX5_door_26 : decode cX5_door 26 = .ok (.ireturn, 1) := by decide +kernel
theorem dX5_door_27 : decode cX5_door 27 = .ok (.iload_n 1, 1) := by decide +kernel
theorem dX5_door_28 : decode cX5_door 28 = .ok (.iload_n 2, 1) := by decide +kernel
theorem dX5_door_29 : decode cX5_door 29 = .ok (.if_icmp .ne 9, 3) := by decide +kernel
theorem dX5_door_32 : decode cX5_door 32 = .ok (.aload_n 0, 1) := by decide +kernel
theorem dX5_door_33 : decode cX5_door 33 = .ok (.iconst 2, 1) := by decide +kernel
theorem dX5_door_34 : decode cX5_door 34 = .ok (.invokevirtual 45, 3) := by decide +kernel
theorem dX5_door_37 : decode cX5_door 37 = .ok (.ireturn, 1) := by decide +kernel
theorem dX5_door_38 : decode cX5_door 38 = .ok (.aload_n 0, 1) := by decide +kernel
theorem dX5_door_39 : decode cX5_door 39 = .ok (.getfield 13, 3) := by decide +kernel
theorem dX5_door_42 : decode cX5_door 42 = .ok (.iload_n 1, 1) := by decide +kernel
theorem dX5_door_43 : decode cX5_door 43 = .ok (.iaload, 1) := by decide +kernel
theorem dX5_door_44 : decode cX5_door 44 = .ok (.iload_n 2, 1) := by decide +kernel
theorem dX5_door_45 : decode cX5_door 45 = .ok (.ishr, 1) := by decide +kernel
theorem dX5_door_46 : decode cX5_door 46 = .ok (.iconst 1, 1) := by decide +kernel
theorem dX5_door_47 : decode cX5_door 47 = .ok (.iand, 1) := by decide +kernel
theorem dX5_door_48 : decode cX5_door 48 = .ok (.iconst 1, 1) := by decide +kernel
theorem dX5_door_49 : decode cX5_door 49 = .ok (.if_icmp .ne 8, 3) := by decide +kernel
theorem dX5_door_52 : decode cX5_door 52 = .ok (.aload_n 0, 1) := by decide +kernel
theorem dX5_door_53 : decode cX5_door 53 = .ok (.getfield 59, 3) := by decide +kernel
theorem dX5_door_56 : decode cX5_door 56 = .ok (.ireturn, 1) := by decide +kernel
theorem dX5_door_57 : decode cX5_door 57 = .ok (.aload_n 0, 1) := by decide +kernel
theorem dX5_door_58 : decode cX5_door 58 = .ok (.getfield 59, 3) := by decide +kernel
theorem dX5_door_61 : decode cX5_door 61 = .ok (.bipush 20, 2) := by decide +kernel
theorem dX5_door_63 : decode cX5_door 63 = .ok (.if_icmp .ne 9, 3) := by decide +kernel
theorem dX5_door_66 : decode cX5_door 66 = .ok (.aload_n 0, 1) := by decide +kernel
theorem dX5_door_67 : decode cX5_door 67 = .ok (.iconst 3, 1) := by decide +kernel
theorem dX5_door_68 : decode cX5_door 68 = .ok (.invokevirtual 45, 3) := by decide +kernel
theorem dX5_door_71 : decode cX5_door 71 = .ok (.ireturn, 1) := by decide +kernel
theorem dX5_door_72 : decode cX5_door 72 = .ok (.aload_n 0, 1) := by decide +kernel
theorem dX5_door_73 : decode cX5_door 73 = .ok (.getfield 13, 3) := by decide +kernel
theorem dX5_door_76 : decode cX5_door 76 = .ok (.iload_n 1, 1) := by decide +kernel
theorem dX5_door_77 : decode cX5_door 77 = .ok (.dup2, 1) := by decide +kernel
theorem dX5_door_78 : decode cX5_door 78 = .ok (.iaload, 1) := by decide +kernel
theorem dX5_door_79 : decode cX5_door 79 = .ok (.iconst 1, 1) := by decide +kernel
theorem dX5_door_80 : decode cX5_door 80 = .ok (.iload_n 2, 1) := by decide +kernel
theorem dX5_door_81 : decode cX5_door 81 = .ok (.ishl, 1) := by decide +kernel
theorem dX5_door_82 : decode cX5_door 82 = .ok (.ior, 1) := by decide +kernel
theorem dX5_door_83 : decode cX5_door 83 = .ok (.iastore, 1) := by decide +kernel
theorem dX5_door_84 : decode cX5_door 84 = .ok (.aload_n 0, 1) := by decide +kernel
theorem dX5_door_85 : decode cX5_door 85 = .ok (.getfield 13, 3) := by decide +kernel
theorem dX5_door_88 : decode cX5_door 88 = .ok (.iload_n 2, 1) := by decide +kernel
theorem dX5_door_89 : decode cX5_door 89 = .ok (.dup2, 1) := by decide +kernel
theorem dX5_door_90 : decode cX5_door 90 = .ok (.iaload, 1) := by decide +kernel
theorem dX5_door_91 : decode cX5_door 91 = .ok (.iconst 1, 1) := by decide +kernel
theorem dX5_door_92 : decode cX5_door 92 = .ok (.iload_n 1, 1) := by decide +kernel
theorem dX5_door_93 : decode cX5_door 93 = .ok (.ishl, 1) := by decide +kernel
theorem dX5_door_94 : decode cX5_door 94 = .ok (.ior, 1) := by decide +kernel
theorem dX5_door_95 : decode cX5_door 95 = .ok (.iastore, 1) := by decide +kernel
theorem dX5_door_96 : decode cX5_door 96 = .ok (.aload_n 0, 1) := by decide +kernel
theorem dX5_door_97 : decode cX5_door 97 = .ok (.dup, 1) := by decide +kernel
theorem dX5_door_98 : decode cX5_door 98 = .ok (.getfield 59, 3) := by decide +kernel
theorem dX5_door_101 : decode cX5_door 101 = .ok (.iconst 1, 1) := by decide +kernel
theorem dX5_door_102 : decode cX5_door 102 = .ok (.iadd, 1) := by decide +kernel
theorem dX5_door_103 : decode cX5_door 103 = .ok (.putfield 59, 3) := by decide +kernel
theorem dX5_door_106 : decode cX5_door 106 = .ok (.aload_n 0, 1) := by decide +kernel
theorem dX5_door_107 : decode cX5_door 107 = .ok (.getfield 59, 3) := by decide +kernel
theorem dX5_door_110 : decode cX5_door 110 = .ok (.ireturn, 1) := by decide +kernel
set_option maxRecDepth 20000 in
theorem ggX5_haunt_X5_isRoom : GoodIn wsX5_haunt wsX5_isRoom := goodIn_r _ [13, 14, 15, 16, 12, 17, 22, 23, 24, 25, 26, 27, 28, 29, 30, 31, 32] (by decide +kernel) (by decide +kernel)
set_option maxRecDepth 20000 in
theorem gX5_haunt_X5_isRoom : GoodIn wsX5_haunt (wsV RX5 55 RX5 yX5_isRoom wsX5_isRoom) := goodIn_app (goodIn_of _ (by decide +kernel)) ggX5_haunt_X5_isRoom
set_option maxRecDepth 20000 in
theorem ggX5_haunt_X5_fail : GoodIn wsX5_haunt wsX5_fail := goodIn_r _ [21, 1, 22, 23, 24, 25, 26, 27, 28, 29, 30, 31, 32] (by decide +kernel) (by decide +kernel)
set_option maxRecDepth 20000 in
theorem gX5_haunt_X5_fail : GoodIn wsX5_haunt (wsV RX5 45 RX5 yX5_fail wsX5_fail) := goodIn_app (goodIn_of _ (by decide +kernel)) ggX5_haunt_X5_fail
set_option maxRecDepth 20000 in
theorem ggX5_haunt_X5_isIn : GoodIn wsX5_haunt wsX5_isIn := goodIn_r _ [17] (by decide +kernel) (by decide +kernel)
set_option maxRecDepth 20000 in
theorem gX5_haunt_X5_isIn : GoodIn wsX5_haunt (va_wsS RX5 35 yX5_isIn wsX5_isIn) := goodIn_app (goodIn_of _ (by decide +kernel)) ggX5_haunt_X5_isIn
theorem dX5_haunt_0 : decode cX5_haunt 0 = .ok (.aload_n 0, 1) := by decide +kernel
theorem dX5_haunt_1 : decode cX5_haunt 1 = .ok (.iconst 0, 1) := by decide +kernel
theorem dX5_haunt_2 : decode cX5_haunt 2 = .ok (.putfield 28, 3) := by decide +kernel
theorem dX5_haunt_5 : decode cX5_haunt 5 = .ok (.aload_n 0, 1) := by decide +kernel
theorem dX5_haunt_6 : decode cX5_haunt 6 = .ok (.iload_n 1, 1) := by decide +kernel
theorem dX5_haunt_7 : decode cX5_haunt 7 = .ok (.invokevirtual 55, 3) := by decide +kernel
theorem dX5_haunt_10 : decode cX5_haunt 10 = .ok (.ifCond .ne 9, 3) := by decide +kernel
theorem dX5_haunt_13 : decode cX5_haunt 13 = .ok (.aload_n 0, 1) := by decide +kernel
theorem dX5_haunt_14 : decode cX5_haunt 14 = .ok (.iconst 1, 1) := by decide +kernel
theorem dX5_haunt_15 : decode cX5_haunt 15 = .ok (.invokevirtual 45, 3) := by decide +kernel
theorem dX5_haunt_18 : decode cX5_haunt 18 = .ok (.ireturn, 1) := by decide +kernel
theorem dX5_haunt_19 : decode cX5_haunt 19 = .ok (.iload_n 2, 1) := by decide +kernel
theorem dX5_haunt_20 : decode cX5_haunt 20 = .ok (.iconst 1, 1) := by decide +kernel
theorem dX5_haunt_21 : decode cX5_haunt 21 = .ok (.bipush 9, 2) := by decide +kernel
theorem dX5_haunt_23 : decode cX5_haunt 23 = .ok (.invokestatic 35, 3) := by decide +kernel
theorem dX5_haunt_26 : decode cX5_haunt 26 = .ok (.ifCond .eq 26, 3) := by decide +kernel
theorem dX5_haunt_29 : decode cX5_haunt 29 = .ok (.iload_n 3, 1) := by decide +kernel
theorem dX5_haunt_30 : decode cX5_haunt 30 = .ok (.iconst 0, 1) := by decide +kernel
theorem dX5_haunt_31 : decode cX5_haunt 31 = .ok (.bipush 11, 2) := by decide +kernel
theorem dX5_haunt_33 : decode cX5_haunt 33 = .ok (.invokestatic 35, 3) := by decide +kernel
theorem dX5_haunt_36 : decode cX5_haunt 36 = .ok (.ifCond .eq 16, 3) := by decide +kernel
theorem dX5_haunt_39 : decode cX5_haunt 39 = .ok (.iload 4, 2) := by decide +kernel
theorem dX5_haunt_41 : decode cX5_haunt 41 = .ok (.iload_n 3, 1) := by decide +kernel
theorem dX5_haunt_42 : decode cX5_haunt 42 = .ok (.if_icmp .le 10, 3) := by decide +kernel
theorem dX5_haunt_45 : decode cX5_haunt 45 = .ok (.iload 4, 2) := by decide +kernel
theorem dX5_haunt_47 : decode cX5_haunt 47 = .ok (.bipush 12, 2) := by decide +kernel
theorem dX5_haunt_49 : decode cX5_haunt 49 = .ok (.if_icmp .le 9, 3) := by decide +kernel
theorem dX5_haunt_52 : decode cX5_haunt 52 = .ok (.aload_n 0, 1) := by decide +kernel
theorem dX5_haunt_53 : decode cX5_haunt 53 = .ok (.iconst 2, 1) := by decide +kernel
theorem dX5_haunt_54 : decode cX5_haunt 54 = .ok (.invokevirtual 45, 3) := by decide +kernel
theorem dX5_haunt_57 : decode cX5_haunt 57 = .ok (.ireturn, 1) := by decide +kernel
theorem dX5_haunt_58 : decode cX5_haunt 58 = .ok (.aload_n 0, 1) := by decide +kernel
theorem dX5_haunt_59 : decode cX5_haunt 59 = .ok (.getfield 39, 3) := by decide +kernel
theorem dX5_haunt_62 : decode cX5_haunt 62 = .ok (.iconst 5, 1) := by decide +kernel
theorem dX5_haunt_63 : decode cX5_haunt 63 = .ok (.if_icmp .ne 9, 3) := by decide +kernel
theorem dX5_haunt_66 : decode cX5_haunt 66 = .ok (.aload_n 0, 1) := by decide +kernel
theorem dX5_haunt_67 : decode cX5_haunt 67 = .ok (.iconst 3, 1) := by decide +kernel
theorem dX5_haunt_68 : decode cX5_haunt 68 = .ok (.invokevirtual 45, 3) := by decide +kernel
theorem dX5_haunt_71 : decode cX5_haunt 71 = .ok (.ireturn, 1) := by decide +kernel
theorem dX5_haunt_72 : decode cX5_haunt 72 = .ok (.iconst 4, 1) := by decide +kernel
theorem dX5_haunt_73 : decode cX5_haunt 73 = .ok (.newarray .int, 2) := by decide +kernel
theorem dX5_haunt_75 : decode cX5_haunt 75 = .ok (.dup, 1) := by decide +kernel
theorem dX5_haunt_76 : decode cX5_haunt 76 = .ok (.iconst 0, 1) := by decide +kernel
theorem dX5_haunt_77 : decode cX5_haunt 77 = .ok (.iload_n 1, 1) := by decide +kernel
theorem dX5_haunt_78 : decode cX5_haunt 78 = .ok (.iastore, 1) := by decide +kernel
theorem dX5_haunt_79 : decode cX5_haunt 79 = .ok (.dup, 1) := by decide +kernel
theorem dX5_haunt_80 : decode cX5_haunt 80 = .ok (.iconst 1, 1) := by decide +kernel
theorem dX5_haunt_81 : decode cX5_haunt 81 = .ok (.iload_n 2, 1) := by decide +kernel
theorem dX5_haunt_82 : decode cX5_haunt 82 = .ok (.iastore, 1) := by decide +kernel
theorem dX5_haunt_83 : decode cX5_haunt 83 = .ok (.dup, 1) := by decide +kernel
theorem dX5_haunt_84 : decode cX5_haunt 84 = .ok (.iconst 2, 1) := by decide +kernel
theorem dX5_haunt_85 : decode cX5_haunt 85 = .ok (.iload_n 3, 1) := by decide +kernel
theorem dX5_haunt_86 : decode cX5_haunt 86 = .ok (.iastore, 1) := by decide +kernel
theorem dX5_haunt_87 : decode cX5_haunt 87 = .ok (.dup, 1) := by decide +kernel
theorem dX5_haunt_88 : decode cX5_haunt 88 = .ok (.iconst 3, 1) := by decide +kernel
theorem dX5_haunt_89 : decode cX5_haunt 89 = .ok (.iload 4, 2) := by decide +kernel
theorem dX5_haunt_91 : decode cX5_haunt 91 = .ok (.iastore, 1) := by decide +kernel
theorem dX5_haunt_92 : decode cX5_haunt 92 = .ok (.astore 5, 2) := by decide +kernel
theorem dX5_haunt_94 : decode cX5_haunt 94 = .ok (.aload 5, 2) := by decide +kernel
theorem dX5_haunt_96 : decode cX5_haunt 96 = .ok (.iconst 0, 1) := by decide +kernel
theorem dX5_haunt_97 : decode cX5_haunt 97 = .ok (.aload_n 0, 1) := by decide +kernel
theorem dX5_haunt_98 : decode cX5_haunt 98 = .ok (.getfield 16, 3) := by decide +kernel
theorem dX5_haunt_101 : decode cX5_haunt 101 = .ok (.iconst 4, 1) := by decide +kernel
theorem dX5_haunt_102 : decode cX5_haunt 102 = .ok (.aload_n 0, 1) := by decide +kernel
theorem dX5_haunt_103 : decode cX5_haunt 103 = .ok (.getfield 39, 3) := by decide +kernel
theorem dX5_haunt_106 : decode cX5_haunt 106 = .ok (.imul, 1) := by decide +kernel
theorem dX5_haunt_107 : decode cX5_haunt 107 = .ok (.iconst 4, 1) := by decide +kernel
theorem dX5_haunt_108 : decode cX5_haunt 108 = .ok (.invokestatic 49, 3) := by decide +kernel
theorem dX5_haunt_111 : decode cX5_haunt 111 = .ok (.aload_n 0, 1) := by decide +kernel
theorem dX5_haunt_112 : decode cX5_haunt 112 = .ok (.dup, 1) := by decide +kernel
theorem dX5_haunt_113 : decode cX5_haunt 113 = .ok (.getfield 39, 3) := by decide +kernel
theorem dX5_haunt_116 : decode cX5_haunt 116 = .ok (.iconst 1, 1) := by decide +kernel
theorem dX5_haunt_117 : decode cX5_haunt 117 = .ok (.iadd, 1) := by decide +kernel
theorem dX5_haunt_118 : decode cX5_haunt 118 = .ok (.putfield 39, 3) := by decide +kernel
theorem dX5_haunt_121 : decode cX5_haunt 121 = .ok (.aload_n 0, 1) := by decide +kernel
theorem dX5_haunt_122 : decode cX5_haunt 122 = .ok (.getfield 39, 3) := by decide +kernel
theorem dX5_haunt_125 : decode cX5_haunt 125 = .ok (.iconst 1, 1) := by decide +kernel
theorem dX5_haunt_126 : decode cX5_haunt 126 = .ok (.isub, 1) := by decide +kernel
theorem dX5_haunt_127 : decode cX5_haunt 127 = .ok (.ireturn, 1) := by decide +kernel
set_option maxRecDepth 20000 in
theorem ggX5_next_J6_numberOfTrailingZeros_0f7a4 : GoodIn wsX5_next wsJ6_numberOfTrailingZeros_0f7a4 := goodIn_r _ [5, 6] (by decide +kernel) (by decide +kernel)
set_option maxRecDepth 20000 in
theorem gX5_next_J6_numberOfTrailingZeros_0f7a4 : GoodIn wsX5_next (va_wsS RX5 62 yJ6_numberOfTrailingZeros_0f7a4 wsJ6_numberOfTrailingZeros_0f7a4) := goodIn_app (goodIn_of _ (by decide +kernel)) ggX5_next_J6_numberOfTrailingZeros_0f7a4
theorem dX5_next_0 : decode cX5_next 0 = .ok (.aload_n 0, 1) := by decide +kernel
theorem dX5_next_1 : decode cX5_next 1 = .ok (.getfield 13, 3) := by decide +kernel
theorem dX5_next_4 : decode cX5_next 4 = .ok (.iload_n 1, 1) := by decide +kernel
theorem dX5_next_5 : decode cX5_next 5 = .ok (.iaload, 1) := by decide +kernel
theorem dX5_next_6 : decode cX5_next 6 = .ok (.ifCond .ne 5, 3) := by decide +kernel
theorem dX5_next_9 : decode cX5_next 9 = .ok (.iload_n 1, 1) := by decide +kernel
theorem dX5_next_10 : decode cX5_next 10 = .ok (.ireturn, 1) := by decide +kernel
theorem dX5_next_11 : decode cX5_next 11 = .ok (.aload_n 0, 1) := by decide +kernel
theorem dX5_next_12 : decode cX5_next 12 = .ok (.getfield 13, 3) := by decide +kernel
theorem dX5_next_15 : decode cX5_next 15 = .ok (.iload_n 1, 1) := by decide +kernel
theorem dX5_next_16 : decode cX5_next 16 = .ok (.iaload, 1) := by decide +kernel
theorem dX5_next_17 : decode cX5_next 17 = .ok (.iload_n 1, 1) := by decide +kernel
theorem dX5_next_18 : decode cX5_next 18 = .ok (.iconst 1, 1) := by decide +kernel
theorem dX5_next_19 : decode cX5_next 19 = .ok (.iadd, 1) := by decide +kernel
theorem dX5_next_20 : decode cX5_next 20 = .ok (.ishr, 1) := by decide +kernel
theorem dX5_next_21 : decode cX5_next 21 = .ok (.istore_n 2, 1) := by decide +kernel
theorem dX5_next_22 : decode cX5_next 22 = .ok (.iload_n 2, 1) := by decide +kernel
theorem dX5_next_23 : decode cX5_next 23 = .ok (.ifCond .ne 15, 3) := by decide +kernel
theorem dX5_next_26 : decode cX5_next 26 = .ok (.aload_n 0, 1) := by decide +kernel
theorem dX5_next_27 : decode cX5_next 27 = .ok (.getfield 13, 3) := by decide +kernel
theorem dX5_next_30 : decode cX5_next 30 = .ok (.iload_n 1, 1) := by decide +kernel
theorem dX5_next_31 : decode cX5_next 31 = .ok (.iaload, 1) := by decide +kernel
theorem dX5_next_32 : decode cX5_next 32 = .ok (.invokestatic 62, 3) := by decide +kernel
theorem dX5_next_35 : decode cX5_next 35 = .ok (.goto 11, 3) := by decide +kernel
theorem dX5_next_38 : decode cX5_next 38 = .ok (.iload_n 1, 1) := by decide +kernel
theorem dX5_next_39 : decode cX5_next 39 = .ok (.iconst 1, 1) := by decide +kernel
theorem dX5_next_40 : decode cX5_next 40 = .ok (.iadd, 1) := by decide +kernel
theorem dX5_next_41 : decode cX5_next 41 = .ok (.iload_n 2, 1) := by decide +kernel
theorem dX5_next_42 : decode cX5_next 42 = .ok (.invokestatic 62, 3) := by decide +kernel
theorem dX5_next_45 : decode cX5_next 45 = .ok (.iadd, 1) := by decide +kernel
theorem dX5_next_46 : decode cX5_next 46 = .ok (.ireturn, 1) := by decide +kernel
set_option maxRecDepth 20000 in
theorem ggX5_place_X5_sp : GoodIn wsX5_place wsX5_sp := goodIn_r _ [5, 6, 17, 18, 19, 20, 21, 22, 23, 24, 25, 26, 27] (by decide +kernel) (by decide +kernel)
set_option maxRecDepth 20000 in
theorem gX5_place_X5_sp : GoodIn wsX5_place (wsV RX5 67 RX5 yX5_sp wsX5_sp) := goodIn_app (goodIn_of _ (by decide +kernel)) ggX5_place_X5_sp
set_option maxRecDepth 20000 in
theorem ggX5_place_X5_next : GoodIn wsX5_place wsX5_next := goodIn_r _ [10, 11, 12, 13, 14, 15, 16, 17, 18, 19, 20, 21, 22, 23, 24, 25, 26, 27] (by decide +kernel) (by decide +kernel)
set_option maxRecDepth 20000 in
theorem gX5_place_X5_next : GoodIn wsX5_place (wsV RX5 71 RX5 yX5_next wsX5_next) := goodIn_app (goodIn_of _ (by decide +kernel)) ggX5_place_X5_next
theorem dX5_place_0 : decode cX5_place 0 = .ok (.iload_n 2, 1) := by decide +kernel
theorem dX5_place_1 : decode cX5_place 1 = .ok (.aload_n 0, 1) := by decide +kernel
theorem dX5_place_2 : decode cX5_place 2 = .ok (.iload_n 1, 1) := by decide +kernel
theorem dX5_place_3 : decode cX5_place 3 = .ok (.iconst 2, 1) := by decide +kernel
theorem dX5_place_4 : decode cX5_place 4 = .ok (.invokevirtual 67, 3) := by decide +kernel
theorem dX5_place_7 : decode cX5_place 7 = .ok (.if_icmp .lt 13, 3) := by decide +kernel
theorem dX5_place_10 : decode cX5_place 10 = .ok (.iload_n 2, 1) := by decide +kernel
theorem dX5_place_11 : decode cX5_place 11 = .ok (.aload_n 0, 1) := by decide +kernel
theorem dX5_place_12 : decode cX5_place 12 = .ok (.iload_n 1, 1) := by decide +kernel
theorem dX5_place_13 : decode cX5_place 13 = .ok (.iconst 3, 1) := by decide +kernel
theorem dX5_place_14 : decode cX5_place 14 = .ok (.invokevirtual 67, 3) := by decide +kernel
theorem dX5_place_17 : decode cX5_place 17 = .ok (.if_icmp .lt 5, 3) := by decide +kernel
theorem dX5_place_20 : decode cX5_place 20 = .ok (.iconst (-1), 1) := by decide +kernel
theorem dX5_place_21 : decode cX5_place 21 = .ok (.ireturn, 1) := by decide +kernel
theorem dX5_place_22 : decode cX5_place 22 = .ok (.aload_n 0, 1) := by decide +kernel
theorem dX5_place_23 : decode cX5_place 23 = .ok (.iload_n 1, 1) := by decide +kernel
theorem dX5_place_24 : decode cX5_place 24 = .ok (.iconst 0, 1) := by decide +kernel
theorem dX5_place_25 : decode cX5_place 25 = .ok (.invokevirtual 67, 3) := by decide +kernel
theorem dX5_place_28 : decode cX5_place 28 = .ok (.istore_n 3, 1) := by decide +kernel
theorem dX5_place_29 : decode cX5_place 29 = .ok (.aload_n 0, 1) := by decide +kernel
theorem dX5_place_30 : decode cX5_place 30 = .ok (.iload_n 1, 1) := by decide +kernel
theorem dX5_place_31 : decode cX5_place 31 = .ok (.iconst 2, 1) := by decide +kernel
theorem dX5_place_32 : decode cX5_place 32 = .ok (.invokevirtual 67, 3) := by decide +kernel
theorem dX5_place_35 : decode cX5_place 35 = .ok (.istore 4, 2) := by decide +kernel
theorem dX5_place_37 : decode cX5_place 37 = .ok (.iload 4, 2) := by decide +kernel
theorem dX5_place_39 : decode cX5_place 39 = .ok (.iload_n 2, 1) := by decide +kernel
theorem dX5_place_40 : decode cX5_place 40 = .ok (.if_icmp .ge 15, 3) := by decide +kernel
theorem dX5_place_43 : decode cX5_place 43 = .ok (.aload_n 0, 1) := by decide +kernel
theorem dX5_place_44 : decode cX5_place 44 = .ok (.iload_n 3, 1) := by decide +kernel
theorem dX5_place_45 : decode cX5_place 45 = .ok (.invokevirtual 71, 3) := by decide +kernel
theorem dX5_place_48 : decode cX5_place 48 = .ok (.istore_n 3, 1) := by decide +kernel
theorem dX5_place_49 : decode cX5_place 49 = .ok (.iinc 4 1, 3) := by decide +kernel
theorem dX5_place_52 : decode cX5_place 52 = .ok (.goto (-15), 3) := by decide +kernel
theorem dX5_place_55 : decode cX5_place 55 = .ok (.iload_n 3, 1) := by decide +kernel
theorem dX5_place_56 : decode cX5_place 56 = .ok (.ireturn, 1) := by decide +kernel
set_option maxRecDepth 20000 in
theorem ggX5_at_X5_isGhost : GoodIn wsX5_at wsX5_isGhost := goodIn_r _ [6, 7, 8, 9, 5, 10, 34, 35, 36, 37, 38, 39, 40, 41, 42, 43, 44] (by decide +kernel) (by decide +kernel)
set_option maxRecDepth 20000 in
theorem gX5_at_X5_isGhost : GoodIn wsX5_at (wsV RX5 74 RX5 yX5_isGhost wsX5_isGhost) := goodIn_app (goodIn_of _ (by decide +kernel)) ggX5_at_X5_isGhost
set_option maxRecDepth 20000 in
theorem ggX5_at_X5_isIn : GoodIn wsX5_at wsX5_isIn := goodIn_r _ [10] (by decide +kernel) (by decide +kernel)
set_option maxRecDepth 20000 in
theorem gX5_at_X5_isIn : GoodIn wsX5_at (va_wsS RX5 35 yX5_isIn wsX5_isIn) := goodIn_app (goodIn_of _ (by decide +kernel)) ggX5_at_X5_isIn
set_option maxRecDepth 20000 in
theorem ggX5_at_X5_place : GoodIn wsX5_at wsX5_place := goodIn_r _ [14, 15, 16, 17, 5, 18, 19, 20, 21, 22, 23, 24, 25, 26, 27, 28, 29, 34, 35, 36, 37, 38, 39, 40, 41, 42, 43, 44] (by decide +kernel) (by decide +kernel)
set_option maxRecDepth 20000 in
theorem gX5_at_X5_place : GoodIn wsX5_at (wsV RX5 77 RX5 yX5_place wsX5_place) := goodIn_app (goodIn_of _ (by decide +kernel)) ggX5_at_X5_place
set_option maxRecDepth 20000 in
theorem ggX5_at_X5_fail : GoodIn wsX5_at wsX5_fail := goodIn_r _ [33, 1, 34, 35, 36, 37, 38, 39, 40, 41, 42, 43, 44] (by decide +kernel) (by decide +kernel)
set_option maxRecDepth 20000 in
theorem gX5_at_X5_fail : GoodIn wsX5_at (wsV RX5 45 RX5 yX5_fail wsX5_fail) := goodIn_app (goodIn_of _ (by decide +kernel)) ggX5_at_X5_fail
theorem dX5_at_0 : decode cX5_at 0 = .ok (.aload_n 0, 1) := by decide +kernel
theorem dX5_at_1 : decode cX5_at 1 = .ok (.iconst 0, 1) := by decide +kernel
theorem dX5_at_2 : decode cX5_at 2 = .ok (.putfield 28, 3) := by decide +kernel
theorem dX5_at_5 : decode cX5_at 5 = .ok (.aload_n 0, 1) := by decide +kernel
theorem dX5_at_6 : decode cX5_at 6 = .ok (.iload_n 1, 1) := by decide +kernel
theorem dX5_at_7 : decode cX5_at 7 = .ok (.invokevirtual 74, 3) := by decide +kernel
theorem dX5_at_10 : decode cX5_at 10 = .ok (.ifCond .eq 22, 3) := by decide +kernel
theorem dX5_at_13 : decode cX5_at 13 = .ok (.iload_n 2, 1) := by decide +kernel
theorem dX5_at_14 : decode cX5_at 14 = .ok (.iconst 0, 1) := by decide +kernel
theorem dX5_at_15 : decode cX5_at 15 = .ok (.bipush 11, 2) := by decide +kernel
theorem dX5_at_17 : decode cX5_at 17 = .ok (.invokestatic 35, 3) := by decide +kernel
theorem dX5_at_20 : decode cX5_at 20 = .ok (.ifCond .eq 12, 3) := by decide +kernel
theorem dX5_at_23 : decode cX5_at 23 = .ok (.aload_n 0, 1) := by decide +kernel
theorem dX5_at_24 : decode cX5_at 24 = .ok (.iload_n 1, 1) := by decide +kernel
theorem dX5_at_25 : decode cX5_at 25 = .ok (.iload_n 2, 1) := by decide +kernel
theorem dX5_at_26 : decode cX5_at 26 = .ok (.invokevirtual 77, 3) := by decide +kernel
theorem dX5_at_29 : decode cX5_at 29 = .ok (.goto 8, 3) := by decide +kernel
theorem dX5_at_32 : decode cX5_at 32 = .ok (.aload_n 0, 1) := by decide +kernel
theorem dX5_at_33 : decode cX5_at 33 = .ok (.iconst 1, 1) := by decide +kernel
theorem dX5_at_34 : decode cX5_at 34 = .ok (.invokevirtual 45, 3) := by decide +kernel
theorem dX5_at_37 : decode cX5_at 37 = .ok (.ireturn, 1) := by decide +kernel
set_option maxRecDepth 20000 in
theorem ggX5_haunted_X5_place : GoodIn wsX5_haunted wsX5_place := goodIn_r _ [6, 7, 8, 9, 5, 10, 11, 12, 13, 14, 15, 16, 17, 18, 19, 20, 21, 22, 23, 24, 25, 26, 27, 28, 29, 30, 31, 32] (by decide +kernel) (by decide +kernel)
set_option maxRecDepth 20000 in
theorem gX5_haunted_X5_place : GoodIn wsX5_haunted (wsV RX5 77 RX5 yX5_place wsX5_place) := goodIn_app (goodIn_of _ (by decide +kernel)) ggX5_haunted_X5_place
set_option maxRecDepth 20000 in
theorem ggX5_haunted_X5_sp : GoodIn wsX5_haunted wsX5_sp := goodIn_r _ [10, 11, 22, 23, 24, 25, 26, 27, 28, 29, 30, 31, 32] (by decide +kernel) (by decide +kernel)
set_option maxRecDepth 20000 in
theorem gX5_haunted_X5_sp : GoodIn wsX5_haunted (wsV RX5 67 RX5 yX5_sp wsX5_sp) := goodIn_app (goodIn_of _ (by decide +kernel)) ggX5_haunted_X5_sp
theorem dX5_haunted_0 : decode cX5_haunted 0 = .ok (.iconst 0, 1) := by decide +kernel
theorem dX5_haunted_1 : decode cX5_haunted 1 = .ok (.istore_n 3, 1) := by decide +kernel
theorem dX5_haunted_2 : decode cX5_haunted 2 = .ok (.iconst 0, 1) := by decide +kernel
theorem dX5_haunted_3 : decode cX5_haunted 3 = .ok (.istore 4, 2) := by decide +kernel
theorem dX5_haunted_5 : decode cX5_haunted 5 = .ok (.iload 4, 2) := by decide +kernel
theorem dX5_haunted_7 : decode cX5_haunted 7 = .ok (.aload_n 0, 1) := by decide +kernel
theorem dX5_haunted_8 : decode cX5_haunted 8 = .ok (.getfield 39, 3) := by decide +kernel
theorem dX5_haunted_11 : decode cX5_haunted 11 = .ok (.if_icmp .ge 57, 3) := by decide +kernel
theorem dX5_haunted_14 : decode cX5_haunted 14 = .ok (.iconst 0, 1) := by decide +kernel
theorem dX5_haunted_15 : decode cX5_haunted 15 = .ok (.istore 5, 2) := by decide +kernel
theorem dX5_haunted_17 : decode cX5_haunted 17 = .ok (.iload 5, 2) := by decide +kernel
theorem dX5_haunted_19 : decode cX5_haunted 19 = .ok (.bipush 12, 2) := by decide +kernel
theorem dX5_haunted_21 : decode cX5_haunted 21 = .ok (.if_icmp .ge 41, 3) := by decide +kernel
theorem dX5_haunted_24 : decode cX5_haunted 24 = .ok (.iload 4, 2) := by decide +kernel
theorem dX5_haunted_26 : decode cX5_haunted 26 = .ok (.iload_n 2, 1) := by decide +kernel
theorem dX5_haunted_27 : decode cX5_haunted 27 = .ok (.if_icmp .eq 35, 3) := by decide +kernel
theorem dX5_haunted_30 : decode cX5_haunted 30 = .ok (.iload_n 3, 1) := by decide +kernel
theorem dX5_haunted_31 : decode cX5_haunted 31 = .ok (.aload_n 0, 1) := by decide +kernel
theorem dX5_haunted_32 : decode cX5_haunted 32 = .ok (.iload 4, 2) := by decide +kernel
theorem dX5_haunted_34 : decode cX5_haunted 34 = .ok (.iload 5, 2) := by decide +kernel
theorem dX5_haunted_36 : decode cX5_haunted 36 = .ok (.invokevirtual 77, 3) := by decide +kernel
theorem dX5_haunted_39 : decode cX5_haunted 39 = .ok (.iload_n 1, 1) := by decide +kernel
theorem dX5_haunted_40 : decode cX5_haunted 40 = .ok (.if_icmp .ne 13, 3) := by decide +kernel
theorem dX5_haunted_43 : decode cX5_haunted 43 = .ok (.aload_n 0, 1) := by decide +kernel
theorem dX5_haunted_44 : decode cX5_haunted 44 = .ok (.iload 4, 2) := by decide +kernel
theorem dX5_haunted_46 : decode cX5_haunted 46 = .ok (.iconst 1, 1) := by decide +kernel
theorem dX5_haunted_47 : decode cX5_haunted 47 = .ok (.invokevirtual 67, 3) := by decide +kernel
theorem dX5_haunted_50 : decode cX5_haunted 50 = .ok (.goto 4, 3) := by decide +kernel
theorem dX5_haunted_53 : decode cX5_haunted 53 = .ok (.iconst 0, 1) := by decide +kernel
theorem dX5_haunted_54 : decode cX5_haunted 54 = .ok (.iadd, 1) := by decide +kernel
theorem dX5_haunted_55 : decode cX5_haunted 55 = .ok (.istore_n 3, 1) := by decide +kernel
theorem dX5_haunted_56 : decode cX5_haunted 56 = .ok (.iinc 5 1, 3) := by decide +kernel
theorem dX5_haunted_59 : decode cX5_haunted 59 = .ok (.goto (-42), 3) := by decide +kernel
theorem dX5_haunted_62 : decode cX5_haunted 62 = .ok (.iinc 4 1, 3) := by decide +kernel
theorem dX5_haunted_65 : decode cX5_haunted 65 = .ok (.goto (-60), 3) := by decide +kernel
theorem dX5_haunted_68 : decode cX5_haunted 68 = .ok (.iload_n 3, 1) := by decide +kernel
theorem dX5_haunted_69 : decode cX5_haunted 69 = .ok (.ireturn, 1) := by decide +kernel
set_option maxRecDepth 20000 in
theorem ggX5_haunting_X5_isRoom : GoodIn wsX5_haunting wsX5_isRoom := goodIn_r _ [7, 8, 9, 10, 6, 11, 39, 40, 41, 42, 43, 44, 45, 46, 47, 48, 49] (by decide +kernel) (by decide +kernel)
set_option maxRecDepth 20000 in
theorem gX5_haunting_X5_isRoom : GoodIn wsX5_haunting (wsV RX5 55 RX5 yX5_isRoom wsX5_isRoom) := goodIn_app (goodIn_of _ (by decide +kernel)) ggX5_haunting_X5_isRoom
set_option maxRecDepth 20000 in
theorem ggX5_haunting_X5_isIn : GoodIn wsX5_haunting wsX5_isIn := goodIn_r _ [11] (by decide +kernel) (by decide +kernel)
set_option maxRecDepth 20000 in
theorem gX5_haunting_X5_isIn : GoodIn wsX5_haunting (va_wsS RX5 35 yX5_isIn wsX5_isIn) := goodIn_app (goodIn_of _ (by decide +kernel)) ggX5_haunting_X5_isIn
set_option maxRecDepth 20000 in
theorem ggX5_haunting_X5_fail : GoodIn wsX5_haunting wsX5_fail := goodIn_r _ [15, 1, 39, 40, 41, 42, 43, 44, 45, 46, 47, 48, 49] (by decide +kernel) (by decide +kernel)
set_option maxRecDepth 20000 in
theorem gX5_haunting_X5_fail : GoodIn wsX5_haunting (wsV RX5 45 RX5 yX5_fail wsX5_fail) := goodIn_app (goodIn_of _ (by decide +kernel)) ggX5_haunting_X5_fail
set_option maxRecDepth 20000 in
theorem ggX5_haunting_X5_haunted : GoodIn wsX5_haunting wsX5_haunted := goodIn_r _ [19, 2, 20, 21, 22, 6, 23, 24, 25, 26, 27, 28, 29, 30, 31, 32, 33, 34, 35, 36, 37, 38, 39, 40, 41, 42, 43, 44, 45, 46, 47, 48, 49] (by decide +kernel) (by decide +kernel)
set_option maxRecDepth 20000 in
theorem gX5_haunting_X5_haunted : GoodIn wsX5_haunting (wsV RX5 80 RX5 yX5_haunted wsX5_haunted) := goodIn_app (goodIn_of _ (by decide +kernel)) ggX5_haunting_X5_haunted
set_option maxRecDepth 20000 in
theorem ggX5_haunting_X5_place : GoodIn wsX5_haunting wsX5_place := goodIn_r _ [23, 24, 25, 26, 6, 27, 28, 29, 30, 31, 32, 33, 34, 35, 36, 37, 38, 39, 40, 41, 42, 43, 44, 45, 46, 47, 48, 49] (by decide +kernel) (by decide +kernel)
set_option maxRecDepth 20000 in
theorem gX5_haunting_X5_place : GoodIn wsX5_haunting (wsV RX5 77 RX5 yX5_place wsX5_place) := goodIn_app (goodIn_of _ (by decide +kernel)) ggX5_haunting_X5_place
set_option maxRecDepth 20000 in
theorem ggX5_haunting_X5_sp : GoodIn wsX5_haunting wsX5_sp := goodIn_r _ [27, 28, 39, 40, 41, 42, 43, 44, 45, 46, 47, 48, 49] (by decide +kernel) (by decide +kernel)
set_option maxRecDepth 20000 in
theorem gX5_haunting_X5_sp : GoodIn wsX5_haunting (wsV RX5 67 RX5 yX5_sp wsX5_sp) := goodIn_app (goodIn_of _ (by decide +kernel)) ggX5_haunting_X5_sp
theorem dX5_haunting_0 : decode cX5_haunting 0 = .ok (.aload_n 0, 1) := by decide +kernel
theorem dX5_haunting_1 : decode cX5_haunting 1 = .ok (.iconst 0, 1) := by decide +kernel
theorem dX5_haunting_2 : decode cX5_haunting 2 = .ok (.putfield 28, 3) := by decide +kernel
theorem dX5_haunting_5 : decode cX5_haunting 5 = .ok (.aload_n 0, 1) := by decide +kernel
theorem dX5_haunting_6 : decode cX5_haunting 6 = .ok (.iload_n 1, 1) := by decide +kernel
theorem dX5_haunting_7 : decode cX5_haunting 7 = .ok (.invokevirtual 55, 3) := by decide +kernel
theorem dX5_haunting_10 : decode cX5_haunting 10 = .ok (.ifCond .eq 13, 3) := by decide +kernel
theorem dX5_haunting_13 : decode cX5_haunting 13 = .ok (.iload_n 2, 1) := by decide +kernel
theorem dX5_haunting_14 : decode cX5_haunting 14 = .ok (.iconst (-1), 1) := by decide +kernel
theorem dX5_haunting_15 : decode cX5_haunting 15 = .ok (.bipush 11, 2) := by decide +kernel
theorem dX5_haunting_17 : decode cX5_haunting 17 = .ok (.invokestatic 35, 3) := by decide +kernel
theorem dX5_haunting_20 : decode cX5_haunting 20 = .ok (.ifCond .ne 9, 3) := by decide +kernel
theorem dX5_haunting_23 : decode cX5_haunting 23 = .ok (.aload_n 0, 1) := by decide +kernel
theorem dX5_haunting_24 : decode cX5_haunting 24 = .ok (.iconst 1, 1) := by decide +kernel
theorem dX5_haunting_25 : decode cX5_haunting 25 = .ok (.invokevirtual 45, 3) := by decide +kernel
theorem dX5_haunting_28 : decode cX5_haunting 28 = .ok (.ireturn, 1) := by decide +kernel
theorem dX5_haunting_29 : decode cX5_haunting 29 = .ok (.iload_n 2, 1) := by decide +kernel
theorem dX5_haunting_30 : decode cX5_haunting 30 = .ok (.ifCond .ge 10, 3) := by decide +kernel
theorem dX5_haunting_33 : decode cX5_haunting 33 = .ok (.aload_n 0, 1) := by decide +kernel
theorem dX5_haunting_34 : decode cX5_haunting 34 = .ok (.iload_n 1, 1) := by decide +kernel
theorem dX5_haunting_35 : decode cX5_haunting 35 = .ok (.iconst (-1), 1) := by decide +kernel
theorem dX5_haunting_36 : decode cX5_haunting 36 = .ok (.invokevirtual 80, 3) := by decide +kernel
theorem dX5_haunting_39 : decode cX5_haunting 39 = .ok (.ireturn, 1) := by decide +kernel
theorem dX5_haunting_40 : decode cX5_haunting 40 = .ok (.iconst 0, 1) := by decide +kernel
theorem dX5_haunting_41 : decode cX5_haunting 41 = .ok (.istore_n 3, 1) := by decide +kernel
theorem dX5_haunting_42 : decode cX5_haunting 42 = .ok (.iconst 0, 1) := by decide +kernel
theorem dX5_haunting_43 : decode cX5_haunting 43 = .ok (.istore 4, 2) := by decide +kernel
theorem dX5_haunting_45 : decode cX5_haunting 45 = .ok (.iload 4, 2) := by decide +kernel
theorem dX5_haunting_47 : decode cX5_haunting 47 = .ok (.aload_n 0, 1) := by decide +kernel
theorem dX5_haunting_48 : decode cX5_haunting 48 = .ok (.getfield 39, 3) := by decide +kernel
theorem dX5_haunting_51 : decode cX5_haunting 51 = .ok (.if_icmp .ge 34, 3) := by decide +kernel
theorem dX5_haunting_54 : decode cX5_haunting 54 = .ok (.iload_n 3, 1) := by decide +kernel
theorem dX5_haunting_55 : decode cX5_haunting 55 = .ok (.aload_n 0, 1) := by decide +kernel
theorem dX5_haunting_56 : decode cX5_haunting 56 = .ok (.iload 4, 2) := by decide +kernel
theorem dX5_haunting_58 : decode cX5_haunting 58 = .ok (.iload_n 2, 1) := by decide +kernel
theorem dX5_haunting_59 : decode cX5_haunting 59 = .ok (.invokevirtual 77, 3) := by decide +kernel
theorem dX5_haunting_62 : decode cX5_haunting 62 = .ok (.iload_n 1, 1) := by decide +kernel
theorem dX5_haunting_63 : decode cX5_haunting 63 = .ok (.if_icmp .ne 13, 3) := by decide +kernel
theorem dX5_haunting_66 : decode cX5_haunting 66 = .ok (.aload_n 0, 1) := by decide +kernel
theorem dX5_haunting_67 : decode cX5_haunting 67 = .ok (.iload 4, 2) := by decide +kernel
theorem dX5_haunting_69 : decode cX5_haunting 69 = .ok (.iconst 1, 1) := by decide +kernel
theorem dX5_haunting_70 : decode cX5_haunting 70 = .ok (.invokevirtual 67, 3) := by decide +kernel
theorem dX5_haunting_73 : decode cX5_haunting 73 = .ok (.goto 4, 3) := by decide +kernel
theorem dX5_haunting_76 : decode cX5_haunting 76 = .ok (.iconst 0, 1) := by decide +kernel
theorem dX5_haunting_77 : decode cX5_haunting 77 = .ok (.iadd, 1) := by decide +kernel
theorem dX5_haunting_78 : decode cX5_haunting 78 = .ok (.istore_n 3, 1) := by decide +kernel
theorem dX5_haunting_79 : decode cX5_haunting 79 = .ok (.iinc 4 1, 3) := by decide +kernel
theorem dX5_haunting_82 : decode cX5_haunting 82 = .ok (.goto (-37), 3) := by decide +kernel
theorem dX5_haunting_85 : decode cX5_haunting 85 = .ok (.iload_n 3, 1) := by decide +kernel
theorem dX5_haunting_86 : decode cX5_haunting 86 = .ok (.ireturn, 1) := by decide +kernel
set_option maxRecDepth 20000 in
theorem ggX5_roomTold_X5_ro : GoodIn wsX5_roomTold wsX5_ro := goodIn_r _ [6, 7, 15, 16, 17, 18, 19, 20, 21, 22, 23, 24, 25] (by decide +kernel) (by decide +kernel)
set_option maxRecDepth 20000 in
theorem gX5_roomTold_X5_ro : GoodIn wsX5_roomTold (wsV RX5 83 RX5 yX5_ro wsX5_ro) := goodIn_app (goodIn_of _ (by decide +kernel)) ggX5_roomTold_X5_ro
set_option maxRecDepth 20000 in
theorem ggX5_roomTold_J6_bitCount_0f7a4 : GoodIn wsX5_roomTold wsJ6_bitCount_0f7a4 := goodIn_r _ [11, 12, 13, 14] (by decide +kernel) (by decide +kernel)
set_option maxRecDepth 20000 in
theorem gX5_roomTold_J6_bitCount_0f7a4 : GoodIn wsX5_roomTold (va_wsS RX5 86 yJ6_bitCount_0f7a4 wsJ6_bitCount_0f7a4) := goodIn_app (goodIn_of _ (by decide +kernel)) ggX5_roomTold_J6_bitCount_0f7a4
theorem dX5_roomTold_0 : decode cX5_roomTold 0 = .ok (.iload_n 2, 1) := by decide +kernel
theorem dX5_roomTold_1 : decode cX5_roomTold 1 = .ok (.iconst 3, 1) := by decide +kernel
theorem dX5_roomTold_2 : decode cX5_roomTold 2 = .ok (.if_icmp .ge 12, 3) := by decide +kernel
theorem dX5_roomTold_5 : decode cX5_roomTold 5 = .ok (.aload_n 0, 1) := by decide +kernel
theorem dX5_roomTold_6 : decode cX5_roomTold 6 = .ok (.iload_n 1, 1) := by decide +kernel
theorem dX5_roomTold_7 : decode cX5_roomTold 7 = .ok (.iload_n 2, 1) := by decide +kernel
theorem dX5_roomTold_8 : decode cX5_roomTold 8 = .ok (.invokevirtual 83, 3) := by decide +kernel
theorem dX5_roomTold_11 : decode cX5_roomTold 11 = .ok (.goto 28, 3) := by decide +kernel
theorem dX5_roomTold_14 : decode cX5_roomTold 14 = .ok (.iload_n 2, 1) := by decide +kernel
theorem dX5_roomTold_15 : decode cX5_roomTold 15 = .ok (.iconst 3, 1) := by decide +kernel
theorem dX5_roomTold_16 : decode cX5_roomTold 16 = .ok (.if_icmp .ne 15, 3) := by decide +kernel
theorem dX5_roomTold_19 : decode cX5_roomTold 19 = .ok (.aload_n 0, 1) := by decide +kernel
theorem dX5_roomTold_20 : decode cX5_roomTold 20 = .ok (.getfield 13, 3) := by decide +kernel
theorem dX5_roomTold_23 : decode cX5_roomTold 23 = .ok (.iload_n 1, 1) := by decide +kernel
theorem dX5_roomTold_24 : decode cX5_roomTold 24 = .ok (.iaload, 1) := by decide +kernel
theorem dX5_roomTold_25 : decode cX5_roomTold 25 = .ok (.invokestatic 86, 3) := by decide +kernel
theorem dX5_roomTold_28 : decode cX5_roomTold 28 = .ok (.goto 11, 3) := by decide +kernel
theorem dX5_roomTold_31 : decode cX5_roomTold 31 = .ok (.aload_n 0, 1) := by decide +kernel
theorem dX5_roomTold_32 : decode cX5_roomTold 32 = .ok (.iload_n 1, 1) := by decide +kernel
theorem dX5_roomTold_33 : decode cX5_roomTold 33 = .ok (.iload_n 2, 1) := by decide +kernel
theorem dX5_roomTold_34 : decode cX5_roomTold 34 = .ok (.iconst 1, 1) := by decide +kernel
theorem dX5_roomTold_35 : decode cX5_roomTold 35 = .ok (.isub, 1) := by decide +kernel
theorem dX5_roomTold_36 : decode cX5_roomTold 36 = .ok (.invokevirtual 83, 3) := by decide +kernel
theorem dX5_roomTold_39 : decode cX5_roomTold 39 = .ok (.ireturn, 1) := by decide +kernel
set_option maxRecDepth 20000 in
theorem ggX5_room_X5_isRoom : GoodIn wsX5_room wsX5_isRoom := goodIn_r _ [6, 7, 8, 9, 5, 10, 32, 33, 34, 35, 36, 37, 38, 39, 40, 41, 42] (by decide +kernel) (by decide +kernel)
set_option maxRecDepth 20000 in
theorem gX5_room_X5_isRoom : GoodIn wsX5_room (wsV RX5 55 RX5 yX5_isRoom wsX5_isRoom) := goodIn_app (goodIn_of _ (by decide +kernel)) ggX5_room_X5_isRoom
set_option maxRecDepth 20000 in
theorem ggX5_room_X5_isIn : GoodIn wsX5_room wsX5_isIn := goodIn_r _ [10] (by decide +kernel) (by decide +kernel)
set_option maxRecDepth 20000 in
theorem gX5_room_X5_isIn : GoodIn wsX5_room (va_wsS RX5 35 yX5_isIn wsX5_isIn) := goodIn_app (goodIn_of _ (by decide +kernel)) ggX5_room_X5_isIn
set_option maxRecDepth 20000 in
theorem ggX5_room_X5_roomTold : GoodIn wsX5_room wsX5_roomTold := goodIn_r _ [14, 15, 16, 17, 18, 5, 19, 20, 21, 22, 23, 24, 25, 26, 27, 32, 33, 34, 35, 36, 37, 38, 39, 40, 41, 42] (by decide +kernel) (by decide +kernel)
set_option maxRecDepth 20000 in
theorem gX5_room_X5_roomTold : GoodIn wsX5_room (wsV RX5 89 RX5 yX5_roomTold wsX5_roomTold) := goodIn_app (goodIn_of _ (by decide +kernel)) ggX5_room_X5_roomTold
set_option maxRecDepth 20000 in
theorem ggX5_room_X5_fail : GoodIn wsX5_room wsX5_fail := goodIn_r _ [31, 1, 32, 33, 34, 35, 36, 37, 38, 39, 40, 41, 42] (by decide +kernel) (by decide +kernel)
set_option maxRecDepth 20000 in
theorem gX5_room_X5_fail : GoodIn wsX5_room (wsV RX5 45 RX5 yX5_fail wsX5_fail) := goodIn_app (goodIn_of _ (by decide +kernel)) ggX5_room_X5_fail
theorem dX5_room_0 : decode cX5_room 0 = .ok (.aload_n 0, 1) := by decide +kernel
theorem dX5_room_1 : decode cX5_room 1 = .ok (.iconst 0, 1) := by decide +kernel
theorem dX5_room_2 : decode cX5_room 2 = .ok (.putfield 28, 3) := by decide +kernel
theorem dX5_room_5 : decode cX5_room 5 = .ok (.aload_n 0, 1) := by decide +kernel
theorem dX5_room_6 : decode cX5_room 6 = .ok (.iload_n 1, 1) := by decide +kernel
theorem dX5_room_7 : decode cX5_room 7 = .ok (.invokevirtual 55, 3) := by decide +kernel
theorem dX5_room_10 : decode cX5_room 10 = .ok (.ifCond .eq 21, 3) := by decide +kernel
theorem dX5_room_13 : decode cX5_room 13 = .ok (.iload_n 2, 1) := by decide +kernel
theorem dX5_room_14 : decode cX5_room 14 = .ok (.iconst 0, 1) := by decide +kernel
theorem dX5_room_15 : decode cX5_room 15 = .ok (.iconst 5, 1) := by decide +kernel
theorem dX5_room_16 : decode cX5_room 16 = .ok (.invokestatic 35, 3) := by decide +kernel
theorem dX5_room_19 : decode cX5_room 19 = .ok (.ifCond .eq 12, 3) := by decide +kernel
theorem dX5_room_22 : decode cX5_room 22 = .ok (.aload_n 0, 1) := by decide +kernel
theorem dX5_room_23 : decode cX5_room 23 = .ok (.iload_n 1, 1) := by decide +kernel
theorem dX5_room_24 : decode cX5_room 24 = .ok (.iload_n 2, 1) := by decide +kernel
theorem dX5_room_25 : decode cX5_room 25 = .ok (.invokevirtual 89, 3) := by decide +kernel
theorem dX5_room_28 : decode cX5_room 28 = .ok (.goto 8, 3) := by decide +kernel
theorem dX5_room_31 : decode cX5_room 31 = .ok (.aload_n 0, 1) := by decide +kernel
theorem dX5_room_32 : decode cX5_room 32 = .ok (.iconst 1, 1) := by decide +kernel
theorem dX5_room_33 : decode cX5_room 33 = .ok (.invokevirtual 45, 3) := by decide +kernel
theorem dX5_room_36 : decode cX5_room 36 = .ok (.ireturn, 1) := by decide +kernel
set_option maxRecDepth 20000 in
theorem ggX5_come_X5_isIn : GoodIn wsX5_come wsX5_isIn := goodIn_r _ [12] (by decide +kernel) (by decide +kernel)
set_option maxRecDepth 20000 in
theorem gX5_come_X5_isIn : GoodIn wsX5_come (va_wsS RX5 35 yX5_isIn wsX5_isIn) := goodIn_app (goodIn_of _ (by decide +kernel)) ggX5_come_X5_isIn
set_option maxRecDepth 20000 in
theorem ggX5_come_X5_fail : GoodIn wsX5_come wsX5_fail := goodIn_r _ [16, 1, 17, 18, 19, 20, 21, 22, 23, 24, 25, 26, 27] (by decide +kernel) (by decide +kernel)
set_option maxRecDepth 20000 in
theorem gX5_come_X5_fail : GoodIn wsX5_come (wsV RX5 45 RX5 yX5_fail wsX5_fail) := goodIn_app (goodIn_of _ (by decide +kernel)) ggX5_come_X5_fail
theorem dX5_come_0 : decode cX5_come 0 = .ok (.aload_n 0, 1) := by decide +kernel
theorem dX5_come_1 : decode cX5_come 1 = .ok (.iconst 0, 1) := by decide +kernel
theorem dX5_come_2 : decode cX5_come 2 = .ok (.putfield 28, 3) := by decide +kernel
theorem dX5_come_5 : decode cX5_come 5 = .ok (.iload_n 1, 1) := by decide +kernel
theorem dX5_come_6 : decode cX5_come 6 = .ok (.iconst 0, 1) := by decide +kernel
theorem dX5_come_7 : decode cX5_come 7 = .ok (.sipush 1000, 3) := by decide +kernel
theorem dX5_come_10 : decode cX5_come 10 = .ok (.invokestatic 35, 3) := by decide +kernel
theorem dX5_come_13 : decode cX5_come 13 = .ok (.ifCond .eq 24, 3) := by decide +kernel
theorem dX5_come_16 : decode cX5_come 16 = .ok (.iload_n 2, 1) := by decide +kernel
theorem dX5_come_17 : decode cX5_come 17 = .ok (.iconst 1, 1) := by decide +kernel
theorem dX5_come_18 : decode cX5_come 18 = .ok (.bipush 6, 2) := by decide +kernel
theorem dX5_come_20 : decode cX5_come 20 = .ok (.invokestatic 35, 3) := by decide +kernel
theorem dX5_come_23 : decode cX5_come 23 = .ok (.ifCond .eq 14, 3) := by decide +kernel
theorem dX5_come_26 : decode cX5_come 26 = .ok (.iload_n 3, 1) := by decide +kernel
theorem dX5_come_27 : decode cX5_come 27 = .ok (.bipush (-9), 2) := by decide +kernel
theorem dX5_come_29 : decode cX5_come 29 = .ok (.bipush 90, 2) := by decide +kernel
theorem dX5_come_31 : decode cX5_come 31 = .ok (.invokestatic 35, 3) := by decide +kernel
theorem dX5_come_34 : decode cX5_come 34 = .ok (.ifCond .ne 9, 3) := by decide +kernel
theorem dX5_come_37 : decode cX5_come 37 = .ok (.aload_n 0, 1) := by decide +kernel
theorem dX5_come_38 : decode cX5_come 38 = .ok (.iconst 1, 1) := by decide +kernel
theorem dX5_come_39 : decode cX5_come 39 = .ok (.invokevirtual 45, 3) := by decide +kernel
theorem dX5_come_42 : decode cX5_come 42 = .ok (.ireturn, 1) := by decide +kernel
theorem dX5_come_43 : decode cX5_come 43 = .ok (.aload_n 0, 1) := by decide +kernel
theorem dX5_come_44 : decode cX5_come 44 = .ok (.getfield 42, 3) := by decide +kernel
theorem dX5_come_47 : decode cX5_come 47 = .ok (.bipush 12, 2) := by decide +kernel
theorem dX5_come_49 : decode cX5_come 49 = .ok (.if_icmp .ne 9, 3) := by decide +kernel
theorem dX5_come_52 : decode cX5_come 52 = .ok (.aload_n 0, 1) := by decide +kernel
theorem dX5_come_53 : decode cX5_come 53 = .ok (.iconst 2, 1) := by decide +kernel
theorem dX5_come_54 : decode cX5_come 54 = .ok (.invokevirtual 45, 3) := by decide +kernel
theorem dX5_come_57 : decode cX5_come 57 = .ok (.ireturn, 1) := by decide +kernel
theorem dX5_come_58 : decode cX5_come 58 = .ok (.bipush 7, 2) := by decide +kernel
theorem dX5_come_60 : decode cX5_come 60 = .ok (.newarray .int, 2) := by decide +kernel
theorem dX5_come_62 : decode cX5_come 62 = .ok (.dup, 1) := by decide +kernel
theorem dX5_come_63 : decode cX5_come 63 = .ok (.iconst 0, 1) := by decide +kernel
theorem dX5_come_64 : decode cX5_come 64 = .ok (.iload_n 1, 1) := by decide +kernel
theorem dX5_come_65 : decode cX5_come 65 = .ok (.iastore, 1) := by decide +kernel
theorem dX5_come_66 : decode cX5_come 66 = .ok (.dup, 1) := by decide +kernel
theorem dX5_come_67 : decode cX5_come 67 = .ok (.iconst 1, 1) := by decide +kernel
theorem dX5_come_68 : decode cX5_come 68 = .ok (.iload_n 2, 1) := by decide +kernel
theorem dX5_come_69 : decode cX5_come 69 = .ok (.iastore, 1) := by decide +kernel
theorem dX5_come_70 : decode cX5_come 70 = .ok (.dup, 1) := by decide +kernel
theorem dX5_come_71 : decode cX5_come 71 = .ok (.iconst 2, 1) := by decide +kernel
theorem dX5_come_72 : decode cX5_come 72 = .ok (.iload_n 3, 1) := by decide +kernel
theorem dX5_come_73 : decode cX5_come 73 = .ok (.iastore, 1) := by decide +kernel
theorem dX5_come_74 : decode cX5_come 74 = .ok (.dup, 1) := by decide +kernel
theorem dX5_come_75 : decode cX5_come 75 = .ok (.iconst 3, 1) := by decide +kernel
theorem dX5_come_76 : decode cX5_come 76 = .ok (.iconst (-1), 1) := by decide +kernel
theorem dX5_come_77 : decode cX5_come 77 = .ok (.iastore, 1) := by decide +kernel
theorem dX5_come_78 : decode cX5_come 78 = .ok (.dup, 1) := by decide +kernel
theorem dX5_come_79 : decode cX5_come 79 = .ok (.iconst 4, 1) := by decide +kernel
theorem dX5_come_80 : decode cX5_come 80 = .ok (.iconst 0, 1) := by decide +kernel
theorem dX5_come_81 : decode cX5_come 81 = .ok (.iastore, 1) := by decide +kernel
theorem dX5_come_82 : decode cX5_come 82 = .ok (.dup, 1) := by decide +kernel
theorem dX5_come_83 : decode cX5_come 83 = .ok (.iconst 5, 1) := by decide +kernel
theorem dX5_come_84 : decode cX5_come 84 = .ok (.iconst 0, 1) := by decide +kernel
theorem dX5_come_85 : decode cX5_come 85 = .ok (.iastore, 1) := by decide +kernel
theorem dX5_come_86 : decode cX5_come 86 = .ok (.dup, 1) := by decide +kernel
theorem dX5_come_87 : decode cX5_come 87 = .ok (.bipush 6, 2) := by decide +kernel
theorem dX5_come_89 : decode cX5_come 89 = .ok (.iconst 0, 1) := by decide +kernel
theorem dX5_come_90 : decode cX5_come 90 = .ok (.iastore, 1) := by decide +kernel
theorem dX5_come_91 : decode cX5_come 91 = .ok (.astore 4, 2) := by decide +kernel
theorem dX5_come_93 : decode cX5_come 93 = .ok (.aload 4, 2) := by decide +kernel
theorem dX5_come_95 : decode cX5_come 95 = .ok (.iconst 0, 1) := by decide +kernel
theorem dX5_come_96 : decode cX5_come 96 = .ok (.aload_n 0, 1) := by decide +kernel
theorem dX5_come_97 : decode cX5_come 97 = .ok (.getfield 19, 3) := by decide +kernel
theorem dX5_come_100 : decode cX5_come 100 = .ok (.bipush 7, 2) := by decide +kernel
theorem dX5_come_102 : decode cX5_come 102 = .ok (.aload_n 0, 1) := by decide +kernel
theorem dX5_come_103 : decode cX5_come 103 = .ok (.getfield 42, 3) := by decide +kernel
theorem dX5_come_106 : decode cX5_come 106 = .ok (.imul, 1) := by decide +kernel
theorem dX5_come_107 : decode cX5_come 107 = .ok (.bipush 7, 2) := by decide +kernel
theorem dX5_come_109 : decode cX5_come 109 = .ok (.invokestatic 49, 3) := by decide +kernel
theorem dX5_come_112 : decode cX5_come 112 = .ok (.aload_n 0, 1) := by decide +kernel
theorem dX5_come_113 : decode cX5_come 113 = .ok (.dup, 1) := by decide +kernel
theorem dX5_come_114 : decode cX5_come 114 = .ok (.getfield 42, 3) := by decide +kernel
theorem dX5_come_117 : decode cX5_come 117 = .ok (.iconst 1, 1) := by decide +kernel
theorem dX5_come_118 : decode cX5_come 118 = .ok (.iadd, 1) := by decide +kernel
theorem dX5_come_119 : decode cX5_come 119 = .ok (.putfield 42, 3) := by decide +kernel
theorem dX5_come_122 : decode cX5_come 122 = .ok (.aload_n 0, 1) := by decide +kernel
theorem dX5_come_123 : decode cX5_come 123 = .ok (.getfield 42, 3) := by decide +kernel
theorem dX5_come_126 : decode cX5_come 126 = .ok (.iconst 1, 1) := by decide +kernel
theorem dX5_come_127 : decode cX5_come 127 = .ok (.isub, 1) := by decide +kernel
theorem dX5_come_128 : decode cX5_come 128 = .ok (.ireturn, 1) := by decide +kernel
set_option maxRecDepth 20000 in
theorem ggX5_suits_X5_pe : GoodIn wsX5_suits wsX5_pe := goodIn_r _ [5, 6, 12, 13, 14, 15, 16, 17, 18, 19, 20, 21, 22] (by decide +kernel) (by decide +kernel)
set_option maxRecDepth 20000 in
theorem gX5_suits_X5_pe : GoodIn wsX5_suits (wsV RX5 92 RX5 yX5_pe wsX5_pe) := goodIn_app (goodIn_of _ (by decide +kernel)) ggX5_suits_X5_pe
set_option maxRecDepth 20000 in
theorem ggX5_suits_X5_ro : GoodIn wsX5_suits wsX5_ro := goodIn_r _ [10, 11, 12, 13, 14, 15, 16, 17, 18, 19, 20, 21, 22] (by decide +kernel) (by decide +kernel)
set_option maxRecDepth 20000 in
theorem gX5_suits_X5_ro : GoodIn wsX5_suits (wsV RX5 83 RX5 yX5_ro wsX5_ro) := goodIn_app (goodIn_of _ (by decide +kernel)) ggX5_suits_X5_ro
theorem dX5_suits_0 : decode cX5_suits 0 = .ok (.aload_n 0, 1) := by decide +kernel
theorem dX5_suits_1 : decode cX5_suits 1 = .ok (.iload_n 1, 1) := by decide +kernel
theorem dX5_suits_2 : decode cX5_suits 2 = .ok (.iconst 0, 1) := by decide +kernel
theorem dX5_suits_3 : decode cX5_suits 3 = .ok (.invokevirtual 92, 3) := by decide +kernel
theorem dX5_suits_6 : decode cX5_suits 6 = .ok (.aload_n 0, 1) := by decide +kernel
theorem dX5_suits_7 : decode cX5_suits 7 = .ok (.iload_n 1, 1) := by decide +kernel
theorem dX5_suits_8 : decode cX5_suits 8 = .ok (.iconst 4, 1) := by decide +kernel
theorem dX5_suits_9 : decode cX5_suits 9 = .ok (.invokevirtual 92, 3) := by decide +kernel
theorem dX5_suits_12 : decode cX5_suits 12 = .ok (.if_icmp .lt 37, 3) := by decide +kernel
theorem dX5_suits_15 : decode cX5_suits 15 = .ok (.aload_n 0, 1) := by decide +kernel
theorem dX5_suits_16 : decode cX5_suits 16 = .ok (.iload_n 2, 1) := by decide +kernel
theorem dX5_suits_17 : decode cX5_suits 17 = .ok (.iconst 0, 1) := by decide +kernel
theorem dX5_suits_18 : decode cX5_suits 18 = .ok (.invokevirtual 83, 3) := by decide +kernel
theorem dX5_suits_21 : decode cX5_suits 21 = .ok (.aload_n 0, 1) := by decide +kernel
theorem dX5_suits_22 : decode cX5_suits 22 = .ok (.iload_n 1, 1) := by decide +kernel
theorem dX5_suits_23 : decode cX5_suits 23 = .ok (.iconst 1, 1) := by decide +kernel
theorem dX5_suits_24 : decode cX5_suits 24 = .ok (.invokevirtual 92, 3) := by decide +kernel
theorem dX5_suits_27 : decode cX5_suits 27 = .ok (.if_icmp .lt 22, 3) := by decide +kernel
theorem dX5_suits_30 : decode cX5_suits 30 = .ok (.aload_n 0, 1) := by decide +kernel
theorem dX5_suits_31 : decode cX5_suits 31 = .ok (.iload_n 1, 1) := by decide +kernel
theorem dX5_suits_32 : decode cX5_suits 32 = .ok (.iconst 4, 1) := by decide +kernel
theorem dX5_suits_33 : decode cX5_suits 33 = .ok (.invokevirtual 92, 3) := by decide +kernel
theorem dX5_suits_36 : decode cX5_suits 36 = .ok (.aload_n 0, 1) := by decide +kernel
theorem dX5_suits_37 : decode cX5_suits 37 = .ok (.iload_n 2, 1) := by decide +kernel
theorem dX5_suits_38 : decode cX5_suits 38 = .ok (.iconst 2, 1) := by decide +kernel
theorem dX5_suits_39 : decode cX5_suits 39 = .ok (.invokevirtual 83, 3) := by decide +kernel
theorem dX5_suits_42 : decode cX5_suits 42 = .ok (.if_icmp .lt 7, 3) := by decide +kernel
theorem dX5_suits_45 : decode cX5_suits 45 = .ok (.iconst 1, 1) := by decide +kernel
theorem dX5_suits_46 : decode cX5_suits 46 = .ok (.goto 4, 3) := by decide +kernel
theorem dX5_suits_49 : decode cX5_suits 49 = .ok (.iconst 0, 1) := by decide +kernel
theorem dX5_suits_50 : decode cX5_suits 50 = .ok (.ireturn, 1) := by decide +kernel
set_option maxRecDepth 20000 in
theorem ggX5_bid_X5_isGuest : GoodIn wsX5_bid wsX5_isGuest := goodIn_r _ [6, 7, 8, 9, 5, 10, 34, 35, 36, 37, 38, 39, 40, 41, 42, 43, 44] (by decide +kernel) (by decide +kernel)
set_option maxRecDepth 20000 in
theorem gX5_bid_X5_isGuest : GoodIn wsX5_bid (wsV RX5 95 RX5 yX5_isGuest wsX5_isGuest) := goodIn_app (goodIn_of _ (by decide +kernel)) ggX5_bid_X5_isGuest
set_option maxRecDepth 20000 in
theorem ggX5_bid_X5_isRoom : GoodIn wsX5_bid wsX5_isRoom := goodIn_r _ [14, 15, 8, 9, 5, 10, 34, 35, 36, 37, 38, 39, 40, 41, 42, 43, 44] (by decide +kernel) (by decide +kernel)
set_option maxRecDepth 20000 in
theorem gX5_bid_X5_isRoom : GoodIn wsX5_bid (wsV RX5 55 RX5 yX5_isRoom wsX5_isRoom) := goodIn_app (goodIn_of _ (by decide +kernel)) ggX5_bid_X5_isRoom
set_option maxRecDepth 20000 in
theorem ggX5_bid_X5_isIn : GoodIn wsX5_bid wsX5_isIn := goodIn_r _ [10] (by decide +kernel) (by decide +kernel)
set_option maxRecDepth 20000 in
theorem gX5_bid_X5_isIn : GoodIn wsX5_bid (va_wsS RX5 35 yX5_isIn wsX5_isIn) := goodIn_app (goodIn_of _ (by decide +kernel)) ggX5_bid_X5_isIn
set_option maxRecDepth 20000 in
theorem ggX5_bid_X5_set : GoodIn wsX5_bid wsX5_set := goodIn_r _ [19, 20, 34, 35, 36, 37, 38, 39, 40, 41, 42, 43, 44] (by decide +kernel) (by decide +kernel)
set_option maxRecDepth 20000 in
theorem gX5_bid_X5_set : GoodIn wsX5_bid (wsV RX5 98 RX5 yX5_set wsX5_set) := goodIn_app (goodIn_of _ (by decide +kernel)) ggX5_bid_X5_set
set_option maxRecDepth 20000 in
theorem ggX5_bid_X5_suits : GoodIn wsX5_bid wsX5_suits := goodIn_r _ [24, 25, 26, 27, 5, 28, 20, 29, 30, 31, 32, 33, 34, 35, 36, 37, 38, 39, 40, 41, 42, 43, 44] (by decide +kernel) (by decide +kernel)
set_option maxRecDepth 20000 in
theorem gX5_bid_X5_suits : GoodIn wsX5_bid (wsV RX5 102 RX5 yX5_suits wsX5_suits) := goodIn_app (goodIn_of _ (by decide +kernel)) ggX5_bid_X5_suits
theorem dX5_bid_0 : decode cX5_bid 0 = .ok (.aload_n 0, 1) := by decide +kernel
theorem dX5_bid_1 : decode cX5_bid 1 = .ok (.aload_n 0, 1) := by decide +kernel
theorem dX5_bid_2 : decode cX5_bid 2 = .ok (.iload_n 1, 1) := by decide +kernel
theorem dX5_bid_3 : decode cX5_bid 3 = .ok (.invokevirtual 95, 3) := by decide +kernel
theorem dX5_bid_6 : decode cX5_bid 6 = .ok (.ifCond .eq 11, 3) := by decide +kernel
theorem dX5_bid_9 : decode cX5_bid 9 = .ok (.aload_n 0, 1) := by decide +kernel
theorem dX5_bid_10 : decode cX5_bid 10 = .ok (.iload_n 2, 1) := by decide +kernel
theorem dX5_bid_11 : decode cX5_bid 11 = .ok (.invokevirtual 55, 3) := by decide +kernel
theorem dX5_bid_14 : decode cX5_bid 14 = .ok (.ifCond .ne 7, 3) := by decide +kernel
theorem dX5_bid_17 : decode cX5_bid 17 = .ok (.iconst 1, 1) := by decide +kernel
theorem dX5_bid_18 : decode cX5_bid 18 = .ok (.goto 19, 3) := by decide +kernel
theorem dX5_bid_21 : decode cX5_bid 21 = .ok (.iload_n 3, 1) := by decide +kernel
theorem dX5_bid_22 : decode cX5_bid 22 = .ok (.iconst 1, 1) := by decide +kernel
theorem dX5_bid_23 : decode cX5_bid 23 = .ok (.sipush 200, 3) := by decide +kernel
theorem dX5_bid_26 : decode cX5_bid 26 = .ok (.invokestatic 35, 3) := by decide +kernel
theorem dX5_bid_29 : decode cX5_bid 29 = .ok (.ifCond .ne 7, 3) := by decide +kernel
theorem dX5_bid_32 : decode cX5_bid 32 = .ok (.iconst 2, 1) := by decide +kernel
theorem dX5_bid_33 : decode cX5_bid 33 = .ok (.goto 4, 3) := by decide +kernel
theorem dX5_bid_36 : decode cX5_bid 36 = .ok (.iconst 0, 1) := by decide +kernel
theorem dX5_bid_37 : decode cX5_bid 37 = .ok (.putfield 28, 3) := by decide +kernel
theorem dX5_bid_40 : decode cX5_bid 40 = .ok (.aload_n 0, 1) := by decide +kernel
theorem dX5_bid_41 : decode cX5_bid 41 = .ok (.getfield 28, 3) := by decide +kernel
theorem dX5_bid_44 : decode cX5_bid 44 = .ok (.ifCond .eq 5, 3) := by decide +kernel
theorem dX5_bid_47 : decode cX5_bid 47 = .ok (.iconst 0, 1) := by decide +kernel
theorem dX5_bid_48 : decode cX5_bid 48 = .ok (.ireturn, 1) := by decide +kernel
theorem dX5_bid_49 : decode cX5_bid 49 = .ok (.aload_n 0, 1) := by decide +kernel
theorem dX5_bid_50 : decode cX5_bid 50 = .ok (.iload_n 1, 1) := by decide +kernel
theorem dX5_bid_51 : decode cX5_bid 51 = .ok (.iconst 3, 1) := by decide +kernel
theorem dX5_bid_52 : decode cX5_bid 52 = .ok (.iload_n 2, 1) := by decide +kernel
theorem dX5_bid_53 : decode cX5_bid 53 = .ok (.invokevirtual 98, 3) := by decide +kernel
theorem dX5_bid_56 : decode cX5_bid 56 = .ok (.aload_n 0, 1) := by decide +kernel
theorem dX5_bid_57 : decode cX5_bid 57 = .ok (.iload_n 1, 1) := by decide +kernel
theorem dX5_bid_58 : decode cX5_bid 58 = .ok (.iconst 4, 1) := by decide +kernel
theorem dX5_bid_59 : decode cX5_bid 59 = .ok (.iload_n 3, 1) := by decide +kernel
theorem dX5_bid_60 : decode cX5_bid 60 = .ok (.invokevirtual 98, 3) := by decide +kernel
theorem dX5_bid_63 : decode cX5_bid 63 = .ok (.aload_n 0, 1) := by decide +kernel
theorem dX5_bid_64 : decode cX5_bid 64 = .ok (.iload_n 1, 1) := by decide +kernel
theorem dX5_bid_65 : decode cX5_bid 65 = .ok (.iload_n 2, 1) := by decide +kernel
theorem dX5_bid_66 : decode cX5_bid 66 = .ok (.invokevirtual 102, 3) := by decide +kernel
theorem dX5_bid_69 : decode cX5_bid 69 = .ok (.ireturn, 1) := by decide +kernel
set_option maxRecDepth 20000 in
theorem ggX5_withdraw_X5_set : GoodIn wsX5_withdraw wsX5_set := goodIn_r _ [5, 6, 7, 8, 9, 10, 11, 12, 13, 14, 15, 16, 17] (by decide +kernel) (by decide +kernel)
set_option maxRecDepth 20000 in
theorem gX5_withdraw_X5_set : GoodIn wsX5_withdraw (wsV RX5 98 RX5 yX5_set wsX5_set) := goodIn_app (goodIn_of _ (by decide +kernel)) ggX5_withdraw_X5_set
theorem dX5_withdraw_0 : decode cX5_withdraw 0 = .ok (.aload_n 0, 1) := by decide +kernel
theorem dX5_withdraw_1 : decode cX5_withdraw 1 = .ok (.iload_n 1, 1) := by decide +kernel
theorem dX5_withdraw_2 : decode cX5_withdraw 2 = .ok (.iconst 3, 1) := by decide +kernel
theorem dX5_withdraw_3 : decode cX5_withdraw 3 = .ok (.iconst (-1), 1) := by decide +kernel
theorem dX5_withdraw_4 : decode cX5_withdraw 4 = .ok (.invokevirtual 98, 3) := by decide +kernel
theorem dX5_withdraw_7 : decode cX5_withdraw 7 = .ok (.aload_n 0, 1) := by decide +kernel
theorem dX5_withdraw_8 : decode cX5_withdraw 8 = .ok (.iload_n 1, 1) := by decide +kernel
theorem dX5_withdraw_9 : decode cX5_withdraw 9 = .ok (.iconst 4, 1) := by decide +kernel
theorem dX5_withdraw_10 : decode cX5_withdraw 10 = .ok (.iconst 0, 1) := by decide +kernel
theorem dX5_withdraw_11 : decode cX5_withdraw 11 = .ok (.invokevirtual 98, 3) := by decide +kernel
theorem dX5_withdraw_14 : decode cX5_withdraw 14 = .ok (.return_, 1) := by decide +kernel
set_option maxRecDepth 20000 in
theorem ggX5_leave_X5_isGuest : GoodIn wsX5_leave wsX5_isGuest := goodIn_r _ [6, 7, 8, 9, 5, 10, 28, 29, 30, 31, 32, 33, 34, 35, 36, 37, 38] (by decide +kernel) (by decide +kernel)
set_option maxRecDepth 20000 in
theorem gX5_leave_X5_isGuest : GoodIn wsX5_leave (wsV RX5 95 RX5 yX5_isGuest wsX5_isGuest) := goodIn_app (goodIn_of _ (by decide +kernel)) ggX5_leave_X5_isGuest
set_option maxRecDepth 20000 in
theorem ggX5_leave_X5_fail : GoodIn wsX5_leave wsX5_fail := goodIn_r _ [14, 1, 28, 29, 30, 31, 32, 33, 34, 35, 36, 37, 38] (by decide +kernel) (by decide +kernel)
set_option maxRecDepth 20000 in
theorem gX5_leave_X5_fail : GoodIn wsX5_leave (wsV RX5 45 RX5 yX5_fail wsX5_fail) := goodIn_app (goodIn_of _ (by decide +kernel)) ggX5_leave_X5_fail
set_option maxRecDepth 20000 in
theorem ggX5_leave_X5_pe : GoodIn wsX5_leave wsX5_pe := goodIn_r _ [18, 19, 28, 29, 30, 31, 32, 33, 34, 35, 36, 37, 38] (by decide +kernel) (by decide +kernel)
set_option maxRecDepth 20000 in
theorem gX5_leave_X5_pe : GoodIn wsX5_leave (wsV RX5 92 RX5 yX5_pe wsX5_pe) := goodIn_app (goodIn_of _ (by decide +kernel)) ggX5_leave_X5_pe
set_option maxRecDepth 20000 in
theorem ggX5_leave_X5_withdraw : GoodIn wsX5_leave wsX5_withdraw := goodIn_r _ [23, 24, 25, 26, 5, 27, 19, 28, 29, 30, 31, 32, 33, 34, 35, 36, 37, 38] (by decide +kernel) (by decide +kernel)
set_option maxRecDepth 20000 in
theorem gX5_leave_X5_withdraw : GoodIn wsX5_leave (wsV RX5 106 RX5 yX5_withdraw wsX5_withdraw) := goodIn_app (goodIn_of _ (by decide +kernel)) ggX5_leave_X5_withdraw
theorem dX5_leave_0 : decode cX5_leave 0 = .ok (.aload_n 0, 1) := by decide +kernel
theorem dX5_leave_1 : decode cX5_leave 1 = .ok (.iconst 0, 1) := by decide +kernel
theorem dX5_leave_2 : decode cX5_leave 2 = .ok (.putfield 28, 3) := by decide +kernel
theorem dX5_leave_5 : decode cX5_leave 5 = .ok (.aload_n 0, 1) := by decide +kernel
theorem dX5_leave_6 : decode cX5_leave 6 = .ok (.iload_n 1, 1) := by decide +kernel
theorem dX5_leave_7 : decode cX5_leave 7 = .ok (.invokevirtual 95, 3) := by decide +kernel
theorem dX5_leave_10 : decode cX5_leave 10 = .ok (.ifCond .ne 9, 3) := by decide +kernel
theorem dX5_leave_13 : decode cX5_leave 13 = .ok (.aload_n 0, 1) := by decide +kernel
theorem dX5_leave_14 : decode cX5_leave 14 = .ok (.iconst 1, 1) := by decide +kernel
theorem dX5_leave_15 : decode cX5_leave 15 = .ok (.invokevirtual 45, 3) := by decide +kernel
theorem dX5_leave_18 : decode cX5_leave 18 = .ok (.ireturn, 1) := by decide +kernel
theorem dX5_leave_19 : decode cX5_leave 19 = .ok (.aload_n 0, 1) := by decide +kernel
theorem dX5_leave_20 : decode cX5_leave 20 = .ok (.iload_n 1, 1) := by decide +kernel
theorem dX5_leave_21 : decode cX5_leave 21 = .ok (.iconst 3, 1) := by decide +kernel
theorem dX5_leave_22 : decode cX5_leave 22 = .ok (.invokevirtual 92, 3) := by decide +kernel
theorem dX5_leave_25 : decode cX5_leave 25 = .ok (.istore_n 2, 1) := by decide +kernel
theorem dX5_leave_26 : decode cX5_leave 26 = .ok (.aload_n 0, 1) := by decide +kernel
theorem dX5_leave_27 : decode cX5_leave 27 = .ok (.iload_n 1, 1) := by decide +kernel
theorem dX5_leave_28 : decode cX5_leave 28 = .ok (.invokevirtual 106, 3) := by decide +kernel
theorem dX5_leave_31 : decode cX5_leave 31 = .ok (.iload_n 2, 1) := by decide +kernel
theorem dX5_leave_32 : decode cX5_leave 32 = .ok (.ireturn, 1) := by decide +kernel
set_option maxRecDepth 20000 in
theorem ggX5_guest_X5_isGuest : GoodIn wsX5_guest wsX5_isGuest := goodIn_r _ [6, 7, 8, 9, 5, 10, 20, 21, 22, 23, 24, 25, 26, 27, 28, 29, 30] (by decide +kernel) (by decide +kernel)
set_option maxRecDepth 20000 in
theorem gX5_guest_X5_isGuest : GoodIn wsX5_guest (wsV RX5 95 RX5 yX5_isGuest wsX5_isGuest) := goodIn_app (goodIn_of _ (by decide +kernel)) ggX5_guest_X5_isGuest
set_option maxRecDepth 20000 in
theorem ggX5_guest_X5_isIn : GoodIn wsX5_guest wsX5_isIn := goodIn_r _ [10] (by decide +kernel) (by decide +kernel)
set_option maxRecDepth 20000 in
theorem gX5_guest_X5_isIn : GoodIn wsX5_guest (va_wsS RX5 35 yX5_isIn wsX5_isIn) := goodIn_app (goodIn_of _ (by decide +kernel)) ggX5_guest_X5_isIn
set_option maxRecDepth 20000 in
theorem ggX5_guest_X5_pe : GoodIn wsX5_guest wsX5_pe := goodIn_r _ [14, 15, 20, 21, 22, 23, 24, 25, 26, 27, 28, 29, 30] (by decide +kernel) (by decide +kernel)
set_option maxRecDepth 20000 in
theorem gX5_guest_X5_pe : GoodIn wsX5_guest (wsV RX5 92 RX5 yX5_pe wsX5_pe) := goodIn_app (goodIn_of _ (by decide +kernel)) ggX5_guest_X5_pe
set_option maxRecDepth 20000 in
theorem ggX5_guest_X5_fail : GoodIn wsX5_guest wsX5_fail := goodIn_r _ [19, 1, 20, 21, 22, 23, 24, 25, 26, 27, 28, 29, 30] (by decide +kernel) (by decide +kernel)
set_option maxRecDepth 20000 in
theorem gX5_guest_X5_fail : GoodIn wsX5_guest (wsV RX5 45 RX5 yX5_fail wsX5_fail) := goodIn_app (goodIn_of _ (by decide +kernel)) ggX5_guest_X5_fail
theorem dX5_guest_0 : decode cX5_guest 0 = .ok (.aload_n 0, 1) := by decide +kernel
theorem dX5_guest_1 : decode cX5_guest 1 = .ok (.iconst 0, 1) := by decide +kernel
theorem dX5_guest_2 : decode cX5_guest 2 = .ok (.putfield 28, 3) := by decide +kernel
theorem dX5_guest_5 : decode cX5_guest 5 = .ok (.aload_n 0, 1) := by decide +kernel
theorem dX5_guest_6 : decode cX5_guest 6 = .ok (.iload_n 1, 1) := by decide +kernel
theorem dX5_guest_7 : decode cX5_guest 7 = .ok (.invokevirtual 95, 3) := by decide +kernel
theorem dX5_guest_10 : decode cX5_guest 10 = .ok (.ifCond .eq 22, 3) := by decide +kernel
theorem dX5_guest_13 : decode cX5_guest 13 = .ok (.iload_n 2, 1) := by decide +kernel
theorem dX5_guest_14 : decode cX5_guest 14 = .ok (.iconst 0, 1) := by decide +kernel
theorem dX5_guest_15 : decode cX5_guest 15 = .ok (.bipush 6, 2) := by decide +kernel
theorem dX5_guest_17 : decode cX5_guest 17 = .ok (.invokestatic 35, 3) := by decide +kernel
theorem dX5_guest_20 : decode cX5_guest 20 = .ok (.ifCond .eq 12, 3) := by decide +kernel
theorem dX5_guest_23 : decode cX5_guest 23 = .ok (.aload_n 0, 1) := by decide +kernel
theorem dX5_guest_24 : decode cX5_guest 24 = .ok (.iload_n 1, 1) := by decide +kernel
theorem dX5_guest_25 : decode cX5_guest 25 = .ok (.iload_n 2, 1) := by decide +kernel
theorem dX5_guest_26 : decode cX5_guest 26 = .ok (.invokevirtual 92, 3) := by decide +kernel
theorem dX5_guest_29 : decode cX5_guest 29 = .ok (.goto 8, 3) := by decide +kernel
theorem dX5_guest_32 : decode cX5_guest 32 = .ok (.aload_n 0, 1) := by decide +kernel
theorem dX5_guest_33 : decode cX5_guest 33 = .ok (.iconst 1, 1) := by decide +kernel
theorem dX5_guest_34 : decode cX5_guest 34 = .ok (.invokevirtual 45, 3) := by decide +kernel
theorem dX5_guest_37 : decode cX5_guest 37 = .ok (.ireturn, 1) := by decide +kernel
set_option maxRecDepth 20000 in
theorem ggX5_counts_X5_pe : GoodIn wsX5_counts wsX5_pe := goodIn_r _ [5, 6, 16, 17, 18, 19, 20, 21, 22, 23, 24, 25, 26] (by decide +kernel) (by decide +kernel)
set_option maxRecDepth 20000 in
theorem gX5_counts_X5_pe : GoodIn wsX5_counts (wsV RX5 92 RX5 yX5_pe wsX5_pe) := goodIn_app (goodIn_of _ (by decide +kernel)) ggX5_counts_X5_pe
set_option maxRecDepth 20000 in
theorem ggX5_counts_X5_suits : GoodIn wsX5_counts wsX5_suits := goodIn_r _ [10, 1, 2, 3, 4, 5, 6, 11, 12, 13, 14, 15, 16, 17, 18, 19, 20, 21, 22, 23, 24, 25, 26] (by decide +kernel) (by decide +kernel)
set_option maxRecDepth 20000 in
theorem gX5_counts_X5_suits : GoodIn wsX5_counts (wsV RX5 102 RX5 yX5_suits wsX5_suits) := goodIn_app (goodIn_of _ (by decide +kernel)) ggX5_counts_X5_suits
theorem dX5_counts_0 : decode cX5_counts 0 = .ok (.aload_n 0, 1) := by decide +kernel
theorem dX5_counts_1 : decode cX5_counts 1 = .ok (.iload_n 1, 1) := by decide +kernel
theorem dX5_counts_2 : decode cX5_counts 2 = .ok (.iconst 3, 1) := by decide +kernel
theorem dX5_counts_3 : decode cX5_counts 3 = .ok (.invokevirtual 92, 3) := by decide +kernel
theorem dX5_counts_6 : decode cX5_counts 6 = .ok (.iload_n 2, 1) := by decide +kernel
theorem dX5_counts_7 : decode cX5_counts 7 = .ok (.if_icmp .ne 16, 3) := by decide +kernel
theorem dX5_counts_10 : decode cX5_counts 10 = .ok (.aload_n 0, 1) := by decide +kernel
theorem dX5_counts_11 : decode cX5_counts 11 = .ok (.iload_n 1, 1) := by decide +kernel
theorem dX5_counts_12 : decode cX5_counts 12 = .ok (.iload_n 2, 1) := by decide +kernel
theorem dX5_counts_13 : decode cX5_counts 13 = .ok (.invokevirtual 102, 3) := by decide +kernel
theorem dX5_counts_16 : decode cX5_counts 16 = .ok (.ifCond .eq 7, 3) := by decide +kernel
theorem dX5_counts_19 : decode cX5_counts 19 = .ok (.iconst 1, 1) := by decide +kernel
theorem dX5_counts_20 : decode cX5_counts 20 = .ok (.goto 4, 3) := by decide +kernel
theorem dX5_counts_23 : decode cX5_counts 23 = .ok (.iconst 0, 1) := by decide +kernel
theorem dX5_counts_24 : decode cX5_counts 24 = .ok (.ireturn, 1) := by decide +kernel
set_option maxRecDepth 20000 in
theorem ggX5_winner_X5_counts : GoodIn wsX5_winner wsX5_counts := goodIn_r _ [6, 7, 8, 9, 5, 10, 11, 12, 13, 14, 15, 16, 17, 18, 19, 20, 21, 22, 23, 24, 25, 26, 27, 28, 29, 30, 31] (by decide +kernel) (by decide +kernel)
set_option maxRecDepth 20000 in
theorem gX5_winner_X5_counts : GoodIn wsX5_winner (wsV RX5 110 RX5 yX5_counts wsX5_counts) := goodIn_app (goodIn_of _ (by decide +kernel)) ggX5_winner_X5_counts
set_option maxRecDepth 20000 in
theorem ggX5_winner_X5_pe : GoodIn wsX5_winner wsX5_pe := goodIn_r _ [10, 11, 21, 22, 23, 24, 25, 26, 27, 28, 29, 30, 31] (by decide +kernel) (by decide +kernel)
set_option maxRecDepth 20000 in
theorem gX5_winner_X5_pe : GoodIn wsX5_winner (wsV RX5 92 RX5 yX5_pe wsX5_pe) := goodIn_app (goodIn_of _ (by decide +kernel)) ggX5_winner_X5_pe
theorem dX5_winner_0 : decode cX5_winner 0 = .ok (.iconst (-1), 1) := by decide +kernel
theorem dX5_winner_1 : decode cX5_winner 1 = .ok (.istore_n 2, 1) := by decide +kernel
theorem dX5_winner_2 : decode cX5_winner 2 = .ok (.iconst 0, 1) := by decide +kernel
theorem dX5_winner_3 : decode cX5_winner 3 = .ok (.istore_n 3, 1) := by decide +kernel
theorem dX5_winner_4 : decode cX5_winner 4 = .ok (.iload_n 3, 1) := by decide +kernel
theorem dX5_winner_5 : decode cX5_winner 5 = .ok (.aload_n 0, 1) := by decide +kernel
theorem dX5_winner_6 : decode cX5_winner 6 = .ok (.getfield 42, 3) := by decide +kernel
theorem dX5_winner_9 : decode cX5_winner 9 = .ok (.if_icmp .ge 40, 3) := by decide +kernel
theorem dX5_winner_12 : decode cX5_winner 12 = .ok (.aload_n 0, 1) := by decide +kernel
theorem dX5_winner_13 : decode cX5_winner 13 = .ok (.iload_n 3, 1) := by decide +kernel
theorem dX5_winner_14 : decode cX5_winner 14 = .ok (.iload_n 1, 1) := by decide +kernel
theorem dX5_winner_15 : decode cX5_winner 15 = .ok (.invokevirtual 110, 3) := by decide +kernel
theorem dX5_winner_18 : decode cX5_winner 18 = .ok (.ifCond .eq 25, 3) := by decide +kernel
theorem dX5_winner_21 : decode cX5_winner 21 = .ok (.iload_n 2, 1) := by decide +kernel
theorem dX5_winner_22 : decode cX5_winner 22 = .ok (.iconst (-1), 1) := by decide +kernel
theorem dX5_winner_23 : decode cX5_winner 23 = .ok (.if_icmp .eq 18, 3) := by decide +kernel
theorem dX5_winner_26 : decode cX5_winner 26 = .ok (.aload_n 0, 1) := by decide +kernel
theorem dX5_winner_27 : decode cX5_winner 27 = .ok (.iload_n 3, 1) := by decide +kernel
theorem dX5_winner_28 : decode cX5_winner 28 = .ok (.iconst 4, 1) := by decide +kernel
theorem dX5_winner_29 : decode cX5_winner 29 = .ok (.invokevirtual 92, 3) := by decide +kernel
theorem dX5_winner_32 : decode cX5_winner 32 = .ok (.aload_n 0, 1) := by decide +kernel
theorem dX5_winner_33 : decode cX5_winner 33 = .ok (.iload_n 2, 1) := by decide +kernel
theorem dX5_winner_34 : decode cX5_winner 34 = .ok (.iconst 4, 1) := by decide +kernel
theorem dX5_winner_35 : decode cX5_winner 35 = .ok (.invokevirtual 92, 3) := by decide +kernel
theorem dX5_winner_38 : decode cX5_winner 38 = .ok (.if_icmp .le 5, 3) := by decide +kernel
theorem dX5_winner_41 : decode cX5_winner 41 = .ok (.iload_n 3, 1) := by decide +kernel
theorem dX5_winner_42 : decode cX5_winner 42 = .ok (.istore_n 2, 1) := by decide +kernel
theorem dX5_winner_43 : decode cX5_winner 43 = .ok (.iinc 3 1, 3) := by decide +kernel
theorem dX5_winner_46 : decode cX5_winner 46 = .ok (.goto (-42), 3) := by decide +kernel
theorem dX5_winner_49 : decode cX5_winner 49 = .ok (.iload_n 2, 1) := by decide +kernel
theorem dX5_winner_50 : decode cX5_winner 50 = .ok (.ireturn, 1) := by decide +kernel
set_option maxRecDepth 20000 in
theorem ggX5_pays_X5_winner : GoodIn wsX5_pays wsX5_winner := goodIn_r _ [10, 1, 11, 12, 13, 9, 14, 15, 16, 17, 18, 19, 20, 21, 22, 23, 24, 25, 26, 27, 28, 29, 30, 31, 32, 33, 34, 35, 36, 37, 38, 39] (by decide +kernel) (by decide +kernel)
set_option maxRecDepth 20000 in
theorem gX5_pays_X5_winner : GoodIn wsX5_pays (wsV RX5 113 RX5 yX5_winner wsX5_winner) := goodIn_app (goodIn_of _ (by decide +kernel)) ggX5_pays_X5_winner
set_option maxRecDepth 20000 in
theorem ggX5_pays_X5_ro : GoodIn wsX5_pays wsX5_ro := goodIn_r _ [27, 28, 29, 30, 31, 32, 33, 34, 35, 36, 37, 38, 39] (by decide +kernel) (by decide +kernel)
set_option maxRecDepth 20000 in
theorem gX5_pays_X5_ro : GoodIn wsX5_pays (wsV RX5 83 RX5 yX5_ro wsX5_ro) := goodIn_app (goodIn_of _ (by decide +kernel)) ggX5_pays_X5_ro
set_option maxRecDepth 20000 in
theorem ggX5_pays_X5_counts : GoodIn wsX5_pays wsX5_counts := goodIn_r _ [14, 15, 16, 17, 9, 18, 19, 20, 21, 22, 23, 24, 25, 26, 27, 28, 29, 30, 31, 32, 33, 34, 35, 36, 37, 38, 39] (by decide +kernel) (by decide +kernel)
set_option maxRecDepth 20000 in
theorem gX5_pays_X5_counts : GoodIn wsX5_pays (wsV RX5 110 RX5 yX5_counts wsX5_counts) := goodIn_app (goodIn_of _ (by decide +kernel)) ggX5_pays_X5_counts
set_option maxRecDepth 20000 in
theorem ggX5_pays_X5_pe : GoodIn wsX5_pays wsX5_pe := goodIn_r _ [18, 19, 29, 30, 31, 32, 33, 34, 35, 36, 37, 38, 39] (by decide +kernel) (by decide +kernel)
set_option maxRecDepth 20000 in
theorem gX5_pays_X5_pe : GoodIn wsX5_pays (wsV RX5 92 RX5 yX5_pe wsX5_pe) := goodIn_app (goodIn_of _ (by decide +kernel)) ggX5_pays_X5_pe
theorem dX5_pays_0 : decode cX5_pays 0 = .ok (.aload_n 0, 1) := by decide +kernel
theorem dX5_pays_1 : decode cX5_pays 1 = .ok (.iload_n 1, 1) := by decide +kernel
theorem dX5_pays_2 : decode cX5_pays 2 = .ok (.invokevirtual 113, 3) := by decide +kernel
theorem dX5_pays_5 : decode cX5_pays 5 = .ok (.istore_n 2, 1) := by decide +kernel
theorem dX5_pays_6 : decode cX5_pays 6 = .ok (.iload_n 2, 1) := by decide +kernel
theorem dX5_pays_7 : decode cX5_pays 7 = .ok (.iconst (-1), 1) := by decide +kernel
theorem dX5_pays_8 : decode cX5_pays 8 = .ok (.if_icmp .ne 5, 3) := by decide +kernel
theorem dX5_pays_11 : decode cX5_pays 11 = .ok (.iconst 0, 1) := by decide +kernel
theorem dX5_pays_12 : decode cX5_pays 12 = .ok (.ireturn, 1) := by decide +kernel
theorem dX5_pays_13 : decode cX5_pays 13 = .ok (.aload_n 0, 1) := by decide +kernel
theorem dX5_pays_14 : decode cX5_pays 14 = .ok (.iload_n 1, 1) := by decide +kernel
theorem dX5_pays_15 : decode cX5_pays 15 = .ok (.iconst 2, 1) := by decide +kernel
theorem dX5_pays_16 : decode cX5_pays 16 = .ok (.invokevirtual 83, 3) := by decide +kernel
theorem dX5_pays_19 : decode cX5_pays 19 = .ok (.istore_n 3, 1) := by decide +kernel
theorem dX5_pays_20 : decode cX5_pays 20 = .ok (.iconst 0, 1) := by decide +kernel
theorem dX5_pays_21 : decode cX5_pays 21 = .ok (.istore 4, 2) := by decide +kernel
theorem dX5_pays_23 : decode cX5_pays 23 = .ok (.iload 4, 2) := by decide +kernel
theorem dX5_pays_25 : decode cX5_pays 25 = .ok (.aload_n 0, 1) := by decide +kernel
theorem dX5_pays_26 : decode cX5_pays 26 = .ok (.getfield 42, 3) := by decide +kernel
theorem dX5_pays_29 : decode cX5_pays 29 = .ok (.if_icmp .ge 37, 3) := by decide +kernel
theorem dX5_pays_32 : decode cX5_pays 32 = .ok (.iload 4, 2) := by decide +kernel
theorem dX5_pays_34 : decode cX5_pays 34 = .ok (.iload_n 2, 1) := by decide +kernel
theorem dX5_pays_35 : decode cX5_pays 35 = .ok (.if_icmp .eq 25, 3) := by decide +kernel
theorem dX5_pays_38 : decode cX5_pays 38 = .ok (.aload_n 0, 1) := by decide +kernel
theorem dX5_pays_39 : decode cX5_pays 39 = .ok (.iload 4, 2) := by decide +kernel
theorem dX5_pays_41 : decode cX5_pays 41 = .ok (.iload_n 1, 1) := by decide +kernel
theorem dX5_pays_42 : decode cX5_pays 42 = .ok (.invokevirtual 110, 3) := by decide +kernel
theorem dX5_pays_45 : decode cX5_pays 45 = .ok (.ifCond .eq 15, 3) := by decide +kernel
theorem dX5_pays_48 : decode cX5_pays 48 = .ok (.iload_n 3, 1) := by decide +kernel
theorem dX5_pays_49 : decode cX5_pays 49 = .ok (.aload_n 0, 1) := by decide +kernel
theorem dX5_pays_50 : decode cX5_pays 50 = .ok (.iload 4, 2) := by decide +kernel
theorem dX5_pays_52 : decode cX5_pays 52 = .ok (.iconst 4, 1) := by decide +kernel
theorem dX5_pays_53 : decode cX5_pays 53 = .ok (.invokevirtual 92, 3) := by decide +kernel
theorem dX5_pays_56 : decode cX5_pays 56 = .ok (.invokestatic 116, 3) := by decide +kernel
theorem dX5_pays_59 : decode cX5_pays 59 = .ok (.istore_n 3, 1) := by decide +kernel
theorem dX5_pays_60 : decode cX5_pays 60 = .ok (.iinc 4 1, 3) := by decide +kernel
theorem dX5_pays_63 : decode cX5_pays 63 = .ok (.goto (-40), 3) := by decide +kernel
theorem dX5_pays_66 : decode cX5_pays 66 = .ok (.iload_n 3, 1) := by decide +kernel
theorem dX5_pays_67 : decode cX5_pays 67 = .ok (.ireturn, 1) := by decide +kernel
set_option maxRecDepth 20000 in
theorem ggX5_won_X5_winner : GoodIn wsX5_won wsX5_winner := goodIn_r _ [6, 1, 7, 8, 9, 5, 10, 11, 12, 13, 14, 15, 16, 17, 18, 19, 20, 21, 22, 23, 24, 33, 34, 35, 36, 37, 38, 39, 40, 41, 42, 43] (by decide +kernel) (by decide +kernel)
set_option maxRecDepth 20000 in
theorem gX5_won_X5_winner : GoodIn wsX5_won (wsV RX5 113 RX5 yX5_winner wsX5_winner) := goodIn_app (goodIn_of _ (by decide +kernel)) ggX5_won_X5_winner
set_option maxRecDepth 20000 in
theorem ggX5_won_X5_pays : GoodIn wsX5_won wsX5_pays := goodIn_r _ [28, 1, 29, 30, 31, 32, 2, 3, 4, 5, 6, 7, 8, 9, 10, 11, 12, 13, 14, 15, 16, 17, 18, 19, 20, 21, 22, 23, 24, 33, 34, 35, 36, 37, 38, 39, 40, 41, 42, 43] (by decide +kernel) (by decide +kernel)
set_option maxRecDepth 20000 in
theorem gX5_won_X5_pays : GoodIn wsX5_won (wsV RX5 121 RX5 yX5_pays wsX5_pays) := goodIn_app (goodIn_of _ (by decide +kernel)) ggX5_won_X5_pays
set_option maxRecDepth 20000 in
theorem ggX5_won_X5_counts : GoodIn wsX5_won wsX5_counts := goodIn_r _ [10, 11, 12, 13, 5, 14, 15, 16, 17, 18, 19, 20, 21, 22, 23, 24, 33, 34, 35, 36, 37, 38, 39, 40, 41, 42, 43] (by decide +kernel) (by decide +kernel)
set_option maxRecDepth 20000 in
theorem gX5_won_X5_counts : GoodIn wsX5_won (wsV RX5 110 RX5 yX5_counts wsX5_counts) := goodIn_app (goodIn_of _ (by decide +kernel)) ggX5_won_X5_counts
theorem dX5_won_0 : decode cX5_won 0 = .ok (.iconst 0, 1) := by decide +kernel
theorem dX5_won_1 : decode cX5_won 1 = .ok (.istore_n 3, 1) := by decide +kernel
theorem dX5_won_2 : decode cX5_won 2 = .ok (.iload_n 2, 1) := by decide +kernel
theorem dX5_won_3 : decode cX5_won 3 = .ok (.iconst 2, 1) := by decide +kernel
theorem dX5_won_4 : decode cX5_won 4 = .ok (.if_icmp .ge 21, 3) := by decide +kernel
theorem dX5_won_7 : decode cX5_won 7 = .ok (.iload_n 2, 1) := by decide +kernel
theorem dX5_won_8 : decode cX5_won 8 = .ok (.ifCond .ne 11, 3) := by decide +kernel
theorem dX5_won_11 : decode cX5_won 11 = .ok (.aload_n 0, 1) := by decide +kernel
theorem dX5_won_12 : decode cX5_won 12 = .ok (.iload_n 1, 1) := by decide +kernel
theorem dX5_won_13 : decode cX5_won 13 = .ok (.invokevirtual 113, 3) := by decide +kernel
theorem dX5_won_16 : decode cX5_won 16 = .ok (.goto 8, 3) := by decide +kernel
theorem dX5_won_19 : decode cX5_won 19 = .ok (.aload_n 0, 1) := by decide +kernel
theorem dX5_won_20 : decode cX5_won 20 = .ok (.iload_n 1, 1) := by decide +kernel
theorem dX5_won_21 : decode cX5_won 21 = .ok (.invokevirtual 121, 3) := by decide +kernel
theorem dX5_won_24 : decode cX5_won 24 = .ok (.ireturn, 1) := by decide +kernel
theorem dX5_won_25 : decode cX5_won 25 = .ok (.iconst 0, 1) := by decide +kernel
theorem dX5_won_26 : decode cX5_won 26 = .ok (.istore 4, 2) := by decide +kernel
theorem dX5_won_28 : decode cX5_won 28 = .ok (.iload 4, 2) := by decide +kernel
theorem dX5_won_30 : decode cX5_won 30 = .ok (.aload_n 0, 1) := by decide +kernel
theorem dX5_won_31 : decode cX5_won 31 = .ok (.getfield 42, 3) := by decide +kernel
theorem dX5_won_34 : decode cX5_won 34 = .ok (.if_icmp .ge 27, 3) := by decide +kernel
theorem dX5_won_37 : decode cX5_won 37 = .ok (.iload_n 3, 1) := by decide +kernel
theorem dX5_won_38 : decode cX5_won 38 = .ok (.aload_n 0, 1) := by decide +kernel
theorem dX5_won_39 : decode cX5_won 39 = .ok (.iload 4, 2) := by decide +kernel
theorem dX5_won_41 : decode cX5_won 41 = .ok (.iload_n 1, 1) := by decide +kernel
theorem dX5_won_42 : decode cX5_won 42 = .ok (.invokevirtual 110, 3) := by decide +kernel
theorem dX5_won_45 : decode cX5_won 45 = .ok (.ifCond .eq 7, 3) := by decide +kernel
theorem dX5_won_48 : decode cX5_won 48 = .ok (.iconst 1, 1) := by decide +kernel
theorem dX5_won_49 : decode cX5_won 49 = .ok (.goto 4, 3) := by decide +kernel
theorem dX5_won_52 : decode cX5_won 52 = .ok (.iconst 0, 1) := by decide +kernel
theorem dX5_won_53 : decode cX5_won 53 = .ok (.iadd, 1) := by decide +kernel
theorem dX5_won_54 : decode cX5_won 54 = .ok (.istore_n 3, 1) := by decide +kernel
theorem dX5_won_55 : decode cX5_won 55 = .ok (.iinc 4 1, 3) := by decide +kernel
theorem dX5_won_58 : decode cX5_won 58 = .ok (.goto (-30), 3) := by decide +kernel
theorem dX5_won_61 : decode cX5_won 61 = .ok (.iload_n 3, 1) := by decide +kernel
theorem dX5_won_62 : decode cX5_won 62 = .ok (.ireturn, 1) := by decide +kernel
set_option maxRecDepth 20000 in
theorem ggX5_wins_X5_isRoom : GoodIn wsX5_wins wsX5_isRoom := goodIn_r _ [6, 7, 8, 9, 5, 10, 50, 51, 52, 53, 54, 55, 56, 57, 58, 59, 60] (by decide +kernel) (by decide +kernel)
set_option maxRecDepth 20000 in
theorem gX5_wins_X5_isRoom : GoodIn wsX5_wins (wsV RX5 55 RX5 yX5_isRoom wsX5_isRoom) := goodIn_app (goodIn_of _ (by decide +kernel)) ggX5_wins_X5_isRoom
set_option maxRecDepth 20000 in
theorem ggX5_wins_X5_isIn : GoodIn wsX5_wins wsX5_isIn := goodIn_r _ [10] (by decide +kernel) (by decide +kernel)
set_option maxRecDepth 20000 in
theorem gX5_wins_X5_isIn : GoodIn wsX5_wins (va_wsS RX5 35 yX5_isIn wsX5_isIn) := goodIn_app (goodIn_of _ (by decide +kernel)) ggX5_wins_X5_isIn
set_option maxRecDepth 20000 in
theorem ggX5_wins_X5_won : GoodIn wsX5_wins wsX5_won := goodIn_r _ [14, 15, 16, 17, 18, 5, 19, 20, 21, 22, 23, 24, 25, 26, 27, 28, 29, 30, 31, 32, 33, 34, 35, 36, 37, 38, 39, 40, 41, 42, 43, 44, 45, 50, 51, 52, 53, 54, 55, 56, 57, 58, 59, 60] (by decide +kernel) (by decide +kernel)
set_option maxRecDepth 20000 in
theorem gX5_wins_X5_won : GoodIn wsX5_wins (wsV RX5 124 RX5 yX5_won wsX5_won) := goodIn_app (goodIn_of _ (by decide +kernel)) ggX5_wins_X5_won
set_option maxRecDepth 20000 in
theorem ggX5_wins_X5_fail : GoodIn wsX5_wins wsX5_fail := goodIn_r _ [49, 1, 50, 51, 52, 53, 54, 55, 56, 57, 58, 59, 60] (by decide +kernel) (by decide +kernel)
set_option maxRecDepth 20000 in
theorem gX5_wins_X5_fail : GoodIn wsX5_wins (wsV RX5 45 RX5 yX5_fail wsX5_fail) := goodIn_app (goodIn_of _ (by decide +kernel)) ggX5_wins_X5_fail
theorem dX5_wins_0 : decode cX5_wins 0 = .ok (.aload_n 0, 1) := by decide +kernel
theorem dX5_wins_1 : decode cX5_wins 1 = .ok (.iconst 0, 1) := by decide +kernel
theorem dX5_wins_2 : decode cX5_wins 2 = .ok (.putfield 28, 3) := by decide +kernel
theorem dX5_wins_5 : decode cX5_wins 5 = .ok (.aload_n 0, 1) := by decide +kernel
theorem dX5_wins_6 : decode cX5_wins 6 = .ok (.iload_n 1, 1) := by decide +kernel
theorem dX5_wins_7 : decode cX5_wins 7 = .ok (.invokevirtual 55, 3) := by decide +kernel
theorem dX5_wins_10 : decode cX5_wins 10 = .ok (.ifCond .eq 21, 3) := by decide +kernel
theorem dX5_wins_13 : decode cX5_wins 13 = .ok (.iload_n 2, 1) := by decide +kernel
theorem dX5_wins_14 : decode cX5_wins 14 = .ok (.iconst 0, 1) := by decide +kernel
theorem dX5_wins_15 : decode cX5_wins 15 = .ok (.iconst 2, 1) := by decide +kernel
theorem dX5_wins_16 : decode cX5_wins 16 = .ok (.invokestatic 35, 3) := by decide +kernel
theorem dX5_wins_19 : decode cX5_wins 19 = .ok (.ifCond .eq 12, 3) := by decide +kernel
theorem dX5_wins_22 : decode cX5_wins 22 = .ok (.aload_n 0, 1) := by decide +kernel
theorem dX5_wins_23 : decode cX5_wins 23 = .ok (.iload_n 1, 1) := by decide +kernel
theorem dX5_wins_24 : decode cX5_wins 24 = .ok (.iload_n 2, 1) := by decide +kernel
theorem dX5_wins_25 : decode cX5_wins 25 = .ok (.invokevirtual 124, 3) := by decide +kernel
theorem dX5_wins_28 : decode cX5_wins 28 = .ok (.goto 8, 3) := by decide +kernel
theorem dX5_wins_31 : decode cX5_wins 31 = .ok (.aload_n 0, 1) := by decide +kernel
theorem dX5_wins_32 : decode cX5_wins 32 = .ok (.iconst 1, 1) := by decide +kernel
theorem dX5_wins_33 : decode cX5_wins 33 = .ok (.invokevirtual 45, 3) := by decide +kernel
theorem dX5_wins_36 : decode cX5_wins 36 = .ok (.ireturn, 1) := by decide +kernel
theorem dX5_isBad_0 : decode cX5_isBad 0 = .ok (.iload_n 0, 1) := by decide +kernel
theorem dX5_isBad_1 : decode cX5_isBad 1 = .ok (.ifCond .ge 17, 3) := by decide +kernel
theorem dX5_isBad_4 : decode cX5_isBad 4 = .ok (.iload_n 1, 1) := by decide +kernel
theorem dX5_isBad_5 : decode cX5_isBad 5 = .ok (.iload_n 0, 1) := by decide +kernel
theorem dX5_isBad_6 : decode cX5_isBad 6 = .ok (.ineg, 1) := by decide +kernel
theorem dX5_isBad_7 : decode cX5_isBad 7 = .ok (.if_icmp .ge 7, 3) := by decide +kernel
theorem dX5_isBad_10 : decode cX5_isBad 10 = .ok (.iconst 1, 1) := by decide +kernel
theorem dX5_isBad_11 : decode cX5_isBad 11 = .ok (.goto 17, 3) := by decide +kernel
theorem dX5_isBad_14 : decode cX5_isBad 14 = .ok (.iconst 0, 1) := by decide +kernel
theorem dX5_isBad_15 : decode cX5_isBad 15 = .ok (.goto 13, 3) := by decide +kernel
theorem dX5_isBad_18 : decode cX5_isBad 18 = .ok (.iload_n 1, 1) := by decide +kernel
theorem dX5_isBad_19 : decode cX5_isBad 19 = .ok (.iload_n 0, 1) := by decide +kernel
theorem dX5_isBad_20 : decode cX5_isBad 20 = .ok (.if_icmp .le 7, 3) := by decide +kernel
theorem dX5_isBad_23 : decode cX5_isBad 23 = .ok (.iconst 1, 1) := by decide +kernel
theorem dX5_isBad_24 : decode cX5_isBad 24 = .ok (.goto 4, 3) := by decide +kernel
theorem dX5_isBad_27 : decode cX5_isBad 27 = .ok (.iconst 0, 1) := by decide +kernel
theorem dX5_isBad_28 : decode cX5_isBad 28 = .ok (.ireturn, 1) := by decide +kernel
set_option maxRecDepth 20000 in
theorem ggX5_night_X5_winner : GoodIn wsX5_night wsX5_winner := goodIn_r _ [16, 11, 17, 18, 19, 15, 20, 21, 22, 23, 24, 25, 26, 27, 28, 29, 30, 31, 32, 33, 34, 78, 79, 80, 81, 82, 83, 84, 85, 86, 87, 88] (by decide +kernel) (by decide +kernel)
set_option maxRecDepth 20000 in
theorem gX5_night_X5_winner : GoodIn wsX5_night (wsV RX5 113 RX5 yX5_winner wsX5_winner) := goodIn_app (goodIn_of _ (by decide +kernel)) ggX5_night_X5_winner
set_option maxRecDepth 20000 in
theorem ggX5_night_X5_pays : GoodIn wsX5_night wsX5_pays := goodIn_r _ [38, 11, 3, 4, 5, 6, 12, 13, 14, 15, 16, 17, 18, 19, 20, 21, 22, 23, 24, 25, 26, 27, 28, 29, 30, 31, 32, 33, 34, 78, 79, 80, 81, 82, 83, 84, 85, 86, 87, 88] (by decide +kernel) (by decide +kernel)
set_option maxRecDepth 20000 in
theorem gX5_night_X5_pays : GoodIn wsX5_night (wsV RX5 121 RX5 yX5_pays wsX5_pays) := goodIn_app (goodIn_of _ (by decide +kernel)) ggX5_night_X5_pays
set_option maxRecDepth 20000 in
theorem ggX5_night_X5_pe : GoodIn wsX5_night wsX5_pe := goodIn_r _ [24, 25, 78, 79, 80, 81, 82, 83, 84, 85, 86, 87, 88] (by decide +kernel) (by decide +kernel)
set_option maxRecDepth 20000 in
theorem gX5_night_X5_pe : GoodIn wsX5_night (wsV RX5 92 RX5 yX5_pe wsX5_pe) := goodIn_app (goodIn_of _ (by decide +kernel)) ggX5_night_X5_pe
set_option maxRecDepth 20000 in
theorem ggX5_night_X5_haunted : GoodIn wsX5_night wsX5_haunted := goodIn_r _ [42, 43, 44, 45, 46, 15, 47, 48, 49, 50, 51, 52, 53, 54, 55, 56, 57, 58, 59, 60, 61, 62, 78, 79, 80, 81, 82, 83, 84, 85, 86, 87, 88] (by decide +kernel) (by decide +kernel)
set_option maxRecDepth 20000 in
theorem gX5_night_X5_haunted : GoodIn wsX5_night (wsV RX5 80 RX5 yX5_haunted wsX5_haunted) := goodIn_app (goodIn_of _ (by decide +kernel)) ggX5_night_X5_haunted
set_option maxRecDepth 20000 in
theorem ggX5_night_X5_isBad : GoodIn wsX5_night wsX5_isBad := goodIn_r _ [65] (by decide +kernel) (by decide +kernel)
set_option maxRecDepth 20000 in
theorem gX5_night_X5_isBad : GoodIn wsX5_night (va_wsS RX5 127 yX5_isBad wsX5_isBad) := goodIn_app (goodIn_of _ (by decide +kernel)) ggX5_night_X5_isBad
set_option maxRecDepth 20000 in
theorem ggX5_night_X5_withdraw : GoodIn wsX5_night wsX5_withdraw := goodIn_r _ [69, 70, 71, 72, 15, 73, 25, 78, 79, 80, 81, 82, 83, 84, 85, 86, 87, 88] (by decide +kernel) (by decide +kernel)
set_option maxRecDepth 20000 in
theorem gX5_night_X5_withdraw : GoodIn wsX5_night (wsV RX5 106 RX5 yX5_withdraw wsX5_withdraw) := goodIn_app (goodIn_of _ (by decide +kernel)) ggX5_night_X5_withdraw
set_option maxRecDepth 20000 in
theorem ggX5_night_X5_set : GoodIn wsX5_night wsX5_set := goodIn_r _ [73, 25, 78, 79, 80, 81, 82, 83, 84, 85, 86, 87, 88] (by decide +kernel) (by decide +kernel)
set_option maxRecDepth 20000 in
theorem gX5_night_X5_set : GoodIn wsX5_night (wsV RX5 98 RX5 yX5_set wsX5_set) := goodIn_app (goodIn_of _ (by decide +kernel)) ggX5_night_X5_set
set_option maxRecDepth 20000 in
theorem ggX5_night_X5_ro : GoodIn wsX5_night wsX5_ro := goodIn_r _ [33, 34, 78, 79, 80, 81, 82, 83, 84, 85, 86, 87, 88] (by decide +kernel) (by decide +kernel)
set_option maxRecDepth 20000 in
theorem gX5_night_X5_ro : GoodIn wsX5_night (wsV RX5 83 RX5 yX5_ro wsX5_ro) := goodIn_app (goodIn_of _ (by decide +kernel)) ggX5_night_X5_ro
set_option maxRecDepth 20000 in
theorem ggX5_night_X5_addRo : GoodIn wsX5_night wsX5_addRo := goodIn_r _ [77, 34, 78, 79, 80, 81, 82, 83, 84, 85, 86, 87, 88] (by decide +kernel) (by decide +kernel)
set_option maxRecDepth 20000 in
theorem gX5_night_X5_addRo : GoodIn wsX5_night (wsV RX5 133 RX5 yX5_addRo wsX5_addRo) := goodIn_app (goodIn_of _ (by decide +kernel)) ggX5_night_X5_addRo
theorem dX5_night_0 : decode cX5_night 0 = .ok (.aload_n 0, 1) := by decide +kernel
theorem dX5_night_1 : decode cX5_night 1 = .ok (.iconst 0, 1) := by decide +kernel
theorem dX5_night_2 : decode cX5_night 2 = .ok (.putfield 28, 3) := by decide +kernel
theorem dX5_night_5 : decode cX5_night 5 = .ok (.iconst 0, 1) := by decide +kernel
theorem dX5_night_6 : decode cX5_night 6 = .ok (.istore_n 1, 1) := by decide +kernel
theorem dX5_night_7 : decode cX5_night 7 = .ok (.iload_n 1, 1) := by decide +kernel
theorem dX5_night_8 : decode cX5_night 8 = .ok (.aload_n 0, 1) := by decide +kernel
theorem dX5_night_9 : decode cX5_night 9 = .ok (.getfield 32, 3) := by decide +kernel
theorem dX5_night_12 : decode cX5_night 12 = .ok (.if_icmp .ge 248, 3) := by decide +kernel
theorem dX5_night_15 : decode cX5_night 15 = .ok (.aload_n 0, 1) := by decide +kernel
theorem dX5_night_16 : decode cX5_night 16 = .ok (.iload_n 1, 1) := by decide +kernel
theorem dX5_night_17 : decode cX5_night 17 = .ok (.invokevirtual 113, 3) := by decide +kernel
theorem dX5_night_20 : decode cX5_night 20 = .ok (.istore_n 2, 1) := by decide +kernel
theorem dX5_night_21 : decode cX5_night 21 = .ok (.iload_n 2, 1) := by decide +kernel
theorem dX5_night_22 : decode cX5_night 22 = .ok (.iconst (-1), 1) := by decide +kernel
theorem dX5_night_23 : decode cX5_night 23 = .ok (.if_icmp .ne 6, 3) := by decide +kernel
theorem dX5_night_26 : decode cX5_night 26 = .ok (.goto 228, 3) := by decide +kernel
theorem dX5_night_29 : decode cX5_night 29 = .ok (.aload_n 0, 1) := by decide +kernel
theorem dX5_night_30 : decode cX5_night 30 = .ok (.iload_n 1, 1) := by decide +kernel
theorem dX5_night_31 : decode cX5_night 31 = .ok (.invokevirtual 121, 3) := by decide +kernel
theorem dX5_night_34 : decode cX5_night 34 = .ok (.istore_n 3, 1) := by decide +kernel
theorem dX5_night_35 : decode cX5_night 35 = .ok (.aload_n 0, 1) := by decide +kernel
theorem dX5_night_36 : decode cX5_night 36 = .ok (.iload_n 2, 1) := by decide +kernel
theorem dX5_night_37 : decode cX5_night 37 = .ok (.iconst 2, 1) := by decide +kernel
theorem dX5_night_38 : decode cX5_night 38 = .ok (.invokevirtual 92, 3) := by decide +kernel
theorem dX5_night_41 : decode cX5_night 41 = .ok (.aload_n 0, 1) := by decide +kernel
theorem dX5_night_42 : decode cX5_night 42 = .ok (.iload_n 1, 1) := by decide +kernel
theorem dX5_night_43 : decode cX5_night 43 = .ok (.iconst (-1), 1) := by decide +kernel
theorem dX5_night_44 : decode cX5_night 44 = .ok (.invokevirtual 80, 3) := by decide +kernel
theorem dX5_night_47 : decode cX5_night 47 = .ok (.invokestatic 127, 3) := by decide +kernel
theorem dX5_night_50 : decode cX5_night 50 = .ok (.istore 4, 2) := by decide +kernel
theorem dX5_night_52 : decode cX5_night 52 = .ok (.iload 4, 2) := by decide +kernel
theorem dX5_night_54 : decode cX5_night 54 = .ok (.ifCond .eq 9, 3) := by decide +kernel
theorem dX5_night_57 : decode cX5_night 57 = .ok (.iload_n 3, 1) := by decide +kernel
theorem dX5_night_58 : decode cX5_night 58 = .ok (.iconst 2, 1) := by decide +kernel
theorem dX5_night_59 : decode cX5_night 59 = .ok (.idiv, 1) := by decide +kernel
theorem dX5_night_60 : decode cX5_night 60 = .ok (.goto 4, 3) := by decide +kernel
theorem dX5_night_63 : decode cX5_night 63 = .ok (.iconst 0, 1) := by decide +kernel
theorem dX5_night_64 : decode cX5_night 64 = .ok (.istore 5, 2) := by decide +kernel
theorem dX5_night_66 : decode cX5_night 66 = .ok (.iload 4, 2) := by decide +kernel
theorem dX5_night_68 : decode cX5_night 68 = .ok (.ifCond .eq 16, 3) := by decide +kernel
theorem dX5_night_71 : decode cX5_night 71 = .ok (.aload_n 0, 1) := by decide +kernel
theorem dX5_night_72 : decode cX5_night 72 = .ok (.iload_n 2, 1) := by decide +kernel
theorem dX5_night_73 : decode cX5_night 73 = .ok (.iconst 2, 1) := by decide +kernel
theorem dX5_night_74 : decode cX5_night 74 = .ok (.invokevirtual 92, 3) := by decide +kernel
theorem dX5_night_77 : decode cX5_night 77 = .ok (.ifCond .lt 7, 3) := by decide +kernel
theorem dX5_night_80 : decode cX5_night 80 = .ok (.iconst 1, 1) := by decide +kernel
theorem dX5_night_81 : decode cX5_night 81 = .ok (.goto 4, 3) := by decide +kernel
theorem dX5_night_84 : decode cX5_night 84 = .ok (.iconst 0, 1) := by decide +kernel
theorem dX5_night_85 : decode cX5_night 85 = .ok (.istore 6, 2) := by decide +kernel
theorem dX5_night_87 : decode cX5_night 87 = .ok (.aload_n 0, 1) := by decide +kernel
theorem dX5_night_88 : decode cX5_night 88 = .ok (.iload_n 2, 1) := by decide +kernel
theorem dX5_night_89 : decode cX5_night 89 = .ok (.invokevirtual 106, 3) := by decide +kernel
theorem dX5_night_92 : decode cX5_night 92 = .ok (.aload_n 0, 1) := by decide +kernel
theorem dX5_night_93 : decode cX5_night 93 = .ok (.iload_n 2, 1) := by decide +kernel
theorem dX5_night_94 : decode cX5_night 94 = .ok (.iconst 0, 1) := by decide +kernel
theorem dX5_night_95 : decode cX5_night 95 = .ok (.aload_n 0, 1) := by decide +kernel
theorem dX5_night_96 : decode cX5_night 96 = .ok (.iload_n 2, 1) := by decide +kernel
theorem dX5_night_97 : decode cX5_night 97 = .ok (.iconst 0, 1) := by decide +kernel
theorem dX5_night_98 : decode cX5_night 98 = .ok (.invokevirtual 92, 3) := by decide +kernel
theorem dX5_night_101 : decode cX5_night 101 = .ok (.iload_n 3, 1) := by decide +kernel
theorem dX5_night_102 : decode cX5_night 102 = .ok (.isub, 1) := by decide +kernel
theorem dX5_night_103 : decode cX5_night 103 = .ok (.iload 5, 2) := by decide +kernel
theorem dX5_night_105 : decode cX5_night 105 = .ok (.iadd, 1) := by decide +kernel
theorem dX5_night_106 : decode cX5_night 106 = .ok (.invokevirtual 98, 3) := by decide +kernel
theorem dX5_night_109 : decode cX5_night 109 = .ok (.aload_n 0, 1) := by decide +kernel
theorem dX5_night_110 : decode cX5_night 110 = .ok (.iload_n 2, 1) := by decide +kernel
theorem dX5_night_111 : decode cX5_night 111 = .ok (.iconst 5, 1) := by decide +kernel
theorem dX5_night_112 : decode cX5_night 112 = .ok (.aload_n 0, 1) := by decide +kernel
theorem dX5_night_113 : decode cX5_night 113 = .ok (.iload_n 2, 1) := by decide +kernel
theorem dX5_night_114 : decode cX5_night 114 = .ok (.iconst 5, 1) := by decide +kernel
theorem dX5_night_115 : decode cX5_night 115 = .ok (.invokevirtual 92, 3) := by decide +kernel
theorem dX5_night_118 : decode cX5_night 118 = .ok (.iconst 1, 1) := by decide +kernel
theorem dX5_night_119 : decode cX5_night 119 = .ok (.iadd, 1) := by decide +kernel
theorem dX5_night_120 : decode cX5_night 120 = .ok (.invokevirtual 98, 3) := by decide +kernel
theorem dX5_night_123 : decode cX5_night 123 = .ok (.iload 4, 2) := by decide +kernel
theorem dX5_night_125 : decode cX5_night 125 = .ok (.ifCond .eq 19, 3) := by decide +kernel
theorem dX5_night_128 : decode cX5_night 128 = .ok (.aload_n 0, 1) := by decide +kernel
theorem dX5_night_129 : decode cX5_night 129 = .ok (.iload_n 2, 1) := by decide +kernel
theorem dX5_night_130 : decode cX5_night 130 = .ok (.bipush 6, 2) := by decide +kernel
theorem dX5_night_132 : decode cX5_night 132 = .ok (.aload_n 0, 1) := by decide +kernel
theorem dX5_night_133 : decode cX5_night 133 = .ok (.iload_n 2, 1) := by decide +kernel
theorem dX5_night_134 : decode cX5_night 134 = .ok (.bipush 6, 2) := by decide +kernel
theorem dX5_night_136 : decode cX5_night 136 = .ok (.invokevirtual 92, 3) := by decide +kernel
theorem dX5_night_139 : decode cX5_night 139 = .ok (.iconst 1, 1) := by decide +kernel
theorem dX5_night_140 : decode cX5_night 140 = .ok (.iadd, 1) := by decide +kernel
theorem dX5_night_141 : decode cX5_night 141 = .ok (.invokevirtual 98, 3) := by decide +kernel
theorem dX5_night_144 : decode cX5_night 144 = .ok (.aload_n 0, 1) := by decide +kernel
theorem dX5_night_145 : decode cX5_night 145 = .ok (.iload_n 2, 1) := by decide +kernel
theorem dX5_night_146 : decode cX5_night 146 = .ok (.iconst 2, 1) := by decide +kernel
theorem dX5_night_147 : decode cX5_night 147 = .ok (.invokevirtual 92, 3) := by decide +kernel
theorem dX5_night_150 : decode cX5_night 150 = .ok (.ifCond .lt 42, 3) := by decide +kernel
theorem dX5_night_153 : decode cX5_night 153 = .ok (.aload_n 0, 1) := by decide +kernel
theorem dX5_night_154 : decode cX5_night 154 = .ok (.iload_n 2, 1) := by decide +kernel
theorem dX5_night_155 : decode cX5_night 155 = .ok (.iconst 2, 1) := by decide +kernel
theorem dX5_night_156 : decode cX5_night 156 = .ok (.iload 6, 2) := by decide +kernel
theorem dX5_night_158 : decode cX5_night 158 = .ok (.ifCond .eq 18, 3) := by decide +kernel
theorem dX5_night_161 : decode cX5_night 161 = .ok (.iconst 0, 1) := by decide +kernel
theorem dX5_night_162 : decode cX5_night 162 = .ok (.aload_n 0, 1) := by decide +kernel
theorem dX5_night_163 : decode cX5_night 163 = .ok (.iload_n 2, 1) := by decide +kernel
theorem dX5_night_164 : decode cX5_night 164 = .ok (.iconst 2, 1) := by decide +kernel
theorem dX5_night_165 : decode cX5_night 165 = .ok (.invokevirtual 92, 3) := by decide +kernel
theorem dX5_night_168 : decode cX5_night 168 = .ok (.iconst 1, 1) := by decide +kernel
theorem dX5_night_169 : decode cX5_night 169 = .ok (.isub, 1) := by decide +kernel
theorem dX5_night_170 : decode cX5_night 170 = .ok (.invokestatic 116, 3) := by decide +kernel
theorem dX5_night_173 : decode cX5_night 173 = .ok (.goto 16, 3) := by decide +kernel
theorem dX5_night_176 : decode cX5_night 176 = .ok (.bipush 90, 2) := by decide +kernel
theorem dX5_night_178 : decode cX5_night 178 = .ok (.aload_n 0, 1) := by decide +kernel
theorem dX5_night_179 : decode cX5_night 179 = .ok (.iload_n 2, 1) := by decide +kernel
theorem dX5_night_180 : decode cX5_night 180 = .ok (.iconst 2, 1) := by decide +kernel
theorem dX5_night_181 : decode cX5_night 181 = .ok (.invokevirtual 92, 3) := by decide +kernel
theorem dX5_night_184 : decode cX5_night 184 = .ok (.iconst 1, 1) := by decide +kernel
theorem dX5_night_185 : decode cX5_night 185 = .ok (.iadd, 1) := by decide +kernel
theorem dX5_night_186 : decode cX5_night 186 = .ok (.invokestatic 130, 3) := by decide +kernel
theorem dX5_night_189 : decode cX5_night 189 = .ok (.invokevirtual 98, 3) := by decide +kernel
theorem dX5_night_192 : decode cX5_night 192 = .ok (.iload 6, 2) := by decide +kernel
theorem dX5_night_194 : decode cX5_night 194 = .ok (.ifCond .eq 19, 3) := by decide +kernel
theorem dX5_night_197 : decode cX5_night 197 = .ok (.aload_n 0, 1) := by decide +kernel
theorem dX5_night_198 : decode cX5_night 198 = .ok (.iload_n 1, 1) := by decide +kernel
theorem dX5_night_199 : decode cX5_night 199 = .ok (.iconst 1, 1) := by decide +kernel
theorem dX5_night_200 : decode cX5_night 200 = .ok (.invokevirtual 83, 3) := by decide +kernel
theorem dX5_night_203 : decode cX5_night 203 = .ok (.ifCond .le 10, 3) := by decide +kernel
theorem dX5_night_206 : decode cX5_night 206 = .ok (.aload_n 0, 1) := by decide +kernel
theorem dX5_night_207 : decode cX5_night 207 = .ok (.iload_n 1, 1) := by decide +kernel
theorem dX5_night_208 : decode cX5_night 208 = .ok (.iconst 1, 1) := by decide +kernel
theorem dX5_night_209 : decode cX5_night 209 = .ok (.iconst (-1), 1) := by decide +kernel
theorem dX5_night_210 : decode cX5_night 210 = .ok (.invokevirtual 133, 3) := by decide +kernel
theorem dX5_night_213 : decode cX5_night 213 = .ok (.aload_n 0, 1) := by decide +kernel
theorem dX5_night_214 : decode cX5_night 214 = .ok (.iload_n 1, 1) := by decide +kernel
theorem dX5_night_215 : decode cX5_night 215 = .ok (.iconst 3, 1) := by decide +kernel
theorem dX5_night_216 : decode cX5_night 216 = .ok (.iconst 1, 1) := by decide +kernel
theorem dX5_night_217 : decode cX5_night 217 = .ok (.invokevirtual 133, 3) := by decide +kernel
theorem dX5_night_220 : decode cX5_night 220 = .ok (.aload_n 0, 1) := by decide +kernel
theorem dX5_night_221 : decode cX5_night 221 = .ok (.iload_n 1, 1) := by decide +kernel
theorem dX5_night_222 : decode cX5_night 222 = .ok (.iconst 4, 1) := by decide +kernel
theorem dX5_night_223 : decode cX5_night 223 = .ok (.iload_n 3, 1) := by decide +kernel
theorem dX5_night_224 : decode cX5_night 224 = .ok (.iload 5, 2) := by decide +kernel
theorem dX5_night_226 : decode cX5_night 226 = .ok (.isub, 1) := by decide +kernel
theorem dX5_night_227 : decode cX5_night 227 = .ok (.invokevirtual 133, 3) := by decide +kernel
theorem dX5_night_230 : decode cX5_night 230 = .ok (.aload_n 0, 1) := by decide +kernel
theorem dX5_night_231 : decode cX5_night 231 = .ok (.getfield 22, 3) := by decide +kernel
theorem dX5_night_234 : decode cX5_night 234 = .ok (.iconst 1, 1) := by decide +kernel
theorem dX5_night_235 : decode cX5_night 235 = .ok (.dup2, 1) := by decide +kernel
theorem dX5_night_236 : decode cX5_night 236 = .ok (.iaload, 1) := by decide +kernel
theorem dX5_night_237 : decode cX5_night 237 = .ok (.iload_n 3, 1) := by decide +kernel
theorem dX5_night_238 : decode cX5_night 238 = .ok (.iload 5, 2) := by decide +kernel
theorem dX5_night_240 : decode cX5_night 240 = .ok (.isub, 1) := by decide +kernel
theorem dX5_night_241 : decode cX5_night 241 = .ok (.iadd, 1) := by decide +kernel
theorem dX5_night_242 : decode cX5_night 242 = .ok (.iastore, 1) := by decide +kernel
theorem dX5_night_243 : decode cX5_night 243 = .ok (.aload_n 0, 1) := by decide +kernel
theorem dX5_night_244 : decode cX5_night 244 = .ok (.getfield 22, 3) := by decide +kernel
theorem dX5_night_247 : decode cX5_night 247 = .ok (.iconst 2, 1) := by decide +kernel
theorem dX5_night_248 : decode cX5_night 248 = .ok (.dup2, 1) := by decide +kernel
theorem dX5_night_249 : decode cX5_night 249 = .ok (.iaload, 1) := by decide +kernel
theorem dX5_night_250 : decode cX5_night 250 = .ok (.iload 5, 2) := by decide +kernel
theorem dX5_night_252 : decode cX5_night 252 = .ok (.iadd, 1) := by decide +kernel
theorem dX5_night_253 : decode cX5_night 253 = .ok (.iastore, 1) := by decide +kernel
theorem dX5_night_254 : decode cX5_night 254 = .ok (.iinc 1 1, 3) := by decide +kernel
theorem dX5_night_257 : decode cX5_night 257 = .ok (.goto (-250), 3) := by decide +kernel
theorem dX5_night_260 : decode cX5_night 260 = .ok (.iconst 0, 1) := by decide +kernel
theorem dX5_night_261 : decode cX5_night 261 = .ok (.istore_n 1, 1) := by decide +kernel
theorem dX5_night_262 : decode cX5_night 262 = .ok (.iload_n 1, 1) := by decide +kernel
theorem dX5_night_263 : decode cX5_night 263 = .ok (.aload_n 0, 1) := by decide +kernel
theorem dX5_night_264 : decode cX5_night 264 = .ok (.getfield 42, 3) := by decide +kernel
theorem dX5_night_267 : decode cX5_night 267 = .ok (.if_icmp .ge 14, 3) := by decide +kernel
theorem dX5_night_270 : decode cX5_night 270 = .ok (.aload_n 0, 1) := by decide +kernel
theorem dX5_night_271 : decode cX5_night 271 = .ok (.iload_n 1, 1) := by decide +kernel
theorem dX5_night_272 : decode cX5_night 272 = .ok (.invokevirtual 106, 3) := by decide +kernel
theorem dX5_night_275 : decode cX5_night 275 = .ok (.iinc 1 1, 3) := by decide +kernel
theorem dX5_night_278 : decode cX5_night 278 = .ok (.goto (-16), 3) := by decide +kernel
theorem dX5_night_281 : decode cX5_night 281 = .ok (.aload_n 0, 1) := by decide +kernel
theorem dX5_night_282 : decode cX5_night 282 = .ok (.getfield 22, 3) := by decide +kernel
theorem dX5_night_285 : decode cX5_night 285 = .ok (.iconst 0, 1) := by decide +kernel
theorem dX5_night_286 : decode cX5_night 286 = .ok (.dup2, 1) := by decide +kernel
theorem dX5_night_287 : decode cX5_night 287 = .ok (.iaload, 1) := by decide +kernel
theorem dX5_night_288 : decode cX5_night 288 = .ok (.iconst 1, 1) := by decide +kernel
theorem dX5_night_289 : decode cX5_night 289 = .ok (.iadd, 1) := by decide +kernel
theorem dX5_night_290 : decode cX5_night 290 = .ok (.iastore, 1) := by decide +kernel
theorem dX5_night_291 : decode cX5_night 291 = .ok (.aload_n 0, 1) := by decide +kernel
theorem dX5_night_292 : decode cX5_night 292 = .ok (.getfield 22, 3) := by decide +kernel
theorem dX5_night_295 : decode cX5_night 295 = .ok (.iconst 1, 1) := by decide +kernel
theorem dX5_night_296 : decode cX5_night 296 = .ok (.iaload, 1) := by decide +kernel
theorem dX5_night_297 : decode cX5_night 297 = .ok (.ireturn, 1) := by decide +kernel
set_option maxRecDepth 20000 in
theorem ggX5_counted_X5_pe : GoodIn wsX5_counted wsX5_pe := goodIn_r _ [10, 11, 29, 30, 31, 32, 33, 34, 35, 36, 37, 38, 39] (by decide +kernel) (by decide +kernel)
set_option maxRecDepth 20000 in
theorem gX5_counted_X5_pe : GoodIn wsX5_counted (wsV RX5 92 RX5 yX5_pe wsX5_pe) := goodIn_app (goodIn_of _ (by decide +kernel)) ggX5_counted_X5_pe
set_option maxRecDepth 20000 in
theorem ggX5_counted_X5_winner : GoodIn wsX5_counted wsX5_winner := goodIn_r _ [15, 5, 16, 17, 18, 9, 19, 6, 7, 8, 10, 11, 20, 21, 22, 23, 24, 25, 26, 27, 28, 29, 30, 31, 32, 33, 34, 35, 36, 37, 38, 39] (by decide +kernel) (by decide +kernel)
set_option maxRecDepth 20000 in
theorem gX5_counted_X5_winner : GoodIn wsX5_counted (wsV RX5 113 RX5 yX5_winner wsX5_winner) := goodIn_app (goodIn_of _ (by decide +kernel)) ggX5_counted_X5_winner
theorem dX5_counted_0 : decode cX5_counted 0 = .ok (.iconst 0, 1) := by decide +kernel
theorem dX5_counted_1 : decode cX5_counted 1 = .ok (.istore_n 2, 1) := by decide +kernel
theorem dX5_counted_2 : decode cX5_counted 2 = .ok (.iload_n 1, 1) := by decide +kernel
theorem dX5_counted_3 : decode cX5_counted 3 = .ok (.tableswitch 122 0 7 #[45, 52, 57, 62, 67, 72, 79, 115], 45) := by decide +kernel
theorem dX5_counted_48 : decode cX5_counted 48 = .ok (.aload_n 0, 1) := by decide +kernel
theorem dX5_counted_49 : decode cX5_counted 49 = .ok (.getfield 22, 3) := by decide +kernel
theorem dX5_counted_52 : decode cX5_counted 52 = .ok (.iconst 0, 1) := by decide +kernel
theorem dX5_counted_53 : decode cX5_counted 53 = .ok (.iaload, 1) := by decide +kernel
theorem dX5_counted_54 : decode cX5_counted 54 = .ok (.ireturn, 1) := by decide +kernel
theorem dX5_counted_55 : decode cX5_counted 55 = .ok (.aload_n 0, 1) := by decide +kernel
theorem dX5_counted_56 : decode cX5_counted 56 = .ok (.getfield 32, 3) := by decide +kernel
theorem dX5_counted_59 : decode cX5_counted 59 = .ok (.ireturn, 1) := by decide +kernel
theorem dX5_counted_60 : decode cX5_counted 60 = .ok (.aload_n 0, 1) := by decide +kernel
theorem dX5_counted_61 : decode cX5_counted 61 = .ok (.getfield 59, 3) := by decide +kernel
theorem dX5_counted_64 : decode cX5_counted 64 = .ok (.ireturn, 1) := by decide +kernel
theorem dX5_counted_65 : decode cX5_counted 65 = .ok (.aload_n 0, 1) := by decide +kernel
theorem dX5_counted_66 : decode cX5_counted 66 = .ok (.getfield 39, 3) := by decide +kernel
theorem dX5_counted_69 : decode cX5_counted 69 = .ok (.ireturn, 1) := by decide +kernel
theorem dX5_counted_70 : decode cX5_counted 70 = .ok (.aload_n 0, 1) := by decide +kernel
theorem dX5_counted_71 : decode cX5_counted 71 = .ok (.getfield 42, 3) := by decide +kernel
theorem dX5_counted_74 : decode cX5_counted 74 = .ok (.ireturn, 1) := by decide +kernel
theorem dX5_counted_75 : decode cX5_counted 75 = .ok (.aload_n 0, 1) := by decide +kernel
theorem dX5_counted_76 : decode cX5_counted 76 = .ok (.getfield 22, 3) := by decide +kernel
theorem dX5_counted_79 : decode cX5_counted 79 = .ok (.iconst 1, 1) := by decide +kernel
theorem dX5_counted_80 : decode cX5_counted 80 = .ok (.iaload, 1) := by decide +kernel
theorem dX5_counted_81 : decode cX5_counted 81 = .ok (.ireturn, 1) := by decide +kernel
theorem dX5_counted_82 : decode cX5_counted 82 = .ok (.iconst 0, 1) := by decide +kernel
theorem dX5_counted_83 : decode cX5_counted 83 = .ok (.istore_n 3, 1) := by decide +kernel
theorem dX5_counted_84 : decode cX5_counted 84 = .ok (.iload_n 3, 1) := by decide +kernel
theorem dX5_counted_85 : decode cX5_counted 85 = .ok (.aload_n 0, 1) := by decide +kernel
theorem dX5_counted_86 : decode cX5_counted 86 = .ok (.getfield 42, 3) := by decide +kernel
theorem dX5_counted_89 : decode cX5_counted 89 = .ok (.if_icmp .ge 27, 3) := by decide +kernel
theorem dX5_counted_92 : decode cX5_counted 92 = .ok (.iload_n 2, 1) := by decide +kernel
theorem dX5_counted_93 : decode cX5_counted 93 = .ok (.aload_n 0, 1) := by decide +kernel
theorem dX5_counted_94 : decode cX5_counted 94 = .ok (.iload_n 3, 1) := by decide +kernel
theorem dX5_counted_95 : decode cX5_counted 95 = .ok (.iconst 3, 1) := by decide +kernel
theorem dX5_counted_96 : decode cX5_counted 96 = .ok (.invokevirtual 92, 3) := by decide +kernel
theorem dX5_counted_99 : decode cX5_counted 99 = .ok (.iconst (-1), 1) := by decide +kernel
theorem dX5_counted_100 : decode cX5_counted 100 = .ok (.if_icmp .ne 7, 3) := by decide +kernel
theorem dX5_counted_103 : decode cX5_counted 103 = .ok (.iconst 0, 1) := by decide +kernel
theorem dX5_counted_104 : decode cX5_counted 104 = .ok (.goto 4, 3) := by decide +kernel
theorem dX5_counted_107 : decode cX5_counted 107 = .ok (.iconst 1, 1) := by decide +kernel
theorem dX5_counted_108 : decode cX5_counted 108 = .ok (.iadd, 1) := by decide +kernel
theorem dX5_counted_109 : decode cX5_counted 109 = .ok (.istore_n 2, 1) := by decide +kernel
theorem dX5_counted_110 : decode cX5_counted 110 = .ok (.iinc 3 1, 3) := by decide +kernel
theorem dX5_counted_113 : decode cX5_counted 113 = .ok (.goto (-29), 3) := by decide +kernel
theorem dX5_counted_116 : decode cX5_counted 116 = .ok (.iload_n 2, 1) := by decide +kernel
theorem dX5_counted_117 : decode cX5_counted 117 = .ok (.ireturn, 1) := by decide +kernel
theorem dX5_counted_118 : decode cX5_counted 118 = .ok (.aload_n 0, 1) := by decide +kernel
theorem dX5_counted_119 : decode cX5_counted 119 = .ok (.getfield 22, 3) := by decide +kernel
theorem dX5_counted_122 : decode cX5_counted 122 = .ok (.iconst 2, 1) := by decide +kernel
theorem dX5_counted_123 : decode cX5_counted 123 = .ok (.iaload, 1) := by decide +kernel
theorem dX5_counted_124 : decode cX5_counted 124 = .ok (.ireturn, 1) := by decide +kernel
theorem dX5_counted_125 : decode cX5_counted 125 = .ok (.iconst 0, 1) := by decide +kernel
theorem dX5_counted_126 : decode cX5_counted 126 = .ok (.istore_n 3, 1) := by decide +kernel
theorem dX5_counted_127 : decode cX5_counted 127 = .ok (.iload_n 3, 1) := by decide +kernel
theorem dX5_counted_128 : decode cX5_counted 128 = .ok (.aload_n 0, 1) := by decide +kernel
theorem dX5_counted_129 : decode cX5_counted 129 = .ok (.getfield 32, 3) := by decide +kernel
theorem dX5_counted_132 : decode cX5_counted 132 = .ok (.if_icmp .ge 26, 3) := by decide +kernel
theorem dX5_counted_135 : decode cX5_counted 135 = .ok (.iload_n 2, 1) := by decide +kernel
theorem dX5_counted_136 : decode cX5_counted 136 = .ok (.aload_n 0, 1) := by decide +kernel
theorem dX5_counted_137 : decode cX5_counted 137 = .ok (.iload_n 3, 1) := by decide +kernel
theorem dX5_counted_138 : decode cX5_counted 138 = .ok (.invokevirtual 113, 3) := by decide +kernel
theorem dX5_counted_141 : decode cX5_counted 141 = .ok (.iconst (-1), 1) := by decide +kernel
theorem dX5_counted_142 : decode cX5_counted 142 = .ok (.if_icmp .ne 7, 3) := by decide +kernel
theorem dX5_counted_145 : decode cX5_counted 145 = .ok (.iconst 0, 1) := by decide +kernel
theorem dX5_counted_146 : decode cX5_counted 146 = .ok (.goto 4, 3) := by decide +kernel
theorem dX5_counted_149 : decode cX5_counted 149 = .ok (.iconst 1, 1) := by decide +kernel
theorem dX5_counted_150 : decode cX5_counted 150 = .ok (.iadd, 1) := by decide +kernel
theorem dX5_counted_151 : decode cX5_counted 151 = .ok (.istore_n 2, 1) := by decide +kernel
theorem dX5_counted_152 : decode cX5_counted 152 = .ok (.iinc 3 1, 3) := by decide +kernel
theorem dX5_counted_155 : decode cX5_counted 155 = .ok (.goto (-28), 3) := by decide +kernel
theorem dX5_counted_158 : decode cX5_counted 158 = .ok (.iload_n 2, 1) := by decide +kernel
theorem dX5_counted_159 : decode cX5_counted 159 = .ok (.ireturn, 1) := by decide +kernel
set_option maxRecDepth 20000 in
theorem ggX5_count_X5_isIn : GoodIn wsX5_count wsX5_isIn := goodIn_r _ [5] (by decide +kernel) (by decide +kernel)
set_option maxRecDepth 20000 in
theorem gX5_count_X5_isIn : GoodIn wsX5_count (va_wsS RX5 35 yX5_isIn wsX5_isIn) := goodIn_app (goodIn_of _ (by decide +kernel)) ggX5_count_X5_isIn
set_option maxRecDepth 20000 in
theorem ggX5_count_X5_counted : GoodIn wsX5_count wsX5_counted := goodIn_r _ [9, 10, 11, 12, 13, 14, 15, 16, 17, 4, 18, 19, 20, 21, 22, 23, 24, 25, 26, 27, 28, 29, 30, 31, 32, 33, 34, 35, 36, 41, 42, 43, 44, 45, 46, 47, 48, 49, 50, 51] (by decide +kernel) (by decide +kernel)
set_option maxRecDepth 20000 in
theorem gX5_count_X5_counted : GoodIn wsX5_count (wsV RX5 136 RX5 yX5_counted wsX5_counted) := goodIn_app (goodIn_of _ (by decide +kernel)) ggX5_count_X5_counted
set_option maxRecDepth 20000 in
theorem ggX5_count_X5_fail : GoodIn wsX5_count wsX5_fail := goodIn_r _ [40, 1, 41, 42, 43, 44, 45, 46, 47, 48, 49, 50, 51] (by decide +kernel) (by decide +kernel)
set_option maxRecDepth 20000 in
theorem gX5_count_X5_fail : GoodIn wsX5_count (wsV RX5 45 RX5 yX5_fail wsX5_fail) := goodIn_app (goodIn_of _ (by decide +kernel)) ggX5_count_X5_fail
theorem dX5_count_0 : decode cX5_count 0 = .ok (.aload_n 0, 1) := by decide +kernel
theorem dX5_count_1 : decode cX5_count 1 = .ok (.iconst 0, 1) := by decide +kernel
theorem dX5_count_2 : decode cX5_count 2 = .ok (.putfield 28, 3) := by decide +kernel
theorem dX5_count_5 : decode cX5_count 5 = .ok (.iload_n 1, 1) := by decide +kernel
theorem dX5_count_6 : decode cX5_count 6 = .ok (.iconst 0, 1) := by decide +kernel
theorem dX5_count_7 : decode cX5_count 7 = .ok (.bipush 8, 2) := by decide +kernel
theorem dX5_count_9 : decode cX5_count 9 = .ok (.invokestatic 35, 3) := by decide +kernel
theorem dX5_count_12 : decode cX5_count 12 = .ok (.ifCond .eq 11, 3) := by decide +kernel
theorem dX5_count_15 : decode cX5_count 15 = .ok (.aload_n 0, 1) := by decide +kernel
theorem dX5_count_16 : decode cX5_count 16 = .ok (.iload_n 1, 1) := by decide +kernel
theorem dX5_count_17 : decode cX5_count 17 = .ok (.invokevirtual 136, 3) := by decide +kernel
theorem dX5_count_20 : decode cX5_count 20 = .ok (.goto 8, 3) := by decide +kernel
theorem dX5_count_23 : decode cX5_count 23 = .ok (.aload_n 0, 1) := by decide +kernel
theorem dX5_count_24 : decode cX5_count 24 = .ok (.iconst 1, 1) := by decide +kernel
theorem dX5_count_25 : decode cX5_count 25 = .ok (.invokevirtual 45, 3) := by decide +kernel
theorem dX5_count_28 : decode cX5_count 28 = .ok (.ireturn, 1) := by decide +kernel
set_option maxRecDepth 20000 in
theorem ggX5_best_X5_isGuest : GoodIn wsX5_best wsX5_isGuest := goodIn_r _ [7, 8, 9, 10, 6, 11, 53, 54, 55, 56, 57, 58, 59, 60, 61, 62, 63] (by decide +kernel) (by decide +kernel)
set_option maxRecDepth 20000 in
theorem gX5_best_X5_isGuest : GoodIn wsX5_best (wsV RX5 95 RX5 yX5_isGuest wsX5_isGuest) := goodIn_app (goodIn_of _ (by decide +kernel)) ggX5_best_X5_isGuest
set_option maxRecDepth 20000 in
theorem ggX5_best_X5_fail : GoodIn wsX5_best wsX5_fail := goodIn_r _ [15, 1, 53, 54, 55, 56, 57, 58, 59, 60, 61, 62, 63] (by decide +kernel) (by decide +kernel)
set_option maxRecDepth 20000 in
theorem gX5_best_X5_fail : GoodIn wsX5_best (wsV RX5 45 RX5 yX5_fail wsX5_fail) := goodIn_app (goodIn_of _ (by decide +kernel)) ggX5_best_X5_fail
set_option maxRecDepth 20000 in
theorem ggX5_best_X5_ro : GoodIn wsX5_best wsX5_ro := goodIn_r _ [19, 20, 53, 54, 55, 56, 57, 58, 59, 60, 61, 62, 63] (by decide +kernel) (by decide +kernel)
set_option maxRecDepth 20000 in
theorem gX5_best_X5_ro : GoodIn wsX5_best (wsV RX5 83 RX5 yX5_ro wsX5_ro) := goodIn_app (goodIn_of _ (by decide +kernel)) ggX5_best_X5_ro
set_option maxRecDepth 20000 in
theorem ggX5_best_X5_pe : GoodIn wsX5_best wsX5_pe := goodIn_r _ [24, 25, 53, 54, 55, 56, 57, 58, 59, 60, 61, 62, 63] (by decide +kernel) (by decide +kernel)
set_option maxRecDepth 20000 in
theorem gX5_best_X5_pe : GoodIn wsX5_best (wsV RX5 92 RX5 yX5_pe wsX5_pe) := goodIn_app (goodIn_of _ (by decide +kernel)) ggX5_best_X5_pe
set_option maxRecDepth 20000 in
theorem ggX5_best_X5_haunted : GoodIn wsX5_best wsX5_haunted := goodIn_r _ [29, 30, 31, 32, 33, 6, 34, 35, 36, 37, 38, 39, 40, 41, 42, 43, 44, 45, 46, 47, 48, 49, 53, 54, 55, 56, 57, 58, 59, 60, 61, 62, 63] (by decide +kernel) (by decide +kernel)
set_option maxRecDepth 20000 in
theorem gX5_best_X5_haunted : GoodIn wsX5_best (wsV RX5 80 RX5 yX5_haunted wsX5_haunted) := goodIn_app (goodIn_of _ (by decide +kernel)) ggX5_best_X5_haunted
set_option maxRecDepth 20000 in
theorem ggX5_best_X5_isBad : GoodIn wsX5_best wsX5_isBad := goodIn_r _ [52] (by decide +kernel) (by decide +kernel)
set_option maxRecDepth 20000 in
theorem gX5_best_X5_isBad : GoodIn wsX5_best (va_wsS RX5 127 yX5_isBad wsX5_isBad) := goodIn_app (goodIn_of _ (by decide +kernel)) ggX5_best_X5_isBad
theorem dX5_best_0 : decode cX5_best 0 = .ok (.aload_n 0, 1) := by decide +kernel
theorem dX5_best_1 : decode cX5_best 1 = .ok (.iconst 0, 1) := by decide +kernel
theorem dX5_best_2 : decode cX5_best 2 = .ok (.putfield 28, 3) := by decide +kernel
theorem dX5_best_5 : decode cX5_best 5 = .ok (.aload_n 0, 1) := by decide +kernel
theorem dX5_best_6 : decode cX5_best 6 = .ok (.iload_n 1, 1) := by decide +kernel
theorem dX5_best_7 : decode cX5_best 7 = .ok (.invokevirtual 95, 3) := by decide +kernel
theorem dX5_best_10 : decode cX5_best 10 = .ok (.ifCond .ne 9, 3) := by decide +kernel
theorem dX5_best_13 : decode cX5_best 13 = .ok (.aload_n 0, 1) := by decide +kernel
theorem dX5_best_14 : decode cX5_best 14 = .ok (.iconst 1, 1) := by decide +kernel
theorem dX5_best_15 : decode cX5_best 15 = .ok (.invokevirtual 45, 3) := by decide +kernel
theorem dX5_best_18 : decode cX5_best 18 = .ok (.ireturn, 1) := by decide +kernel
theorem dX5_best_19 : decode cX5_best 19 = .ok (.iconst (-1), 1) := by decide +kernel
theorem dX5_best_20 : decode cX5_best 20 = .ok (.istore_n 2, 1) := by decide +kernel
theorem dX5_best_21 : decode cX5_best 21 = .ok (.iconst 0, 1) := by decide +kernel
theorem dX5_best_22 : decode cX5_best 22 = .ok (.istore_n 3, 1) := by decide +kernel
theorem dX5_best_23 : decode cX5_best 23 = .ok (.iload_n 3, 1) := by decide +kernel
theorem dX5_best_24 : decode cX5_best 24 = .ok (.aload_n 0, 1) := by decide +kernel
theorem dX5_best_25 : decode cX5_best 25 = .ok (.getfield 32, 3) := by decide +kernel
theorem dX5_best_28 : decode cX5_best 28 = .ok (.if_icmp .ge 82, 3) := by decide +kernel
theorem dX5_best_31 : decode cX5_best 31 = .ok (.aload_n 0, 1) := by decide +kernel
theorem dX5_best_32 : decode cX5_best 32 = .ok (.iload_n 3, 1) := by decide +kernel
theorem dX5_best_33 : decode cX5_best 33 = .ok (.iconst 0, 1) := by decide +kernel
theorem dX5_best_34 : decode cX5_best 34 = .ok (.invokevirtual 83, 3) := by decide +kernel
theorem dX5_best_37 : decode cX5_best 37 = .ok (.aload_n 0, 1) := by decide +kernel
theorem dX5_best_38 : decode cX5_best 38 = .ok (.iload_n 1, 1) := by decide +kernel
theorem dX5_best_39 : decode cX5_best 39 = .ok (.iconst 1, 1) := by decide +kernel
theorem dX5_best_40 : decode cX5_best 40 = .ok (.invokevirtual 92, 3) := by decide +kernel
theorem dX5_best_43 : decode cX5_best 43 = .ok (.if_icmp .lt 61, 3) := by decide +kernel
theorem dX5_best_46 : decode cX5_best 46 = .ok (.aload_n 0, 1) := by decide +kernel
theorem dX5_best_47 : decode cX5_best 47 = .ok (.iload_n 3, 1) := by decide +kernel
theorem dX5_best_48 : decode cX5_best 48 = .ok (.iconst 2, 1) := by decide +kernel
theorem dX5_best_49 : decode cX5_best 49 = .ok (.invokevirtual 83, 3) := by decide +kernel
theorem dX5_best_52 : decode cX5_best 52 = .ok (.aload_n 0, 1) := by decide +kernel
theorem dX5_best_53 : decode cX5_best 53 = .ok (.iload_n 1, 1) := by decide +kernel
theorem dX5_best_54 : decode cX5_best 54 = .ok (.iconst 0, 1) := by decide +kernel
theorem dX5_best_55 : decode cX5_best 55 = .ok (.invokevirtual 92, 3) := by decide +kernel
theorem dX5_best_58 : decode cX5_best 58 = .ok (.if_icmp .gt 46, 3) := by decide +kernel
theorem dX5_best_61 : decode cX5_best 61 = .ok (.aload_n 0, 1) := by decide +kernel
theorem dX5_best_62 : decode cX5_best 62 = .ok (.iload_n 1, 1) := by decide +kernel
theorem dX5_best_63 : decode cX5_best 63 = .ok (.iconst 2, 1) := by decide +kernel
theorem dX5_best_64 : decode cX5_best 64 = .ok (.invokevirtual 92, 3) := by decide +kernel
theorem dX5_best_67 : decode cX5_best 67 = .ok (.aload_n 0, 1) := by decide +kernel
theorem dX5_best_68 : decode cX5_best 68 = .ok (.iload_n 3, 1) := by decide +kernel
theorem dX5_best_69 : decode cX5_best 69 = .ok (.iconst (-1), 1) := by decide +kernel
theorem dX5_best_70 : decode cX5_best 70 = .ok (.invokevirtual 80, 3) := by decide +kernel
theorem dX5_best_73 : decode cX5_best 73 = .ok (.invokestatic 127, 3) := by decide +kernel
theorem dX5_best_76 : decode cX5_best 76 = .ok (.ifCond .eq 6, 3) := by decide +kernel
theorem dX5_best_79 : decode cX5_best 79 = .ok (.goto 25, 3) := by decide +kernel
theorem dX5_best_82 : decode cX5_best 82 = .ok (.iload_n 2, 1) := by decide +kernel
theorem dX5_best_83 : decode cX5_best 83 = .ok (.iconst (-1), 1) := by decide +kernel
theorem dX5_best_84 : decode cX5_best 84 = .ok (.if_icmp .eq 18, 3) := by decide +kernel
theorem dX5_best_87 : decode cX5_best 87 = .ok (.aload_n 0, 1) := by decide +kernel
theorem dX5_best_88 : decode cX5_best 88 = .ok (.iload_n 3, 1) := by decide +kernel
theorem dX5_best_89 : decode cX5_best 89 = .ok (.iconst 1, 1) := by decide +kernel
theorem dX5_best_90 : decode cX5_best 90 = .ok (.invokevirtual 83, 3) := by decide +kernel
theorem dX5_best_93 : decode cX5_best 93 = .ok (.aload_n 0, 1) := by decide +kernel
theorem dX5_best_94 : decode cX5_best 94 = .ok (.iload_n 2, 1) := by decide +kernel
theorem dX5_best_95 : decode cX5_best 95 = .ok (.iconst 1, 1) := by decide +kernel
theorem dX5_best_96 : decode cX5_best 96 = .ok (.invokevirtual 83, 3) := by decide +kernel
theorem dX5_best_99 : decode cX5_best 99 = .ok (.if_icmp .le 5, 3) := by decide +kernel
theorem dX5_best_102 : decode cX5_best 102 = .ok (.iload_n 3, 1) := by decide +kernel
theorem dX5_best_103 : decode cX5_best 103 = .ok (.istore_n 2, 1) := by decide +kernel
theorem dX5_best_104 : decode cX5_best 104 = .ok (.iinc 3 1, 3) := by decide +kernel
theorem dX5_best_107 : decode cX5_best 107 = .ok (.goto (-84), 3) := by decide +kernel
theorem dX5_best_110 : decode cX5_best 110 = .ok (.iload_n 2, 1) := by decide +kernel
theorem dX5_best_111 : decode cX5_best 111 = .ok (.ireturn, 1) := by decide +kernel
set_option maxRecDepth 20000 in
theorem ggX5_most_X5_pe : GoodIn wsX5_most wsX5_pe := goodIn_r _ [13, 14, 24, 25, 26, 27, 28, 29, 30, 31, 32, 33, 34] (by decide +kernel) (by decide +kernel)
set_option maxRecDepth 20000 in
theorem gX5_most_X5_pe : GoodIn wsX5_most (wsV RX5 92 RX5 yX5_pe wsX5_pe) := goodIn_app (goodIn_of _ (by decide +kernel)) ggX5_most_X5_pe
set_option maxRecDepth 20000 in
theorem ggX5_most_X5_suits : GoodIn wsX5_most wsX5_suits := goodIn_r _ [18, 9, 10, 11, 12, 13, 14, 19, 20, 21, 22, 23, 24, 25, 26, 27, 28, 29, 30, 31, 32, 33, 34] (by decide +kernel) (by decide +kernel)
set_option maxRecDepth 20000 in
theorem gX5_most_X5_suits : GoodIn wsX5_most (wsV RX5 102 RX5 yX5_suits wsX5_suits) := goodIn_app (goodIn_of _ (by decide +kernel)) ggX5_most_X5_suits
theorem dX5_most_0 : decode cX5_most 0 = .ok (.aload_n 0, 1) := by decide +kernel
theorem dX5_most_1 : decode cX5_most 1 = .ok (.iconst 0, 1) := by decide +kernel
theorem dX5_most_2 : decode cX5_most 2 = .ok (.putfield 28, 3) := by decide +kernel
theorem dX5_most_5 : decode cX5_most 5 = .ok (.iconst 0, 1) := by decide +kernel
theorem dX5_most_6 : decode cX5_most 6 = .ok (.istore_n 1, 1) := by decide +kernel
theorem dX5_most_7 : decode cX5_most 7 = .ok (.iconst 0, 1) := by decide +kernel
theorem dX5_most_8 : decode cX5_most 8 = .ok (.istore_n 2, 1) := by decide +kernel
theorem dX5_most_9 : decode cX5_most 9 = .ok (.iload_n 2, 1) := by decide +kernel
theorem dX5_most_10 : decode cX5_most 10 = .ok (.iconst 1, 1) := by decide +kernel
theorem dX5_most_11 : decode cX5_most 11 = .ok (.aload_n 0, 1) := by decide +kernel
theorem dX5_most_12 : decode cX5_most 12 = .ok (.getfield 32, 3) := by decide +kernel
theorem dX5_most_15 : decode cX5_most 15 = .ok (.ishl, 1) := by decide +kernel
theorem dX5_most_16 : decode cX5_most 16 = .ok (.if_icmp .ge 24, 3) := by decide +kernel
theorem dX5_most_19 : decode cX5_most 19 = .ok (.aload_n 0, 1) := by decide +kernel
theorem dX5_most_20 : decode cX5_most 20 = .ok (.getfield 25, 3) := by decide +kernel
theorem dX5_most_23 : decode cX5_most 23 = .ok (.iload_n 2, 1) := by decide +kernel
theorem dX5_most_24 : decode cX5_most 24 = .ok (.iload_n 2, 1) := by decide +kernel
theorem dX5_most_25 : decode cX5_most 25 = .ok (.ifCond .ne 7, 3) := by decide +kernel
theorem dX5_most_28 : decode cX5_most 28 = .ok (.iconst 0, 1) := by decide +kernel
theorem dX5_most_29 : decode cX5_most 29 = .ok (.goto 4, 3) := by decide +kernel
theorem dX5_most_32 : decode cX5_most 32 = .ok (.iconst (-1), 1) := by decide +kernel
theorem dX5_most_33 : decode cX5_most 33 = .ok (.iastore, 1) := by decide +kernel
theorem dX5_most_34 : decode cX5_most 34 = .ok (.iinc 2 1, 3) := by decide +kernel
theorem dX5_most_37 : decode cX5_most 37 = .ok (.goto (-28), 3) := by decide +kernel
theorem dX5_most_40 : decode cX5_most 40 = .ok (.iconst 0, 1) := by decide +kernel
theorem dX5_most_41 : decode cX5_most 41 = .ok (.istore_n 2, 1) := by decide +kernel
theorem dX5_most_42 : decode cX5_most 42 = .ok (.iload_n 2, 1) := by decide +kernel
theorem dX5_most_43 : decode cX5_most 43 = .ok (.aload_n 0, 1) := by decide +kernel
theorem dX5_most_44 : decode cX5_most 44 = .ok (.getfield 42, 3) := by decide +kernel
theorem dX5_most_47 : decode cX5_most 47 = .ok (.if_icmp .ge 134, 3) := by decide +kernel
theorem dX5_most_50 : decode cX5_most 50 = .ok (.aload_n 0, 1) := by decide +kernel
theorem dX5_most_51 : decode cX5_most 51 = .ok (.iload_n 2, 1) := by decide +kernel
theorem dX5_most_52 : decode cX5_most 52 = .ok (.iconst 3, 1) := by decide +kernel
theorem dX5_most_53 : decode cX5_most 53 = .ok (.invokevirtual 92, 3) := by decide +kernel
theorem dX5_most_56 : decode cX5_most 56 = .ok (.iconst (-1), 1) := by decide +kernel
theorem dX5_most_57 : decode cX5_most 57 = .ok (.if_icmp .ne 6, 3) := by decide +kernel
theorem dX5_most_60 : decode cX5_most 60 = .ok (.goto 115, 3) := by decide +kernel
theorem dX5_most_63 : decode cX5_most 63 = .ok (.iconst 1, 1) := by decide +kernel
theorem dX5_most_64 : decode cX5_most 64 = .ok (.aload_n 0, 1) := by decide +kernel
theorem dX5_most_65 : decode cX5_most 65 = .ok (.getfield 32, 3) := by decide +kernel
theorem dX5_most_68 : decode cX5_most 68 = .ok (.ishl, 1) := by decide +kernel
theorem dX5_most_69 : decode cX5_most 69 = .ok (.iconst 1, 1) := by decide +kernel
theorem dX5_most_70 : decode cX5_most 70 = .ok (.isub, 1) := by decide +kernel
theorem dX5_most_71 : decode cX5_most 71 = .ok (.istore_n 3, 1) := by decide +kernel
theorem dX5_most_72 : decode cX5_most 72 = .ok (.iload_n 3, 1) := by decide +kernel
theorem dX5_most_73 : decode cX5_most 73 = .ok (.ifCond .le 102, 3) := by decide +kernel
theorem dX5_most_76 : decode cX5_most 76 = .ok (.iconst 0, 1) := by decide +kernel
theorem dX5_most_77 : decode cX5_most 77 = .ok (.istore 4, 2) := by decide +kernel
theorem dX5_most_79 : decode cX5_most 79 = .ok (.iload 4, 2) := by decide +kernel
theorem dX5_most_81 : decode cX5_most 81 = .ok (.aload_n 0, 1) := by decide +kernel
theorem dX5_most_82 : decode cX5_most 82 = .ok (.getfield 32, 3) := by decide +kernel
theorem dX5_most_85 : decode cX5_most 85 = .ok (.if_icmp .ge 73, 3) := by decide +kernel
theorem dX5_most_88 : decode cX5_most 88 = .ok (.iload_n 3, 1) := by decide +kernel
theorem dX5_most_89 : decode cX5_most 89 = .ok (.iconst 1, 1) := by decide +kernel
theorem dX5_most_90 : decode cX5_most 90 = .ok (.iload 4, 2) := by decide +kernel
theorem dX5_most_92 : decode cX5_most 92 = .ok (.ishl, 1) := by decide +kernel
theorem dX5_most_93 : decode cX5_most 93 = .ok (.ixor, 1) := by decide +kernel
theorem dX5_most_94 : decode cX5_most 94 = .ok (.istore 5, 2) := by decide +kernel
theorem dX5_most_96 : decode cX5_most 96 = .ok (.iload 5, 2) := by decide +kernel
theorem dX5_most_98 : decode cX5_most 98 = .ok (.iload_n 3, 1) := by decide +kernel
theorem dX5_most_99 : decode cX5_most 99 = .ok (.if_icmp .ge 53, 3) := by decide +kernel
theorem dX5_most_102 : decode cX5_most 102 = .ok (.aload_n 0, 1) := by decide +kernel
theorem dX5_most_103 : decode cX5_most 103 = .ok (.getfield 25, 3) := by decide +kernel
theorem dX5_most_106 : decode cX5_most 106 = .ok (.iload 5, 2) := by decide +kernel
theorem dX5_most_108 : decode cX5_most 108 = .ok (.iaload, 1) := by decide +kernel
theorem dX5_most_109 : decode cX5_most 109 = .ok (.iconst (-1), 1) := by decide +kernel
theorem dX5_most_110 : decode cX5_most 110 = .ok (.if_icmp .eq 42, 3) := by decide +kernel
theorem dX5_most_113 : decode cX5_most 113 = .ok (.aload_n 0, 1) := by decide +kernel
theorem dX5_most_114 : decode cX5_most 114 = .ok (.iload_n 2, 1) := by decide +kernel
theorem dX5_most_115 : decode cX5_most 115 = .ok (.iload 4, 2) := by decide +kernel
theorem dX5_most_117 : decode cX5_most 117 = .ok (.invokevirtual 102, 3) := by decide +kernel
theorem dX5_most_120 : decode cX5_most 120 = .ok (.ifCond .eq 32, 3) := by decide +kernel
theorem dX5_most_123 : decode cX5_most 123 = .ok (.aload_n 0, 1) := by decide +kernel
theorem dX5_most_124 : decode cX5_most 124 = .ok (.getfield 25, 3) := by decide +kernel
theorem dX5_most_127 : decode cX5_most 127 = .ok (.iload_n 3, 1) := by decide +kernel
theorem dX5_most_128 : decode cX5_most 128 = .ok (.aload_n 0, 1) := by decide +kernel
theorem dX5_most_129 : decode cX5_most 129 = .ok (.getfield 25, 3) := by decide +kernel
theorem dX5_most_132 : decode cX5_most 132 = .ok (.iload_n 3, 1) := by decide +kernel
theorem dX5_most_133 : decode cX5_most 133 = .ok (.iaload, 1) := by decide +kernel
theorem dX5_most_134 : decode cX5_most 134 = .ok (.aload_n 0, 1) := by decide +kernel
theorem dX5_most_135 : decode cX5_most 135 = .ok (.getfield 25, 3) := by decide +kernel
theorem dX5_most_138 : decode cX5_most 138 = .ok (.iload 5, 2) := by decide +kernel
theorem dX5_most_140 : decode cX5_most 140 = .ok (.iaload, 1) := by decide +kernel
theorem dX5_most_141 : decode cX5_most 141 = .ok (.aload_n 0, 1) := by decide +kernel
theorem dX5_most_142 : decode cX5_most 142 = .ok (.iload_n 2, 1) := by decide +kernel
theorem dX5_most_143 : decode cX5_most 143 = .ok (.iconst 4, 1) := by decide +kernel
theorem dX5_most_144 : decode cX5_most 144 = .ok (.invokevirtual 92, 3) := by decide +kernel
theorem dX5_most_147 : decode cX5_most 147 = .ok (.iadd, 1) := by decide +kernel
theorem dX5_most_148 : decode cX5_most 148 = .ok (.invokestatic 116, 3) := by decide +kernel
theorem dX5_most_151 : decode cX5_most 151 = .ok (.iastore, 1) := by decide +kernel
theorem dX5_most_152 : decode cX5_most 152 = .ok (.iinc 4 1, 3) := by decide +kernel
theorem dX5_most_155 : decode cX5_most 155 = .ok (.goto (-76), 3) := by decide +kernel
theorem dX5_most_158 : decode cX5_most 158 = .ok (.iload_n 1, 1) := by decide +kernel
theorem dX5_most_159 : decode cX5_most 159 = .ok (.aload_n 0, 1) := by decide +kernel
theorem dX5_most_160 : decode cX5_most 160 = .ok (.getfield 25, 3) := by decide +kernel
theorem dX5_most_163 : decode cX5_most 163 = .ok (.iload_n 3, 1) := by decide +kernel
theorem dX5_most_164 : decode cX5_most 164 = .ok (.iaload, 1) := by decide +kernel
theorem dX5_most_165 : decode cX5_most 165 = .ok (.invokestatic 116, 3) := by decide +kernel
theorem dX5_most_168 : decode cX5_most 168 = .ok (.istore_n 1, 1) := by decide +kernel
theorem dX5_most_169 : decode cX5_most 169 = .ok (.iinc 3 (-1), 3) := by decide +kernel
theorem dX5_most_172 : decode cX5_most 172 = .ok (.goto (-100), 3) := by decide +kernel
theorem dX5_most_175 : decode cX5_most 175 = .ok (.iinc 2 1, 3) := by decide +kernel
theorem dX5_most_178 : decode cX5_most 178 = .ok (.goto (-136), 3) := by decide +kernel
theorem dX5_most_181 : decode cX5_most 181 = .ok (.iload_n 1, 1) := by decide +kernel
theorem dX5_most_182 : decode cX5_most 182 = .ok (.ireturn, 1) := by decide +kernel
set_option maxRecDepth 20000 in
theorem ggX5_givenBack_X5_winner : GoodIn wsX5_givenBack wsX5_winner := goodIn_r _ [6, 7, 8, 9, 10, 5, 11, 12, 13, 14, 15, 16, 17, 18, 19, 20, 21, 22, 23, 24, 25, 61, 62, 63, 64, 65, 66, 67, 68, 69, 70, 71] (by decide +kernel) (by decide +kernel)
set_option maxRecDepth 20000 in
theorem gX5_givenBack_X5_winner : GoodIn wsX5_givenBack (wsV RX5 113 RX5 yX5_winner wsX5_winner) := goodIn_app (goodIn_of _ (by decide +kernel)) ggX5_givenBack_X5_winner
set_option maxRecDepth 20000 in
theorem ggX5_givenBack_X5_pe : GoodIn wsX5_givenBack wsX5_pe := goodIn_r _ [15, 16, 61, 62, 63, 64, 65, 66, 67, 68, 69, 70, 71] (by decide +kernel) (by decide +kernel)
set_option maxRecDepth 20000 in
theorem gX5_givenBack_X5_pe : GoodIn wsX5_givenBack (wsV RX5 92 RX5 yX5_pe wsX5_pe) := goodIn_app (goodIn_of _ (by decide +kernel)) ggX5_givenBack_X5_pe
set_option maxRecDepth 20000 in
theorem ggX5_givenBack_X5_haunted : GoodIn wsX5_givenBack wsX5_haunted := goodIn_r _ [29, 30, 31, 32, 33, 5, 34, 35, 36, 37, 38, 39, 40, 41, 42, 43, 44, 45, 46, 47, 48, 49, 61, 62, 63, 64, 65, 66, 67, 68, 69, 70, 71] (by decide +kernel) (by decide +kernel)
set_option maxRecDepth 20000 in
theorem gX5_givenBack_X5_haunted : GoodIn wsX5_givenBack (wsV RX5 80 RX5 yX5_haunted wsX5_haunted) := goodIn_app (goodIn_of _ (by decide +kernel)) ggX5_givenBack_X5_haunted
set_option maxRecDepth 20000 in
theorem ggX5_givenBack_X5_isBad : GoodIn wsX5_givenBack wsX5_isBad := goodIn_r _ [52] (by decide +kernel) (by decide +kernel)
set_option maxRecDepth 20000 in
theorem gX5_givenBack_X5_isBad : GoodIn wsX5_givenBack (va_wsS RX5 127 yX5_isBad wsX5_isBad) := goodIn_app (goodIn_of _ (by decide +kernel)) ggX5_givenBack_X5_isBad
set_option maxRecDepth 20000 in
theorem ggX5_givenBack_X5_pays : GoodIn wsX5_givenBack wsX5_pays := goodIn_r _ [56, 7, 57, 58, 59, 60, 2, 3, 4, 5, 6, 8, 9, 10, 11, 12, 13, 14, 15, 16, 17, 18, 19, 20, 21, 22, 23, 24, 25, 61, 62, 63, 64, 65, 66, 67, 68, 69, 70, 71] (by decide +kernel) (by decide +kernel)
set_option maxRecDepth 20000 in
theorem gX5_givenBack_X5_pays : GoodIn wsX5_givenBack (wsV RX5 121 RX5 yX5_pays wsX5_pays) := goodIn_app (goodIn_of _ (by decide +kernel)) ggX5_givenBack_X5_pays
theorem dX5_givenBack_0 : decode cX5_givenBack 0 = .ok (.iconst 0, 1) := by decide +kernel
theorem dX5_givenBack_1 : decode cX5_givenBack 1 = .ok (.istore_n 2, 1) := by decide +kernel
theorem dX5_givenBack_2 : decode cX5_givenBack 2 = .ok (.iconst 0, 1) := by decide +kernel
theorem dX5_givenBack_3 : decode cX5_givenBack 3 = .ok (.istore_n 3, 1) := by decide +kernel
theorem dX5_givenBack_4 : decode cX5_givenBack 4 = .ok (.iload_n 3, 1) := by decide +kernel
theorem dX5_givenBack_5 : decode cX5_givenBack 5 = .ok (.aload_n 0, 1) := by decide +kernel
theorem dX5_givenBack_6 : decode cX5_givenBack 6 = .ok (.getfield 32, 3) := by decide +kernel
theorem dX5_givenBack_9 : decode cX5_givenBack 9 = .ok (.if_icmp .ge 50, 3) := by decide +kernel
theorem dX5_givenBack_12 : decode cX5_givenBack 12 = .ok (.aload_n 0, 1) := by decide +kernel
theorem dX5_givenBack_13 : decode cX5_givenBack 13 = .ok (.iload_n 3, 1) := by decide +kernel
theorem dX5_givenBack_14 : decode cX5_givenBack 14 = .ok (.invokevirtual 113, 3) := by decide +kernel
theorem dX5_givenBack_17 : decode cX5_givenBack 17 = .ok (.iconst (-1), 1) := by decide +kernel
theorem dX5_givenBack_18 : decode cX5_givenBack 18 = .ok (.if_icmp .eq 35, 3) := by decide +kernel
theorem dX5_givenBack_21 : decode cX5_givenBack 21 = .ok (.aload_n 0, 1) := by decide +kernel
theorem dX5_givenBack_22 : decode cX5_givenBack 22 = .ok (.aload_n 0, 1) := by decide +kernel
theorem dX5_givenBack_23 : decode cX5_givenBack 23 = .ok (.iload_n 3, 1) := by decide +kernel
theorem dX5_givenBack_24 : decode cX5_givenBack 24 = .ok (.invokevirtual 113, 3) := by decide +kernel
theorem dX5_givenBack_27 : decode cX5_givenBack 27 = .ok (.iconst 2, 1) := by decide +kernel
theorem dX5_givenBack_28 : decode cX5_givenBack 28 = .ok (.invokevirtual 92, 3) := by decide +kernel
theorem dX5_givenBack_31 : decode cX5_givenBack 31 = .ok (.aload_n 0, 1) := by decide +kernel
theorem dX5_givenBack_32 : decode cX5_givenBack 32 = .ok (.iload_n 3, 1) := by decide +kernel
theorem dX5_givenBack_33 : decode cX5_givenBack 33 = .ok (.iload_n 1, 1) := by decide +kernel
theorem dX5_givenBack_34 : decode cX5_givenBack 34 = .ok (.invokevirtual 80, 3) := by decide +kernel
theorem dX5_givenBack_37 : decode cX5_givenBack 37 = .ok (.invokestatic 127, 3) := by decide +kernel
theorem dX5_givenBack_40 : decode cX5_givenBack 40 = .ok (.ifCond .eq 13, 3) := by decide +kernel
theorem dX5_givenBack_43 : decode cX5_givenBack 43 = .ok (.iload_n 2, 1) := by decide +kernel
theorem dX5_givenBack_44 : decode cX5_givenBack 44 = .ok (.aload_n 0, 1) := by decide +kernel
theorem dX5_givenBack_45 : decode cX5_givenBack 45 = .ok (.iload_n 3, 1) := by decide +kernel
theorem dX5_givenBack_46 : decode cX5_givenBack 46 = .ok (.invokevirtual 121, 3) := by decide +kernel
theorem dX5_givenBack_49 : decode cX5_givenBack 49 = .ok (.iconst 2, 1) := by decide +kernel
theorem dX5_givenBack_50 : decode cX5_givenBack 50 = .ok (.idiv, 1) := by decide +kernel
theorem dX5_givenBack_51 : decode cX5_givenBack 51 = .ok (.iadd, 1) := by decide +kernel
theorem dX5_givenBack_52 : decode cX5_givenBack 52 = .ok (.istore_n 2, 1) := by decide +kernel
theorem dX5_givenBack_53 : decode cX5_givenBack 53 = .ok (.iinc 3 1, 3) := by decide +kernel
theorem dX5_givenBack_56 : decode cX5_givenBack 56 = .ok (.goto (-52), 3) := by decide +kernel
theorem dX5_givenBack_59 : decode cX5_givenBack 59 = .ok (.iload_n 2, 1) := by decide +kernel
theorem dX5_givenBack_60 : decode cX5_givenBack 60 = .ok (.ireturn, 1) := by decide +kernel
set_option maxRecDepth 20000 in
theorem ggX5_scares_X5_isGhost : GoodIn wsX5_scares wsX5_isGhost := goodIn_r _ [6, 7, 8, 9, 5, 10, 77, 78, 79, 80, 81, 82, 83, 84, 85, 86, 87] (by decide +kernel) (by decide +kernel)
set_option maxRecDepth 20000 in
theorem gX5_scares_X5_isGhost : GoodIn wsX5_scares (wsV RX5 74 RX5 yX5_isGhost wsX5_isGhost) := goodIn_app (goodIn_of _ (by decide +kernel)) ggX5_scares_X5_isGhost
set_option maxRecDepth 20000 in
theorem ggX5_scares_X5_givenBack : GoodIn wsX5_scares wsX5_givenBack := goodIn_r _ [14, 15, 16, 17, 18, 5, 19, 20, 21, 22, 23, 24, 25, 26, 27, 28, 29, 30, 31, 32, 33, 34, 35, 36, 37, 38, 39, 40, 41, 42, 7, 43, 44, 45, 46, 47, 48, 49, 50, 51, 52, 53, 54, 55, 56, 57, 58, 59, 60, 61, 62, 63, 64, 65, 66, 67, 68, 69, 70, 71, 72, 77, 78, 79, 80, 81, 82, 83, 84, 85, 86, 87] (by decide +kernel) (by decide +kernel)
set_option maxRecDepth 20000 in
theorem gX5_scares_X5_givenBack : GoodIn wsX5_scares (wsV RX5 139 RX5 yX5_givenBack wsX5_givenBack) := goodIn_app (goodIn_of _ (by decide +kernel)) ggX5_scares_X5_givenBack
set_option maxRecDepth 20000 in
theorem ggX5_scares_X5_fail : GoodIn wsX5_scares wsX5_fail := goodIn_r _ [76, 1, 77, 78, 79, 80, 81, 82, 83, 84, 85, 86, 87] (by decide +kernel) (by decide +kernel)
set_option maxRecDepth 20000 in
theorem gX5_scares_X5_fail : GoodIn wsX5_scares (wsV RX5 45 RX5 yX5_fail wsX5_fail) := goodIn_app (goodIn_of _ (by decide +kernel)) ggX5_scares_X5_fail
theorem dX5_scares_0 : decode cX5_scares 0 = .ok (.aload_n 0, 1) := by decide +kernel
theorem dX5_scares_1 : decode cX5_scares 1 = .ok (.iconst 0, 1) := by decide +kernel
theorem dX5_scares_2 : decode cX5_scares 2 = .ok (.putfield 28, 3) := by decide +kernel
theorem dX5_scares_5 : decode cX5_scares 5 = .ok (.aload_n 0, 1) := by decide +kernel
theorem dX5_scares_6 : decode cX5_scares 6 = .ok (.iload_n 1, 1) := by decide +kernel
theorem dX5_scares_7 : decode cX5_scares 7 = .ok (.invokevirtual 74, 3) := by decide +kernel
theorem dX5_scares_10 : decode cX5_scares 10 = .ok (.ifCond .eq 17, 3) := by decide +kernel
theorem dX5_scares_13 : decode cX5_scares 13 = .ok (.aload_n 0, 1) := by decide +kernel
theorem dX5_scares_14 : decode cX5_scares 14 = .ok (.iconst (-1), 1) := by decide +kernel
theorem dX5_scares_15 : decode cX5_scares 15 = .ok (.invokevirtual 139, 3) := by decide +kernel
theorem dX5_scares_18 : decode cX5_scares 18 = .ok (.aload_n 0, 1) := by decide +kernel
theorem dX5_scares_19 : decode cX5_scares 19 = .ok (.iload_n 1, 1) := by decide +kernel
theorem dX5_scares_20 : decode cX5_scares 20 = .ok (.invokevirtual 139, 3) := by decide +kernel
theorem dX5_scares_23 : decode cX5_scares 23 = .ok (.isub, 1) := by decide +kernel
theorem dX5_scares_24 : decode cX5_scares 24 = .ok (.goto 8, 3) := by decide +kernel
theorem dX5_scares_27 : decode cX5_scares 27 = .ok (.aload_n 0, 1) := by decide +kernel
theorem dX5_scares_28 : decode cX5_scares 28 = .ok (.iconst 1, 1) := by decide +kernel
theorem dX5_scares_29 : decode cX5_scares 29 = .ok (.invokevirtual 45, 3) := by decide +kernel
theorem dX5_scares_32 : decode cX5_scares 32 = .ok (.ireturn, 1) := by decide +kernel
set_option maxRecDepth 20000 in
theorem ggX5_mean_X5_ro : GoodIn wsX5_mean wsX5_ro := goodIn_r _ [8, 9, 10, 11, 12, 13, 14, 15, 16, 17, 18, 19, 20] (by decide +kernel) (by decide +kernel)
set_option maxRecDepth 20000 in
theorem gX5_mean_X5_ro : GoodIn wsX5_mean (wsV RX5 83 RX5 yX5_ro wsX5_ro) := goodIn_app (goodIn_of _ (by decide +kernel)) ggX5_mean_X5_ro
theorem dX5_mean_0 : decode cX5_mean 0 = .ok (.aload_n 0, 1) := by decide +kernel
theorem dX5_mean_1 : decode cX5_mean 1 = .ok (.iconst 0, 1) := by decide +kernel
theorem dX5_mean_2 : decode cX5_mean 2 = .ok (.putfield 28, 3) := by decide +kernel
theorem dX5_mean_5 : decode cX5_mean 5 = .ok (.iconst 0, 1) := by decide +kernel
theorem dX5_mean_6 : decode cX5_mean 6 = .ok (.istore_n 1, 1) := by decide +kernel
theorem dX5_mean_7 : decode cX5_mean 7 = .ok (.iconst 0, 1) := by decide +kernel
theorem dX5_mean_8 : decode cX5_mean 8 = .ok (.istore_n 2, 1) := by decide +kernel
theorem dX5_mean_9 : decode cX5_mean 9 = .ok (.iload_n 2, 1) := by decide +kernel
theorem dX5_mean_10 : decode cX5_mean 10 = .ok (.aload_n 0, 1) := by decide +kernel
theorem dX5_mean_11 : decode cX5_mean 11 = .ok (.getfield 32, 3) := by decide +kernel
theorem dX5_mean_14 : decode cX5_mean 14 = .ok (.if_icmp .ge 18, 3) := by decide +kernel
theorem dX5_mean_17 : decode cX5_mean 17 = .ok (.iload_n 1, 1) := by decide +kernel
theorem dX5_mean_18 : decode cX5_mean 18 = .ok (.aload_n 0, 1) := by decide +kernel
theorem dX5_mean_19 : decode cX5_mean 19 = .ok (.iload_n 2, 1) := by decide +kernel
theorem dX5_mean_20 : decode cX5_mean 20 = .ok (.iconst 3, 1) := by decide +kernel
theorem dX5_mean_21 : decode cX5_mean 21 = .ok (.invokevirtual 83, 3) := by decide +kernel
theorem dX5_mean_24 : decode cX5_mean 24 = .ok (.iadd, 1) := by decide +kernel
theorem dX5_mean_25 : decode cX5_mean 25 = .ok (.istore_n 1, 1) := by decide +kernel
theorem dX5_mean_26 : decode cX5_mean 26 = .ok (.iinc 2 1, 3) := by decide +kernel
theorem dX5_mean_29 : decode cX5_mean 29 = .ok (.goto (-20), 3) := by decide +kernel
theorem dX5_mean_32 : decode cX5_mean 32 = .ok (.iload_n 1, 1) := by decide +kernel
theorem dX5_mean_33 : decode cX5_mean 33 = .ok (.ifCond .ne 7, 3) := by decide +kernel
theorem dX5_mean_36 : decode cX5_mean 36 = .ok (.dconst 0, 1) := by decide +kernel
theorem dX5_mean_37 : decode cX5_mean 37 = .ok (.goto 13, 3) := by decide +kernel
theorem dX5_mean_40 : decode cX5_mean 40 = .ok (.aload_n 0, 1) := by decide +kernel
theorem dX5_mean_41 : decode cX5_mean 41 = .ok (.getfield 22, 3) := by decide +kernel
theorem dX5_mean_44 : decode cX5_mean 44 = .ok (.iconst 1, 1) := by decide +kernel
theorem dX5_mean_45 : decode cX5_mean 45 = .ok (.iaload, 1) := by decide +kernel
theorem dX5_mean_46 : decode cX5_mean 46 = .ok (.i2d, 1) := by decide +kernel
theorem dX5_mean_47 : decode cX5_mean 47 = .ok (.iload_n 1, 1) := by decide +kernel
theorem dX5_mean_48 : decode cX5_mean 48 = .ok (.i2d, 1) := by decide +kernel
theorem dX5_mean_49 : decode cX5_mean 49 = .ok (.ddiv, 1) := by decide +kernel
theorem dX5_mean_50 : decode cX5_mean 50 = .ok (.dreturn, 1) := by decide +kernel
set_option maxRecDepth 20000 in
theorem ggX5_digest_X5_counted : GoodIn wsX5_digest wsX5_counted := goodIn_r _ [11, 12, 4, 13, 5, 6, 14, 15, 16, 10, 17, 18, 19, 20, 21, 22, 23, 24, 25, 26, 27, 28, 29, 30, 31, 32, 33, 34, 35, 81, 82, 83, 84, 85, 86, 87, 88, 89, 90, 91] (by decide +kernel) (by decide +kernel)
set_option maxRecDepth 20000 in
theorem gX5_digest_X5_counted : GoodIn wsX5_digest (wsV RX5 136 RX5 yX5_counted wsX5_counted) := goodIn_app (goodIn_of _ (by decide +kernel)) ggX5_digest_X5_counted
set_option maxRecDepth 20000 in
theorem ggX5_digest_X5_roomTold : GoodIn wsX5_digest wsX5_roomTold := goodIn_r _ [39, 40, 31, 32, 33, 10, 34, 35, 41, 42, 43, 44, 45, 46, 47, 81, 82, 83, 84, 85, 86, 87, 88, 89, 90, 91] (by decide +kernel) (by decide +kernel)
set_option maxRecDepth 20000 in
theorem gX5_digest_X5_roomTold : GoodIn wsX5_digest (wsV RX5 89 RX5 yX5_roomTold wsX5_roomTold) := goodIn_app (goodIn_of _ (by decide +kernel)) ggX5_digest_X5_roomTold
set_option maxRecDepth 20000 in
theorem ggX5_digest_X5_won : GoodIn wsX5_digest wsX5_won := goodIn_r _ [51, 6, 19, 20, 21, 10, 22, 23, 24, 25, 26, 14, 15, 16, 17, 18, 27, 28, 29, 30, 31, 32, 33, 34, 35, 52, 53, 54, 55, 56, 57, 58, 59, 81, 82, 83, 84, 85, 86, 87, 88, 89, 90, 91] (by decide +kernel) (by decide +kernel)
set_option maxRecDepth 20000 in
theorem gX5_digest_X5_won : GoodIn wsX5_digest (wsV RX5 124 RX5 yX5_won wsX5_won) := goodIn_app (goodIn_of _ (by decide +kernel)) ggX5_digest_X5_won
set_option maxRecDepth 20000 in
theorem ggX5_digest_X5_haunted : GoodIn wsX5_digest wsX5_haunted := goodIn_r _ [63, 5, 64, 65, 66, 10, 67, 68, 69, 70, 71, 72, 73, 74, 75, 76, 40, 77, 78, 43, 79, 80, 81, 82, 83, 84, 85, 86, 87, 88, 89, 90, 91] (by decide +kernel) (by decide +kernel)
set_option maxRecDepth 20000 in
theorem gX5_digest_X5_haunted : GoodIn wsX5_digest (wsV RX5 80 RX5 yX5_haunted wsX5_haunted) := goodIn_app (goodIn_of _ (by decide +kernel)) ggX5_digest_X5_haunted
set_option maxRecDepth 20000 in
theorem ggX5_digest_X5_place : GoodIn wsX5_digest wsX5_place := goodIn_r _ [67, 68, 69, 70, 10, 71, 72, 73, 74, 75, 76, 40, 77, 78, 43, 79, 80, 81, 82, 83, 84, 85, 86, 87, 88, 89, 90, 91] (by decide +kernel) (by decide +kernel)
set_option maxRecDepth 20000 in
theorem gX5_digest_X5_place : GoodIn wsX5_digest (wsV RX5 77 RX5 yX5_place wsX5_place) := goodIn_app (goodIn_of _ (by decide +kernel)) ggX5_digest_X5_place
set_option maxRecDepth 20000 in
theorem ggX5_digest_X5_pe : GoodIn wsX5_digest wsX5_pe := goodIn_r _ [17, 18, 81, 82, 83, 84, 85, 86, 87, 88, 89, 90, 91] (by decide +kernel) (by decide +kernel)
set_option maxRecDepth 20000 in
theorem gX5_digest_X5_pe : GoodIn wsX5_digest (wsV RX5 92 RX5 yX5_pe wsX5_pe) := goodIn_app (goodIn_of _ (by decide +kernel)) ggX5_digest_X5_pe
theorem dX5_digest_0 : decode cX5_digest 0 = .ok (.aload_n 0, 1) := by decide +kernel
theorem dX5_digest_1 : decode cX5_digest 1 = .ok (.iconst 0, 1) := by decide +kernel
theorem dX5_digest_2 : decode cX5_digest 2 = .ok (.putfield 28, 3) := by decide +kernel
theorem dX5_digest_5 : decode cX5_digest 5 = .ok (.ldc2_w 142, 3) := by decide +kernel
theorem dX5_digest_8 : decode cX5_digest 8 = .ok (.lstore_n 1, 1) := by decide +kernel
theorem dX5_digest_9 : decode cX5_digest 9 = .ok (.iconst 0, 1) := by decide +kernel
theorem dX5_digest_10 : decode cX5_digest 10 = .ok (.istore_n 3, 1) := by decide +kernel
theorem dX5_digest_11 : decode cX5_digest 11 = .ok (.iload_n 3, 1) := by decide +kernel
theorem dX5_digest_12 : decode cX5_digest 12 = .ok (.bipush 9, 2) := by decide +kernel
theorem dX5_digest_14 : decode cX5_digest 14 = .ok (.if_icmp .ge 22, 3) := by decide +kernel
theorem dX5_digest_17 : decode cX5_digest 17 = .ok (.lload_n 1, 1) := by decide +kernel
theorem dX5_digest_18 : decode cX5_digest 18 = .ok (.ldc2_w 144, 3) := by decide +kernel
theorem dX5_digest_21 : decode cX5_digest 21 = .ok (.lmul, 1) := by decide +kernel
theorem dX5_digest_22 : decode cX5_digest 22 = .ok (.aload_n 0, 1) := by decide +kernel
theorem dX5_digest_23 : decode cX5_digest 23 = .ok (.iload_n 3, 1) := by decide +kernel
theorem dX5_digest_24 : decode cX5_digest 24 = .ok (.invokevirtual 136, 3) := by decide +kernel
theorem dX5_digest_27 : decode cX5_digest 27 = .ok (.i2l, 1) := by decide +kernel
theorem dX5_digest_28 : decode cX5_digest 28 = .ok (.ladd, 1) := by decide +kernel
theorem dX5_digest_29 : decode cX5_digest 29 = .ok (.lstore_n 1, 1) := by decide +kernel
theorem dX5_digest_30 : decode cX5_digest 30 = .ok (.iinc 3 1, 3) := by decide +kernel
theorem dX5_digest_33 : decode cX5_digest 33 = .ok (.goto (-22), 3) := by decide +kernel
theorem dX5_digest_36 : decode cX5_digest 36 = .ok (.iconst 0, 1) := by decide +kernel
theorem dX5_digest_37 : decode cX5_digest 37 = .ok (.istore_n 3, 1) := by decide +kernel
theorem dX5_digest_38 : decode cX5_digest 38 = .ok (.iload_n 3, 1) := by decide +kernel
theorem dX5_digest_39 : decode cX5_digest 39 = .ok (.aload_n 0, 1) := by decide +kernel
theorem dX5_digest_40 : decode cX5_digest 40 = .ok (.getfield 32, 3) := by decide +kernel
theorem dX5_digest_43 : decode cX5_digest 43 = .ok (.if_icmp .ge 84, 3) := by decide +kernel
theorem dX5_digest_46 : decode cX5_digest 46 = .ok (.iconst 0, 1) := by decide +kernel
theorem dX5_digest_47 : decode cX5_digest 47 = .ok (.istore 4, 2) := by decide +kernel
theorem dX5_digest_49 : decode cX5_digest 49 = .ok (.iload 4, 2) := by decide +kernel
theorem dX5_digest_51 : decode cX5_digest 51 = .ok (.bipush 6, 2) := by decide +kernel
theorem dX5_digest_53 : decode cX5_digest 53 = .ok (.if_icmp .ge 24, 3) := by decide +kernel
theorem dX5_digest_56 : decode cX5_digest 56 = .ok (.lload_n 1, 1) := by decide +kernel
theorem dX5_digest_57 : decode cX5_digest 57 = .ok (.ldc2_w 144, 3) := by decide +kernel
theorem dX5_digest_60 : decode cX5_digest 60 = .ok (.lmul, 1) := by decide +kernel
theorem dX5_digest_61 : decode cX5_digest 61 = .ok (.aload_n 0, 1) := by decide +kernel
theorem dX5_digest_62 : decode cX5_digest 62 = .ok (.iload_n 3, 1) := by decide +kernel
theorem dX5_digest_63 : decode cX5_digest 63 = .ok (.iload 4, 2) := by decide +kernel
theorem dX5_digest_65 : decode cX5_digest 65 = .ok (.invokevirtual 89, 3) := by decide +kernel
theorem dX5_digest_68 : decode cX5_digest 68 = .ok (.i2l, 1) := by decide +kernel
theorem dX5_digest_69 : decode cX5_digest 69 = .ok (.ladd, 1) := by decide +kernel
theorem dX5_digest_70 : decode cX5_digest 70 = .ok (.lstore_n 1, 1) := by decide +kernel
theorem dX5_digest_71 : decode cX5_digest 71 = .ok (.iinc 4 1, 3) := by decide +kernel
theorem dX5_digest_74 : decode cX5_digest 74 = .ok (.goto (-25), 3) := by decide +kernel
theorem dX5_digest_77 : decode cX5_digest 77 = .ok (.iconst 0, 1) := by decide +kernel
theorem dX5_digest_78 : decode cX5_digest 78 = .ok (.istore 4, 2) := by decide +kernel
theorem dX5_digest_80 : decode cX5_digest 80 = .ok (.iload 4, 2) := by decide +kernel
theorem dX5_digest_82 : decode cX5_digest 82 = .ok (.iconst 3, 1) := by decide +kernel
theorem dX5_digest_83 : decode cX5_digest 83 = .ok (.if_icmp .ge 24, 3) := by decide +kernel
theorem dX5_digest_86 : decode cX5_digest 86 = .ok (.lload_n 1, 1) := by decide +kernel
theorem dX5_digest_87 : decode cX5_digest 87 = .ok (.ldc2_w 144, 3) := by decide +kernel
theorem dX5_digest_90 : decode cX5_digest 90 = .ok (.lmul, 1) := by decide +kernel
theorem dX5_digest_91 : decode cX5_digest 91 = .ok (.aload_n 0, 1) := by decide +kernel
theorem dX5_digest_92 : decode cX5_digest 92 = .ok (.iload_n 3, 1) := by decide +kernel
theorem dX5_digest_93 : decode cX5_digest 93 = .ok (.iload 4, 2) := by decide +kernel
theorem dX5_digest_95 : decode cX5_digest 95 = .ok (.invokevirtual 124, 3) := by decide +kernel
theorem dX5_digest_98 : decode cX5_digest 98 = .ok (.i2l, 1) := by decide +kernel
theorem dX5_digest_99 : decode cX5_digest 99 = .ok (.ladd, 1) := by decide +kernel
theorem dX5_digest_100 : decode cX5_digest 100 = .ok (.lstore_n 1, 1) := by decide +kernel
theorem dX5_digest_101 : decode cX5_digest 101 = .ok (.iinc 4 1, 3) := by decide +kernel
theorem dX5_digest_104 : decode cX5_digest 104 = .ok (.goto (-24), 3) := by decide +kernel
theorem dX5_digest_107 : decode cX5_digest 107 = .ok (.lload_n 1, 1) := by decide +kernel
theorem dX5_digest_108 : decode cX5_digest 108 = .ok (.ldc2_w 144, 3) := by decide +kernel
theorem dX5_digest_111 : decode cX5_digest 111 = .ok (.lmul, 1) := by decide +kernel
theorem dX5_digest_112 : decode cX5_digest 112 = .ok (.aload_n 0, 1) := by decide +kernel
theorem dX5_digest_113 : decode cX5_digest 113 = .ok (.iload_n 3, 1) := by decide +kernel
theorem dX5_digest_114 : decode cX5_digest 114 = .ok (.iconst (-1), 1) := by decide +kernel
theorem dX5_digest_115 : decode cX5_digest 115 = .ok (.invokevirtual 80, 3) := by decide +kernel
theorem dX5_digest_118 : decode cX5_digest 118 = .ok (.i2l, 1) := by decide +kernel
theorem dX5_digest_119 : decode cX5_digest 119 = .ok (.ladd, 1) := by decide +kernel
theorem dX5_digest_120 : decode cX5_digest 120 = .ok (.lstore_n 1, 1) := by decide +kernel
theorem dX5_digest_121 : decode cX5_digest 121 = .ok (.iinc 3 1, 3) := by decide +kernel
theorem dX5_digest_124 : decode cX5_digest 124 = .ok (.goto (-86), 3) := by decide +kernel
theorem dX5_digest_127 : decode cX5_digest 127 = .ok (.iconst 0, 1) := by decide +kernel
theorem dX5_digest_128 : decode cX5_digest 128 = .ok (.istore_n 3, 1) := by decide +kernel
theorem dX5_digest_129 : decode cX5_digest 129 = .ok (.iload_n 3, 1) := by decide +kernel
theorem dX5_digest_130 : decode cX5_digest 130 = .ok (.aload_n 0, 1) := by decide +kernel
theorem dX5_digest_131 : decode cX5_digest 131 = .ok (.getfield 39, 3) := by decide +kernel
theorem dX5_digest_134 : decode cX5_digest 134 = .ok (.if_icmp .ge 40, 3) := by decide +kernel
theorem dX5_digest_137 : decode cX5_digest 137 = .ok (.iconst 0, 1) := by decide +kernel
theorem dX5_digest_138 : decode cX5_digest 138 = .ok (.istore 4, 2) := by decide +kernel
theorem dX5_digest_140 : decode cX5_digest 140 = .ok (.iload 4, 2) := by decide +kernel
theorem dX5_digest_142 : decode cX5_digest 142 = .ok (.bipush 12, 2) := by decide +kernel
theorem dX5_digest_144 : decode cX5_digest 144 = .ok (.if_icmp .ge 24, 3) := by decide +kernel
theorem dX5_digest_147 : decode cX5_digest 147 = .ok (.lload_n 1, 1) := by decide +kernel
theorem dX5_digest_148 : decode cX5_digest 148 = .ok (.ldc2_w 144, 3) := by decide +kernel
theorem dX5_digest_151 : decode cX5_digest 151 = .ok (.lmul, 1) := by decide +kernel
theorem dX5_digest_152 : decode cX5_digest 152 = .ok (.aload_n 0, 1) := by decide +kernel
theorem dX5_digest_153 : decode cX5_digest 153 = .ok (.iload_n 3, 1) := by decide +kernel
theorem dX5_digest_154 : decode cX5_digest 154 = .ok (.iload 4, 2) := by decide +kernel
theorem dX5_digest_156 : decode cX5_digest 156 = .ok (.invokevirtual 77, 3) := by decide +kernel
theorem dX5_digest_159 : decode cX5_digest 159 = .ok (.i2l, 1) := by decide +kernel
theorem dX5_digest_160 : decode cX5_digest 160 = .ok (.ladd, 1) := by decide +kernel
theorem dX5_digest_161 : decode cX5_digest 161 = .ok (.lstore_n 1, 1) := by decide +kernel
theorem dX5_digest_162 : decode cX5_digest 162 = .ok (.iinc 4 1, 3) := by decide +kernel
theorem dX5_digest_165 : decode cX5_digest 165 = .ok (.goto (-25), 3) := by decide +kernel
theorem dX5_digest_168 : decode cX5_digest 168 = .ok (.iinc 3 1, 3) := by decide +kernel
theorem dX5_digest_171 : decode cX5_digest 171 = .ok (.goto (-42), 3) := by decide +kernel
theorem dX5_digest_174 : decode cX5_digest 174 = .ok (.iconst 0, 1) := by decide +kernel
theorem dX5_digest_175 : decode cX5_digest 175 = .ok (.istore_n 3, 1) := by decide +kernel
theorem dX5_digest_176 : decode cX5_digest 176 = .ok (.iload_n 3, 1) := by decide +kernel
theorem dX5_digest_177 : decode cX5_digest 177 = .ok (.aload_n 0, 1) := by decide +kernel
theorem dX5_digest_178 : decode cX5_digest 178 = .ok (.getfield 42, 3) := by decide +kernel
theorem dX5_digest_181 : decode cX5_digest 181 = .ok (.if_icmp .ge 40, 3) := by decide +kernel
theorem dX5_digest_184 : decode cX5_digest 184 = .ok (.iconst 0, 1) := by decide +kernel
theorem dX5_digest_185 : decode cX5_digest 185 = .ok (.istore 4, 2) := by decide +kernel
theorem dX5_digest_187 : decode cX5_digest 187 = .ok (.iload 4, 2) := by decide +kernel
theorem dX5_digest_189 : decode cX5_digest 189 = .ok (.bipush 7, 2) := by decide +kernel
theorem dX5_digest_191 : decode cX5_digest 191 = .ok (.if_icmp .ge 24, 3) := by decide +kernel
theorem dX5_digest_194 : decode cX5_digest 194 = .ok (.lload_n 1, 1) := by decide +kernel
theorem dX5_digest_195 : decode cX5_digest 195 = .ok (.ldc2_w 144, 3) := by decide +kernel
theorem dX5_digest_198 : decode cX5_digest 198 = .ok (.lmul, 1) := by decide +kernel
theorem dX5_digest_199 : decode cX5_digest 199 = .ok (.aload_n 0, 1) := by decide +kernel
theorem dX5_digest_200 : decode cX5_digest 200 = .ok (.iload_n 3, 1) := by decide +kernel
theorem dX5_digest_201 : decode cX5_digest 201 = .ok (.iload 4, 2) := by decide +kernel
theorem dX5_digest_203 : decode cX5_digest 203 = .ok (.invokevirtual 92, 3) := by decide +kernel
theorem dX5_digest_206 : decode cX5_digest 206 = .ok (.i2l, 1) := by decide +kernel
theorem dX5_digest_207 : decode cX5_digest 207 = .ok (.ladd, 1) := by decide +kernel
theorem dX5_digest_208 : decode cX5_digest 208 = .ok (.lstore_n 1, 1) := by decide +kernel
theorem dX5_digest_209 : decode cX5_digest 209 = .ok (.iinc 4 1, 3) := by decide +kernel
theorem dX5_digest_212 : decode cX5_digest 212 = .ok (.goto (-25), 3) := by decide +kernel
theorem dX5_digest_215 : decode cX5_digest 215 = .ok (.iinc 3 1, 3) := by decide +kernel
theorem dX5_digest_218 : decode cX5_digest 218 = .ok (.goto (-42), 3) := by decide +kernel
theorem dX5_digest_221 : decode cX5_digest 221 = .ok (.lload_n 1, 1) := by decide +kernel
theorem dX5_digest_222 : decode cX5_digest 222 = .ok (.lreturn, 1) := by decide +kernel
theorem dJ6_numberOfTrailingZeros_0f7a4_0 : decode cJ6_numberOfTrailingZeros_0f7a4 0 = .ok (.iload_n 0, 1) := by decide +kernel
theorem dJ6_numberOfTrailingZeros_0f7a4_1 : decode cJ6_numberOfTrailingZeros_0f7a4 1 = .ok (.iconst (-1), 1) := by decide +kernel
theorem dJ6_numberOfTrailingZeros_0f7a4_2 : decode cJ6_numberOfTrailingZeros_0f7a4 2 = .ok (.ixor, 1) := by decide +kernel
theorem dJ6_numberOfTrailingZeros_0f7a4_3 : decode cJ6_numberOfTrailingZeros_0f7a4 3 = .ok (.iload_n 0, 1) := by decide +kernel
theorem dJ6_numberOfTrailingZeros_0f7a4_4 : decode cJ6_numberOfTrailingZeros_0f7a4 4 = .ok (.iconst 1, 1) := by decide +kernel
theorem dJ6_numberOfTrailingZeros_0f7a4_5 : decode cJ6_numberOfTrailingZeros_0f7a4 5 = .ok (.isub, 1) := by decide +kernel
theorem dJ6_numberOfTrailingZeros_0f7a4_6 : decode cJ6_numberOfTrailingZeros_0f7a4 6 = .ok (.iand, 1) := by decide +kernel
theorem dJ6_numberOfTrailingZeros_0f7a4_7 : decode cJ6_numberOfTrailingZeros_0f7a4 7 = .ok (.istore_n 0, 1) := by decide +kernel
theorem dJ6_numberOfTrailingZeros_0f7a4_8 : decode cJ6_numberOfTrailingZeros_0f7a4 8 = .ok (.iload_n 0, 1) := by decide +kernel
theorem dJ6_numberOfTrailingZeros_0f7a4_9 : decode cJ6_numberOfTrailingZeros_0f7a4 9 = .ok (.ifCond .gt 8, 3) := by decide +kernel
theorem dJ6_numberOfTrailingZeros_0f7a4_12 : decode cJ6_numberOfTrailingZeros_0f7a4 12 = .ok (.iload_n 0, 1) := by decide +kernel
theorem dJ6_numberOfTrailingZeros_0f7a4_13 : decode cJ6_numberOfTrailingZeros_0f7a4 13 = .ok (.bipush 32, 2) := by decide +kernel
theorem dJ6_numberOfTrailingZeros_0f7a4_15 : decode cJ6_numberOfTrailingZeros_0f7a4 15 = .ok (.iand, 1) := by decide +kernel
theorem dJ6_numberOfTrailingZeros_0f7a4_16 : decode cJ6_numberOfTrailingZeros_0f7a4 16 = .ok (.ireturn, 1) := by decide +kernel
theorem dJ6_numberOfTrailingZeros_0f7a4_17 : decode cJ6_numberOfTrailingZeros_0f7a4 17 = .ok (.iconst 1, 1) := by decide +kernel
theorem dJ6_numberOfTrailingZeros_0f7a4_18 : decode cJ6_numberOfTrailingZeros_0f7a4 18 = .ok (.istore_n 1, 1) := by decide +kernel
theorem dJ6_numberOfTrailingZeros_0f7a4_19 : decode cJ6_numberOfTrailingZeros_0f7a4 19 = .ok (.iload_n 0, 1) := by decide +kernel
theorem dJ6_numberOfTrailingZeros_0f7a4_20 : decode cJ6_numberOfTrailingZeros_0f7a4 20 = .ok (.ldc_w 264, 3) := by decide +kernel
theorem dJ6_numberOfTrailingZeros_0f7a4_23 : decode cJ6_numberOfTrailingZeros_0f7a4 23 = .ok (.if_icmp .le 11, 3) := by decide +kernel
theorem dJ6_numberOfTrailingZeros_0f7a4_26 : decode cJ6_numberOfTrailingZeros_0f7a4 26 = .ok (.iinc 1 16, 3) := by decide +kernel
theorem dJ6_numberOfTrailingZeros_0f7a4_29 : decode cJ6_numberOfTrailingZeros_0f7a4 29 = .ok (.iload_n 0, 1) := by decide +kernel
theorem dJ6_numberOfTrailingZeros_0f7a4_30 : decode cJ6_numberOfTrailingZeros_0f7a4 30 = .ok (.bipush 16, 2) := by decide +kernel
theorem dJ6_numberOfTrailingZeros_0f7a4_32 : decode cJ6_numberOfTrailingZeros_0f7a4 32 = .ok (.iushr, 1) := by decide +kernel
theorem dJ6_numberOfTrailingZeros_0f7a4_33 : decode cJ6_numberOfTrailingZeros_0f7a4 33 = .ok (.istore_n 0, 1) := by decide +kernel
theorem dJ6_numberOfTrailingZeros_0f7a4_34 : decode cJ6_numberOfTrailingZeros_0f7a4 34 = .ok (.iload_n 0, 1) := by decide +kernel
theorem dJ6_numberOfTrailingZeros_0f7a4_35 : decode cJ6_numberOfTrailingZeros_0f7a4 35 = .ok (.sipush 256, 3) := by decide +kernel
theorem dJ6_numberOfTrailingZeros_0f7a4_38 : decode cJ6_numberOfTrailingZeros_0f7a4 38 = .ok (.if_icmp .le 11, 3) := by decide +kernel
theorem dJ6_numberOfTrailingZeros_0f7a4_41 : decode cJ6_numberOfTrailingZeros_0f7a4 41 = .ok (.iinc 1 8, 3) := by decide +kernel
theorem dJ6_numberOfTrailingZeros_0f7a4_44 : decode cJ6_numberOfTrailingZeros_0f7a4 44 = .ok (.iload_n 0, 1) := by decide +kernel
theorem dJ6_numberOfTrailingZeros_0f7a4_45 : decode cJ6_numberOfTrailingZeros_0f7a4 45 = .ok (.bipush 8, 2) := by decide +kernel
theorem dJ6_numberOfTrailingZeros_0f7a4_47 : decode cJ6_numberOfTrailingZeros_0f7a4 47 = .ok (.iushr, 1) := by decide +kernel
theorem dJ6_numberOfTrailingZeros_0f7a4_48 : decode cJ6_numberOfTrailingZeros_0f7a4 48 = .ok (.istore_n 0, 1) := by decide +kernel
theorem dJ6_numberOfTrailingZeros_0f7a4_49 : decode cJ6_numberOfTrailingZeros_0f7a4 49 = .ok (.iload_n 0, 1) := by decide +kernel
theorem dJ6_numberOfTrailingZeros_0f7a4_50 : decode cJ6_numberOfTrailingZeros_0f7a4 50 = .ok (.bipush 16, 2) := by decide +kernel
theorem dJ6_numberOfTrailingZeros_0f7a4_52 : decode cJ6_numberOfTrailingZeros_0f7a4 52 = .ok (.if_icmp .le 10, 3) := by decide +kernel
theorem dJ6_numberOfTrailingZeros_0f7a4_55 : decode cJ6_numberOfTrailingZeros_0f7a4 55 = .ok (.iinc 1 4, 3) := by decide +kernel
theorem dJ6_numberOfTrailingZeros_0f7a4_58 : decode cJ6_numberOfTrailingZeros_0f7a4 58 = .ok (.iload_n 0, 1) := by decide +kernel
theorem dJ6_numberOfTrailingZeros_0f7a4_59 : decode cJ6_numberOfTrailingZeros_0f7a4 59 = .ok (.iconst 4, 1) := by decide +kernel
theorem dJ6_numberOfTrailingZeros_0f7a4_60 : decode cJ6_numberOfTrailingZeros_0f7a4 60 = .ok (.iushr, 1) := by decide +kernel
theorem dJ6_numberOfTrailingZeros_0f7a4_61 : decode cJ6_numberOfTrailingZeros_0f7a4 61 = .ok (.istore_n 0, 1) := by decide +kernel
theorem dJ6_numberOfTrailingZeros_0f7a4_62 : decode cJ6_numberOfTrailingZeros_0f7a4 62 = .ok (.iload_n 0, 1) := by decide +kernel
theorem dJ6_numberOfTrailingZeros_0f7a4_63 : decode cJ6_numberOfTrailingZeros_0f7a4 63 = .ok (.iconst 4, 1) := by decide +kernel
theorem dJ6_numberOfTrailingZeros_0f7a4_64 : decode cJ6_numberOfTrailingZeros_0f7a4 64 = .ok (.if_icmp .le 10, 3) := by decide +kernel
theorem dJ6_numberOfTrailingZeros_0f7a4_67 : decode cJ6_numberOfTrailingZeros_0f7a4 67 = .ok (.iinc 1 2, 3) := by decide +kernel
theorem dJ6_numberOfTrailingZeros_0f7a4_70 : decode cJ6_numberOfTrailingZeros_0f7a4 70 = .ok (.iload_n 0, 1) := by decide +kernel
theorem dJ6_numberOfTrailingZeros_0f7a4_71 : decode cJ6_numberOfTrailingZeros_0f7a4 71 = .ok (.iconst 2, 1) := by decide +kernel
theorem dJ6_numberOfTrailingZeros_0f7a4_72 : decode cJ6_numberOfTrailingZeros_0f7a4 72 = .ok (.iushr, 1) := by decide +kernel
theorem dJ6_numberOfTrailingZeros_0f7a4_73 : decode cJ6_numberOfTrailingZeros_0f7a4 73 = .ok (.istore_n 0, 1) := by decide +kernel
theorem dJ6_numberOfTrailingZeros_0f7a4_74 : decode cJ6_numberOfTrailingZeros_0f7a4 74 = .ok (.iload_n 1, 1) := by decide +kernel
theorem dJ6_numberOfTrailingZeros_0f7a4_75 : decode cJ6_numberOfTrailingZeros_0f7a4 75 = .ok (.iload_n 0, 1) := by decide +kernel
theorem dJ6_numberOfTrailingZeros_0f7a4_76 : decode cJ6_numberOfTrailingZeros_0f7a4 76 = .ok (.iconst 1, 1) := by decide +kernel
theorem dJ6_numberOfTrailingZeros_0f7a4_77 : decode cJ6_numberOfTrailingZeros_0f7a4 77 = .ok (.iushr, 1) := by decide +kernel
theorem dJ6_numberOfTrailingZeros_0f7a4_78 : decode cJ6_numberOfTrailingZeros_0f7a4 78 = .ok (.iadd, 1) := by decide +kernel
theorem dJ6_numberOfTrailingZeros_0f7a4_79 : decode cJ6_numberOfTrailingZeros_0f7a4 79 = .ok (.ireturn, 1) := by decide +kernel
theorem dJ6_bitCount_0f7a4_0 : decode cJ6_bitCount_0f7a4 0 = .ok (.iload_n 0, 1) := by decide +kernel
theorem dJ6_bitCount_0f7a4_1 : decode cJ6_bitCount_0f7a4 1 = .ok (.iload_n 0, 1) := by decide +kernel
theorem dJ6_bitCount_0f7a4_2 : decode cJ6_bitCount_0f7a4 2 = .ok (.iconst 1, 1) := by decide +kernel
theorem dJ6_bitCount_0f7a4_3 : decode cJ6_bitCount_0f7a4 3 = .ok (.iushr, 1) := by decide +kernel
theorem dJ6_bitCount_0f7a4_4 : decode cJ6_bitCount_0f7a4 4 = .ok (.ldc_w 265, 3) := by decide +kernel
theorem dJ6_bitCount_0f7a4_7 : decode cJ6_bitCount_0f7a4 7 = .ok (.iand, 1) := by decide +kernel
theorem dJ6_bitCount_0f7a4_8 : decode cJ6_bitCount_0f7a4 8 = .ok (.isub, 1) := by decide +kernel
theorem dJ6_bitCount_0f7a4_9 : decode cJ6_bitCount_0f7a4 9 = .ok (.istore_n 0, 1) := by decide +kernel
theorem dJ6_bitCount_0f7a4_10 : decode cJ6_bitCount_0f7a4 10 = .ok (.iload_n 0, 1) := by decide +kernel
theorem dJ6_bitCount_0f7a4_11 : decode cJ6_bitCount_0f7a4 11 = .ok (.ldc_w 266, 3) := by decide +kernel
theorem dJ6_bitCount_0f7a4_14 : decode cJ6_bitCount_0f7a4 14 = .ok (.iand, 1) := by decide +kernel
theorem dJ6_bitCount_0f7a4_15 : decode cJ6_bitCount_0f7a4 15 = .ok (.iload_n 0, 1) := by decide +kernel
theorem dJ6_bitCount_0f7a4_16 : decode cJ6_bitCount_0f7a4 16 = .ok (.iconst 2, 1) := by decide +kernel
theorem dJ6_bitCount_0f7a4_17 : decode cJ6_bitCount_0f7a4 17 = .ok (.iushr, 1) := by decide +kernel
theorem dJ6_bitCount_0f7a4_18 : decode cJ6_bitCount_0f7a4 18 = .ok (.ldc_w 266, 3) := by decide +kernel
theorem dJ6_bitCount_0f7a4_21 : decode cJ6_bitCount_0f7a4 21 = .ok (.iand, 1) := by decide +kernel
theorem dJ6_bitCount_0f7a4_22 : decode cJ6_bitCount_0f7a4 22 = .ok (.iadd, 1) := by decide +kernel
theorem dJ6_bitCount_0f7a4_23 : decode cJ6_bitCount_0f7a4 23 = .ok (.istore_n 0, 1) := by decide +kernel
theorem dJ6_bitCount_0f7a4_24 : decode cJ6_bitCount_0f7a4 24 = .ok (.iload_n 0, 1) := by decide +kernel
theorem dJ6_bitCount_0f7a4_25 : decode cJ6_bitCount_0f7a4 25 = .ok (.iload_n 0, 1) := by decide +kernel
theorem dJ6_bitCount_0f7a4_26 : decode cJ6_bitCount_0f7a4 26 = .ok (.iconst 4, 1) := by decide +kernel
theorem dJ6_bitCount_0f7a4_27 : decode cJ6_bitCount_0f7a4 27 = .ok (.iushr, 1) := by decide +kernel
theorem dJ6_bitCount_0f7a4_28 : decode cJ6_bitCount_0f7a4 28 = .ok (.iadd, 1) := by decide +kernel
theorem dJ6_bitCount_0f7a4_29 : decode cJ6_bitCount_0f7a4 29 = .ok (.ldc_w 267, 3) := by decide +kernel
theorem dJ6_bitCount_0f7a4_32 : decode cJ6_bitCount_0f7a4 32 = .ok (.iand, 1) := by decide +kernel
theorem dJ6_bitCount_0f7a4_33 : decode cJ6_bitCount_0f7a4 33 = .ok (.istore_n 0, 1) := by decide +kernel
theorem dJ6_bitCount_0f7a4_34 : decode cJ6_bitCount_0f7a4 34 = .ok (.iload_n 0, 1) := by decide +kernel
theorem dJ6_bitCount_0f7a4_35 : decode cJ6_bitCount_0f7a4 35 = .ok (.iload_n 0, 1) := by decide +kernel
theorem dJ6_bitCount_0f7a4_36 : decode cJ6_bitCount_0f7a4 36 = .ok (.bipush 8, 2) := by decide +kernel
theorem dJ6_bitCount_0f7a4_38 : decode cJ6_bitCount_0f7a4 38 = .ok (.iushr, 1) := by decide +kernel
theorem dJ6_bitCount_0f7a4_39 : decode cJ6_bitCount_0f7a4 39 = .ok (.iadd, 1) := by decide +kernel
theorem dJ6_bitCount_0f7a4_40 : decode cJ6_bitCount_0f7a4 40 = .ok (.istore_n 0, 1) := by decide +kernel
theorem dJ6_bitCount_0f7a4_41 : decode cJ6_bitCount_0f7a4 41 = .ok (.iload_n 0, 1) := by decide +kernel
theorem dJ6_bitCount_0f7a4_42 : decode cJ6_bitCount_0f7a4 42 = .ok (.iload_n 0, 1) := by decide +kernel
theorem dJ6_bitCount_0f7a4_43 : decode cJ6_bitCount_0f7a4 43 = .ok (.bipush 16, 2) := by decide +kernel
theorem dJ6_bitCount_0f7a4_45 : decode cJ6_bitCount_0f7a4 45 = .ok (.iushr, 1) := by decide +kernel
theorem dJ6_bitCount_0f7a4_46 : decode cJ6_bitCount_0f7a4 46 = .ok (.iadd, 1) := by decide +kernel
theorem dJ6_bitCount_0f7a4_47 : decode cJ6_bitCount_0f7a4 47 = .ok (.istore_n 0, 1) := by decide +kernel
theorem dJ6_bitCount_0f7a4_48 : decode cJ6_bitCount_0f7a4 48 = .ok (.iload_n 0, 1) := by decide +kernel
theorem dJ6_bitCount_0f7a4_49 : decode cJ6_bitCount_0f7a4 49 = .ok (.bipush 63, 2) := by decide +kernel
theorem dJ6_bitCount_0f7a4_51 : decode cJ6_bitCount_0f7a4 51 = .ok (.iand, 1) := by decide +kernel
theorem dJ6_bitCount_0f7a4_52 : decode cJ6_bitCount_0f7a4 52 = .ok (.ireturn, 1) := by decide +kernel
theorem dJ9_max_7cf53_0 : decode cJ9_max_7cf53 0 = .ok (.iload_n 0, 1) := by decide +kernel
theorem dJ9_max_7cf53_1 : decode cJ9_max_7cf53 1 = .ok (.iload_n 1, 1) := by decide +kernel
theorem dJ9_max_7cf53_2 : decode cJ9_max_7cf53 2 = .ok (.if_icmp .lt 7, 3) := by decide +kernel
theorem dJ9_max_7cf53_5 : decode cJ9_max_7cf53 5 = .ok (.iload_n 0, 1) := by decide +kernel
theorem dJ9_max_7cf53_6 : decode cJ9_max_7cf53 6 = .ok (.goto 4, 3) := by decide +kernel
theorem dJ9_max_7cf53_9 : decode cJ9_max_7cf53 9 = .ok (.iload_n 1, 1) := by decide +kernel
theorem dJ9_max_7cf53_10 : decode cJ9_max_7cf53 10 = .ok (.ireturn, 1) := by decide +kernel
theorem dJ9_min_7cf53_0 : decode cJ9_min_7cf53 0 = .ok (.iload_n 0, 1) := by decide +kernel
theorem dJ9_min_7cf53_1 : decode cJ9_min_7cf53 1 = .ok (.iload_n 1, 1) := by decide +kernel
theorem dJ9_min_7cf53_2 : decode cJ9_min_7cf53 2 = .ok (.if_icmp .gt 7, 3) := by decide +kernel
theorem dJ9_min_7cf53_5 : decode cJ9_min_7cf53 5 = .ok (.iload_n 0, 1) := by decide +kernel
theorem dJ9_min_7cf53_6 : decode cJ9_min_7cf53 6 = .ok (.goto 4, 3) := by decide +kernel
theorem dJ9_min_7cf53_9 : decode cJ9_min_7cf53 9 = .ok (.iload_n 1, 1) := by decide +kernel
theorem dJ9_min_7cf53_10 : decode cJ9_min_7cf53 10 = .ok (.ireturn, 1) := by decide +kernel
theorem dJxa1e45_init_da8c8_0 : decode cJxa1e45_init_da8c8 0 = .ok (.aload_n 0, 1) := by decide +kernel
theorem dJxa1e45_init_da8c8_1 : decode cJxa1e45_init_da8c8 1 = .ok (.invokespecial 1, 3) := by decide +kernel
theorem dJxa1e45_init_da8c8_4 : decode cJxa1e45_init_da8c8 4 = .ok (.return_, 1) := by decide +kernel
set_option maxRecDepth 20000 in
theorem ggJxc12de_init_da8c8_Jxa1e45_init_da8c8 : GoodIn wsJxc12de_init_da8c8 wsJxa1e45_init_da8c8 := goodIn_r _ [5, 6, 7, 8] (by decide +kernel) (by decide +kernel)
set_option maxRecDepth 20000 in
theorem gJxc12de_init_da8c8_Jxa1e45_init_da8c8 : GoodIn wsJxc12de_init_da8c8 (wsJxa1e45_init_da8c8) := ggJxc12de_init_da8c8_Jxa1e45_init_da8c8
theorem dJxc12de_init_da8c8_0 : decode cJxc12de_init_da8c8 0 = .ok (.aload_n 0, 1) := by decide +kernel
theorem dJxc12de_init_da8c8_1 : decode cJxc12de_init_da8c8 1 = .ok (.invokespecial 1, 3) := by decide +kernel
theorem dJxc12de_init_da8c8_4 : decode cJxc12de_init_da8c8 4 = .ok (.aload_n 0, 1) := by decide +kernel
theorem dJxc12de_init_da8c8_5 : decode cJxc12de_init_da8c8 5 = .ok (.iconst 0, 1) := by decide +kernel
theorem dJxc12de_init_da8c8_6 : decode cJxc12de_init_da8c8 6 = .ok (.putfield 7, 3) := by decide +kernel
theorem dJxc12de_init_da8c8_9 : decode cJxc12de_init_da8c8 9 = .ok (.return_, 1) := by decide +kernel
set_option maxRecDepth 20000 in
theorem ggJx4a65c_init_da8c8_Jxc12de_init_da8c8 : GoodIn wsJx4a65c_init_da8c8 wsJxc12de_init_da8c8 := goodIn_r _ [6, 7, 8, 9, 10, 11, 12, 13, 14, 15, 16, 17] (by decide +kernel) (by decide +kernel)
set_option maxRecDepth 20000 in
theorem gJx4a65c_init_da8c8_Jxc12de_init_da8c8 : GoodIn wsJx4a65c_init_da8c8 (wsJxc12de_init_da8c8) := ggJx4a65c_init_da8c8_Jxc12de_init_da8c8
theorem dJx4a65c_init_da8c8_0 : decode cJx4a65c_init_da8c8 0 = .ok (.aload_n 0, 1) := by decide +kernel
theorem dJx4a65c_init_da8c8_1 : decode cJx4a65c_init_da8c8 1 = .ok (.invokespecial 1, 3) := by decide +kernel
theorem dJx4a65c_init_da8c8_4 : decode cJx4a65c_init_da8c8 4 = .ok (.aload_n 0, 1) := by decide +kernel
theorem dJx4a65c_init_da8c8_5 : decode cJx4a65c_init_da8c8 5 = .ok (.getstatic 39, 3) := by decide +kernel
theorem dJx4a65c_init_da8c8_8 : decode cJx4a65c_init_da8c8 8 = .ok (.putfield 9, 3) := by decide +kernel
theorem dJx4a65c_init_da8c8_11 : decode cJx4a65c_init_da8c8 11 = .ok (.return_, 1) := by decide +kernel
set_option maxRecDepth 20000 in
theorem ggJx4a65c_grow_92f84_J8_newLength_cabcc : GoodIn wsJx4a65c_grow_92f84 wsJ8_newLength_cabcc := goodIn_r _ [11, 12, 4, 5, 6, 13, 14, 15, 10, 16] (by decide +kernel) (by decide +kernel)
set_option maxRecDepth 20000 in
theorem gJx4a65c_grow_92f84_J8_newLength_cabcc : GoodIn wsJx4a65c_grow_92f84 (va_wsS RJx4a65c 73 yJ8_newLength_cabcc wsJ8_newLength_cabcc) := goodIn_app (goodIn_of _ (by decide +kernel)) ggJx4a65c_grow_92f84_J8_newLength_cabcc
set_option maxRecDepth 20000 in
theorem ggJx4a65c_grow_92f84_J7_copyOf_1904c : GoodIn wsJx4a65c_grow_92f84 wsJ7_copyOf_1904c := goodIn_r _ [20, 21, 22, 23, 24, 25, 26, 19, 27, 28, 29, 30, 31, 5, 32, 33, 34, 35, 36] (by decide +kernel) (by decide +kernel)
set_option maxRecDepth 20000 in
theorem gJx4a65c_grow_92f84_J7_copyOf_1904c : GoodIn wsJx4a65c_grow_92f84 (va_wsS RJx4a65c 66 yJ7_copyOf_1904c wsJ7_copyOf_1904c) := goodIn_app (goodIn_of _ (by decide +kernel)) ggJx4a65c_grow_92f84_J7_copyOf_1904c
theorem dJx4a65c_grow_92f84_0 : decode cJx4a65c_grow_92f84 0 = .ok (.aload_n 0, 1) := by decide +kernel
theorem dJx4a65c_grow_92f84_1 : decode cJx4a65c_grow_92f84 1 = .ok (.getfield 9, 3) := by decide +kernel
theorem dJx4a65c_grow_92f84_4 : decode cJx4a65c_grow_92f84 4 = .ok (.arraylength, 1) := by decide +kernel
theorem dJx4a65c_grow_92f84_5 : decode cJx4a65c_grow_92f84 5 = .ok (.istore_n 2, 1) := by decide +kernel
theorem dJx4a65c_grow_92f84_6 : decode cJx4a65c_grow_92f84 6 = .ok (.iload_n 2, 1) := by decide +kernel
theorem dJx4a65c_grow_92f84_7 : decode cJx4a65c_grow_92f84 7 = .ok (.ifCond .gt 13, 3) := by decide +kernel
theorem dJx4a65c_grow_92f84_10 : decode cJx4a65c_grow_92f84 10 = .ok (.aload_n 0, 1) := by decide +kernel
theorem dJx4a65c_grow_92f84_11 : decode cJx4a65c_grow_92f84 11 = .ok (.getfield 9, 3) := by decide +kernel
theorem dJx4a65c_grow_92f84_14 : decode cJx4a65c_grow_92f84 14 = .ok (.getstatic 39, 3) := by decide +kernel
theorem dJx4a65c_grow_92f84_17 : decode cJx4a65c_grow_92f84 17 = .ok (.if_acmp .eq 28, 3) := by decide +kernel
theorem dJx4a65c_grow_92f84_20 : decode cJx4a65c_grow_92f84 20 = .ok (.iload_n 2, 1) := by decide +kernel
theorem dJx4a65c_grow_92f84_21 : decode cJx4a65c_grow_92f84 21 = .ok (.iload_n 1, 1) := by decide +kernel
theorem dJx4a65c_grow_92f84_22 : decode cJx4a65c_grow_92f84 22 = .ok (.iload_n 2, 1) := by decide +kernel
theorem dJx4a65c_grow_92f84_23 : decode cJx4a65c_grow_92f84 23 = .ok (.isub, 1) := by decide +kernel
theorem dJx4a65c_grow_92f84_24 : decode cJx4a65c_grow_92f84 24 = .ok (.iload_n 2, 1) := by decide +kernel
theorem dJx4a65c_grow_92f84_25 : decode cJx4a65c_grow_92f84 25 = .ok (.iconst 1, 1) := by decide +kernel
theorem dJx4a65c_grow_92f84_26 : decode cJx4a65c_grow_92f84 26 = .ok (.ishr, 1) := by decide +kernel
theorem dJx4a65c_grow_92f84_27 : decode cJx4a65c_grow_92f84 27 = .ok (.invokestatic 73, 3) := by decide +kernel
theorem dJx4a65c_grow_92f84_30 : decode cJx4a65c_grow_92f84 30 = .ok (.istore_n 3, 1) := by decide +kernel
theorem dJx4a65c_grow_92f84_31 : decode cJx4a65c_grow_92f84 31 = .ok (.aload_n 0, 1) := by decide +kernel
theorem dJx4a65c_grow_92f84_32 : decode cJx4a65c_grow_92f84 32 = .ok (.aload_n 0, 1) := by decide +kernel
theorem dJx4a65c_grow_92f84_33 : decode cJx4a65c_grow_92f84 33 = .ok (.getfield 9, 3) := by decide +kernel
theorem dJx4a65c_grow_92f84_36 : decode cJx4a65c_grow_92f84 36 = .ok (.iload_n 3, 1) := by decide +kernel
theorem dJx4a65c_grow_92f84_37 : decode cJx4a65c_grow_92f84 37 = .ok (.invokestatic 66, 3) := by decide +kernel
theorem dJx4a65c_grow_92f84_40 : decode cJx4a65c_grow_92f84 40 = .ok (.dup_x1, 1) := by decide +kernel
theorem dJx4a65c_grow_92f84_41 : decode cJx4a65c_grow_92f84 41 = .ok (.putfield 9, 3) := by decide +kernel
theorem dJx4a65c_grow_92f84_44 : decode cJx4a65c_grow_92f84 44 = .ok (.areturn, 1) := by decide +kernel
theorem dJx4a65c_grow_92f84_45 : decode cJx4a65c_grow_92f84 45 = .ok (.aload_n 0, 1) := by decide +kernel
theorem dJx4a65c_grow_92f84_46 : decode cJx4a65c_grow_92f84 46 = .ok (.bipush 10, 2) := by decide +kernel
theorem dJx4a65c_grow_92f84_48 : decode cJx4a65c_grow_92f84 48 = .ok (.iload_n 1, 1) := by decide +kernel
theorem dJx4a65c_grow_92f84_49 : decode cJx4a65c_grow_92f84 49 = .ok (.invokestatic 79, 3) := by decide +kernel
theorem dJx4a65c_grow_92f84_52 : decode cJx4a65c_grow_92f84 52 = .ok (.anewarray 7, 3) := by decide +kernel
theorem dJx4a65c_grow_92f84_55 : decode cJx4a65c_grow_92f84 55 = .ok (.dup_x1, 1) := by decide +kernel
theorem dJx4a65c_grow_92f84_56 : decode cJx4a65c_grow_92f84 56 = .ok (.putfield 9, 3) := by decide +kernel
theorem dJx4a65c_grow_92f84_59 : decode cJx4a65c_grow_92f84 59 = .ok (.areturn, 1) := by decide +kernel
set_option maxRecDepth 20000 in
theorem ggJx4a65c_grow_d5877_Jx4a65c_grow_92f84 : GoodIn wsJx4a65c_grow_d5877 wsJx4a65c_grow_92f84 := goodIn_r _ [6, 7, 8, 9, 10, 11, 12, 13, 14, 15, 16, 17, 18, 19, 20, 21, 22, 23, 24, 25, 26, 27, 28, 29, 30, 31, 32, 33, 34, 35, 36, 37, 38, 39, 40, 41, 42, 43, 44, 45] (by decide +kernel) (by decide +kernel)
set_option maxRecDepth 20000 in
theorem gJx4a65c_grow_d5877_Jx4a65c_grow_92f84 : GoodIn wsJx4a65c_grow_d5877 (wsV RJx4a65c 69 RJx4a65c yJx4a65c_grow_92f84 wsJx4a65c_grow_92f84) := goodIn_app (goodIn_of _ (by decide +kernel)) ggJx4a65c_grow_d5877_Jx4a65c_grow_92f84
theorem dJx4a65c_grow_d5877_0 : decode cJx4a65c_grow_d5877 0 = .ok (.aload_n 0, 1) := by decide +kernel
theorem dJx4a65c_grow_d5877_1 : decode cJx4a65c_grow_d5877 1 = .ok (.aload_n 0, 1) := by decide +kernel
theorem dJx4a65c_grow_d5877_2 : decode cJx4a65c_grow_d5877 2 = .ok (.getfield 48, 3) := by decide +kernel
theorem dJx4a65c_grow_d5877_5 : decode cJx4a65c_grow_d5877 5 = .ok (.iconst 1, 1) := by decide +kernel
theorem dJx4a65c_grow_d5877_6 : decode cJx4a65c_grow_d5877 6 = .ok (.iadd, 1) := by decide +kernel
theorem dJx4a65c_grow_d5877_7 : decode cJx4a65c_grow_d5877 7 = .ok (.invokevirtual 69, 3) := by decide +kernel
theorem dJx4a65c_grow_d5877_10 : decode cJx4a65c_grow_d5877 10 = .ok (.areturn, 1) := by decide +kernel
theorem dJx4a65c_size_8abf5_0 : decode cJx4a65c_size_8abf5 0 = .ok (.aload_n 0, 1) := by decide +kernel
theorem dJx4a65c_size_8abf5_1 : decode cJx4a65c_size_8abf5 1 = .ok (.getfield 48, 3) := by decide +kernel
theorem dJx4a65c_size_8abf5_4 : decode cJx4a65c_size_8abf5 4 = .ok (.ireturn, 1) := by decide +kernel
theorem dJx4a65c_elementData_915e3_0 : decode cJx4a65c_elementData_915e3 0 = .ok (.aload_n 0, 1) := by decide +kernel
theorem dJx4a65c_elementData_915e3_1 : decode cJx4a65c_elementData_915e3 1 = .ok (.getfield 9, 3) := by decide +kernel
theorem dJx4a65c_elementData_915e3_4 : decode cJx4a65c_elementData_915e3 4 = .ok (.iload_n 1, 1) := by decide +kernel
theorem dJx4a65c_elementData_915e3_5 : decode cJx4a65c_elementData_915e3 5 = .ok (.aaload, 1) := by decide +kernel
theorem dJx4a65c_elementData_915e3_6 : decode cJx4a65c_elementData_915e3 6 = .ok (.areturn, 1) := by decide +kernel
set_option maxRecDepth 20000 in
theorem ggJx4a65c_get_915e3_J15_checkIndex_7cf53 : GoodIn wsJx4a65c_get_915e3 wsJ15_checkIndex_7cf53 := goodIn_r _ [5, 6, 7, 8, 9] (by decide +kernel) (by decide +kernel)
set_option maxRecDepth 20000 in
theorem gJx4a65c_get_915e3_J15_checkIndex_7cf53 : GoodIn wsJx4a65c_get_915e3 (va_wsS RJx4a65c 118 yJ15_checkIndex_7cf53 wsJ15_checkIndex_7cf53) := goodIn_app (goodIn_of _ (by decide +kernel)) ggJx4a65c_get_915e3_J15_checkIndex_7cf53
set_option maxRecDepth 20000 in
theorem ggJx4a65c_get_915e3_Jx4a65c_elementData_915e3 : GoodIn wsJx4a65c_get_915e3 wsJx4a65c_elementData_915e3 := goodIn_r _ [14, 15, 16, 17, 18] (by decide +kernel) (by decide +kernel)
set_option maxRecDepth 20000 in
theorem gJx4a65c_get_915e3_Jx4a65c_elementData_915e3 : GoodIn wsJx4a65c_get_915e3 (wsV RJx4a65c 123 RJx4a65c yJx4a65c_elementData_915e3 wsJx4a65c_elementData_915e3) := goodIn_app (goodIn_of _ (by decide +kernel)) ggJx4a65c_get_915e3_Jx4a65c_elementData_915e3
theorem dJx4a65c_get_915e3_0 : decode cJx4a65c_get_915e3 0 = .ok (.iload_n 1, 1) := by decide +kernel
theorem dJx4a65c_get_915e3_1 : decode cJx4a65c_get_915e3 1 = .ok (.aload_n 0, 1) := by decide +kernel
theorem dJx4a65c_get_915e3_2 : decode cJx4a65c_get_915e3 2 = .ok (.getfield 48, 3) := by decide +kernel
theorem dJx4a65c_get_915e3_5 : decode cJx4a65c_get_915e3 5 = .ok (.invokestatic 118, 3) := by decide +kernel
theorem dJx4a65c_get_915e3_8 : decode cJx4a65c_get_915e3 8 = .ok (.pop, 1) := by decide +kernel
theorem dJx4a65c_get_915e3_9 : decode cJx4a65c_get_915e3 9 = .ok (.aload_n 0, 1) := by decide +kernel
theorem dJx4a65c_get_915e3_10 : decode cJx4a65c_get_915e3 10 = .ok (.iload_n 1, 1) := by decide +kernel
theorem dJx4a65c_get_915e3_11 : decode cJx4a65c_get_915e3 11 = .ok (.invokevirtual 123, 3) := by decide +kernel
theorem dJx4a65c_get_915e3_14 : decode cJx4a65c_get_915e3 14 = .ok (.areturn, 1) := by decide +kernel
set_option maxRecDepth 20000 in
theorem ggJx4a65c_add_72be8_Jx4a65c_grow_d5877 : GoodIn wsJx4a65c_add_72be8 wsJx4a65c_grow_d5877 := goodIn_r _ [6, 1, 7, 8, 9, 5, 10, 11, 12, 13, 14, 15, 16, 17, 18, 19, 20, 21, 22, 23, 24, 25, 26, 27, 28, 29, 30, 31, 32, 33, 34, 35, 36, 37, 38, 39, 40, 41, 42, 43, 44, 45, 46, 47, 48, 49] (by decide +kernel) (by decide +kernel)
set_option maxRecDepth 20000 in
theorem gJx4a65c_add_72be8_Jx4a65c_grow_d5877 : GoodIn wsJx4a65c_add_72be8 (wsV RJx4a65c 129 RJx4a65c yJx4a65c_grow_d5877 wsJx4a65c_grow_d5877) := goodIn_app (goodIn_of _ (by decide +kernel)) ggJx4a65c_add_72be8_Jx4a65c_grow_d5877
theorem dJx4a65c_add_72be8_0 : decode cJx4a65c_add_72be8 0 = .ok (.iload_n 3, 1) := by decide +kernel
theorem dJx4a65c_add_72be8_1 : decode cJx4a65c_add_72be8 1 = .ok (.aload_n 2, 1) := by decide +kernel
theorem dJx4a65c_add_72be8_2 : decode cJx4a65c_add_72be8 2 = .ok (.arraylength, 1) := by decide +kernel
theorem dJx4a65c_add_72be8_3 : decode cJx4a65c_add_72be8 3 = .ok (.if_icmp .ne 8, 3) := by decide +kernel
theorem dJx4a65c_add_72be8_6 : decode cJx4a65c_add_72be8 6 = .ok (.aload_n 0, 1) := by decide +kernel
theorem dJx4a65c_add_72be8_7 : decode cJx4a65c_add_72be8 7 = .ok (.invokevirtual 129, 3) := by decide +kernel
theorem dJx4a65c_add_72be8_10 : decode cJx4a65c_add_72be8 10 = .ok (.astore_n 2, 1) := by decide +kernel
theorem dJx4a65c_add_72be8_11 : decode cJx4a65c_add_72be8 11 = .ok (.aload_n 2, 1) := by decide +kernel
theorem dJx4a65c_add_72be8_12 : decode cJx4a65c_add_72be8 12 = .ok (.iload_n 3, 1) := by decide +kernel
theorem dJx4a65c_add_72be8_13 : decode cJx4a65c_add_72be8 13 = .ok (.aload_n 1, 1) := by decide +kernel
theorem dJx4a65c_add_72be8_14 : decode cJx4a65c_add_72be8 14 = .ok (.aastore, 1) := by decide +kernel
theorem dJx4a65c_add_72be8_15 : decode cJx4a65c_add_72be8 15 = .ok (.aload_n 0, 1) := by decide +kernel
theorem dJx4a65c_add_72be8_16 : decode cJx4a65c_add_72be8 16 = .ok (.iload_n 3, 1) := by decide +kernel
theorem dJx4a65c_add_72be8_17 : decode cJx4a65c_add_72be8 17 = .ok (.iconst 1, 1) := by decide +kernel
theorem dJx4a65c_add_72be8_18 : decode cJx4a65c_add_72be8 18 = .ok (.iadd, 1) := by decide +kernel
theorem dJx4a65c_add_72be8_19 : decode cJx4a65c_add_72be8 19 = .ok (.putfield 48, 3) := by decide +kernel
theorem dJx4a65c_add_72be8_22 : decode cJx4a65c_add_72be8 22 = .ok (.return_, 1) := by decide +kernel
set_option maxRecDepth 20000 in
theorem ggJx4a65c_add_9ea2d_Jx4a65c_add_72be8 : GoodIn wsJx4a65c_add_9ea2d wsJx4a65c_add_72be8 := goodIn_r _ [9, 4, 10, 11, 12, 8, 13, 14, 15, 16, 17, 3, 18, 19, 20, 21, 22, 23, 24, 25, 26, 27, 28, 29, 30, 31, 32, 33, 34, 35, 36, 37, 38, 39, 40, 41, 42, 43, 44, 45, 46, 47, 48, 49, 50, 51, 52, 53, 54, 55] (by decide +kernel) (by decide +kernel)
set_option maxRecDepth 20000 in
theorem gJx4a65c_add_9ea2d_Jx4a65c_add_72be8 : GoodIn wsJx4a65c_add_9ea2d (wsV RJx4a65c 131 RJx4a65c yJx4a65c_add_72be8 wsJx4a65c_add_72be8) := goodIn_app (goodIn_of _ (by decide +kernel)) ggJx4a65c_add_9ea2d_Jx4a65c_add_72be8
theorem dJx4a65c_add_9ea2d_0 : decode cJx4a65c_add_9ea2d 0 = .ok (.aload_n 0, 1) := by decide +kernel
theorem dJx4a65c_add_9ea2d_1 : decode cJx4a65c_add_9ea2d 1 = .ok (.dup, 1) := by decide +kernel
theorem dJx4a65c_add_9ea2d_2 : decode cJx4a65c_add_9ea2d 2 = .ok (.getfield 63, 3) := by decide +kernel
theorem dJx4a65c_add_9ea2d_5 : decode cJx4a65c_add_9ea2d 5 = .ok (.iconst 1, 1) := by decide +kernel
theorem dJx4a65c_add_9ea2d_6 : decode cJx4a65c_add_9ea2d 6 = .ok (.iadd, 1) := by decide +kernel
theorem dJx4a65c_add_9ea2d_7 : decode cJx4a65c_add_9ea2d 7 = .ok (.putfield 63, 3) := by decide +kernel
theorem dJx4a65c_add_9ea2d_10 : decode cJx4a65c_add_9ea2d 10 = .ok (.aload_n 0, 1) := by decide +kernel
theorem dJx4a65c_add_9ea2d_11 : decode cJx4a65c_add_9ea2d 11 = .ok (.aload_n 1, 1) := by decide +kernel
theorem dJx4a65c_add_9ea2d_12 : decode cJx4a65c_add_9ea2d 12 = .ok (.aload_n 0, 1) := by decide +kernel
theorem dJx4a65c_add_9ea2d_13 : decode cJx4a65c_add_9ea2d 13 = .ok (.getfield 9, 3) := by decide +kernel
theorem dJx4a65c_add_9ea2d_16 : decode cJx4a65c_add_9ea2d 16 = .ok (.aload_n 0, 1) := by decide +kernel
theorem dJx4a65c_add_9ea2d_17 : decode cJx4a65c_add_9ea2d 17 = .ok (.getfield 48, 3) := by decide +kernel
theorem dJx4a65c_add_9ea2d_20 : decode cJx4a65c_add_9ea2d 20 = .ok (.invokevirtual 131, 3) := by decide +kernel
theorem dJx4a65c_add_9ea2d_23 : decode cJx4a65c_add_9ea2d 23 = .ok (.iconst 1, 1) := by decide +kernel
theorem dJx4a65c_add_9ea2d_24 : decode cJx4a65c_add_9ea2d 24 = .ok (.ireturn, 1) := by decide +kernel
theorem dJ7_fill_53178_0 : decode cJ7_fill_53178 0 = .ok (.iconst 0, 1) := by decide +kernel
theorem dJ7_fill_53178_1 : decode cJ7_fill_53178 1 = .ok (.istore_n 2, 1) := by decide +kernel
theorem dJ7_fill_53178_2 : decode cJ7_fill_53178 2 = .ok (.aload_n 0, 1) := by decide +kernel
theorem dJ7_fill_53178_3 : decode cJ7_fill_53178 3 = .ok (.arraylength, 1) := by decide +kernel
theorem dJ7_fill_53178_4 : decode cJ7_fill_53178 4 = .ok (.istore_n 3, 1) := by decide +kernel
theorem dJ7_fill_53178_5 : decode cJ7_fill_53178 5 = .ok (.iload_n 2, 1) := by decide +kernel
theorem dJ7_fill_53178_6 : decode cJ7_fill_53178 6 = .ok (.iload_n 3, 1) := by decide +kernel
theorem dJ7_fill_53178_7 : decode cJ7_fill_53178 7 = .ok (.if_icmp .ge 13, 3) := by decide +kernel
theorem dJ7_fill_53178_10 : decode cJ7_fill_53178 10 = .ok (.aload_n 0, 1) := by decide +kernel
theorem dJ7_fill_53178_11 : decode cJ7_fill_53178 11 = .ok (.iload_n 2, 1) := by decide +kernel
theorem dJ7_fill_53178_12 : decode cJ7_fill_53178 12 = .ok (.iload_n 1, 1) := by decide +kernel
theorem dJ7_fill_53178_13 : decode cJ7_fill_53178 13 = .ok (.iastore, 1) := by decide +kernel
theorem dJ7_fill_53178_14 : decode cJ7_fill_53178 14 = .ok (.iinc 2 1, 3) := by decide +kernel
theorem dJ7_fill_53178_17 : decode cJ7_fill_53178 17 = .ok (.goto (-12), 3) := by decide +kernel
theorem dJ7_fill_53178_20 : decode cJ7_fill_53178 20 = .ok (.return_, 1) := by decide +kernel
set_option maxRecDepth 20000 in
theorem ggJ7_copyOf_1904c_J7_copyOf_6403c : GoodIn wsJ7_copyOf_1904c wsJ7_copyOf_6403c := goodIn_r _ [8, 9, 10, 11, 12, 13, 14, 15, 16, 17, 18] (by decide +kernel) (by decide +kernel)
set_option maxRecDepth 20000 in
theorem gJ7_copyOf_1904c_J7_copyOf_6403c : GoodIn wsJ7_copyOf_1904c (va_wsS RJ7 300 yJ7_copyOf_6403c wsJ7_copyOf_6403c) := goodIn_app (goodIn_of _ (by decide +kernel)) ggJ7_copyOf_1904c_J7_copyOf_6403c
theorem dJ7_copyOf_1904c_0 : decode cJ7_copyOf_1904c 0 = .ok (.aload_n 0, 1) := by decide +kernel
theorem dJ7_copyOf_1904c_1 : decode cJ7_copyOf_1904c 1 = .ok (.iload_n 1, 1) := by decide +kernel
theorem dJ7_copyOf_1904c_2 : decode cJ7_copyOf_1904c 2 = .ok (.aload_n 0, 1) := by decide +kernel
theorem dJ7_copyOf_1904c_3 : decode cJ7_copyOf_1904c 3 = .ok (.invokevirtual 86, 3) := by decide +kernel
theorem dJ7_copyOf_1904c_6 : decode cJ7_copyOf_1904c 6 = .ok (.invokestatic 300, 3) := by decide +kernel
theorem dJ7_copyOf_1904c_9 : decode cJ7_copyOf_1904c 9 = .ok (.areturn, 1) := by decide +kernel
theorem dJ7_copyOf_6403c_0 : decode cJ7_copyOf_6403c 0 = .ok (.aload_n 2, 1) := by decide +kernel
theorem dJ7_copyOf_6403c_1 : decode cJ7_copyOf_6403c 1 = .ok (.ldc 110, 2) := by decide +kernel
theorem dJ7_copyOf_6403c_3 : decode cJ7_copyOf_6403c 3 = .ok (.if_acmp .ne 10, 3) := by decide +kernel
theorem dJ7_copyOf_6403c_6 : decode cJ7_copyOf_6403c 6 = .ok (.iload_n 1, 1) := by decide +kernel
theorem dJ7_copyOf_6403c_7 : decode cJ7_copyOf_6403c 7 = .ok (.anewarray 2, 3) := by decide +kernel
theorem dJ7_copyOf_6403c_10 : decode cJ7_copyOf_6403c 10 = .ok (.goto 14, 3) := by decide +kernel
theorem dJ7_copyOf_6403c_13 : decode cJ7_copyOf_6403c 13 = .ok (.aload_n 2, 1) := by decide +kernel
theorem dJ7_copyOf_6403c_14 : decode cJ7_copyOf_6403c 14 = .ok (.invokevirtual 90, 3) := by decide +kernel
theorem dJ7_copyOf_6403c_17 : decode cJ7_copyOf_6403c 17 = .ok (.iload_n 1, 1) := by decide +kernel
theorem dJ7_copyOf_6403c_18 : decode cJ7_copyOf_6403c 18 = .ok (.invokestatic 95, 3) := by decide +kernel
theorem dJ7_copyOf_6403c_21 : decode cJ7_copyOf_6403c 21 = .ok (.checkcast 110, 3) := by decide +kernel
theorem dJ7_copyOf_6403c_24 : decode cJ7_copyOf_6403c 24 = .ok (.astore_n 3, 1) := by decide +kernel
theorem dJ7_copyOf_6403c_25 : decode cJ7_copyOf_6403c 25 = .ok (.aload_n 0, 1) := by decide +kernel
theorem dJ7_copyOf_6403c_26 : decode cJ7_copyOf_6403c 26 = .ok (.iconst 0, 1) := by decide +kernel
theorem dJ7_copyOf_6403c_27 : decode cJ7_copyOf_6403c 27 = .ok (.aload_n 3, 1) := by decide +kernel
theorem dJ7_copyOf_6403c_28 : decode cJ7_copyOf_6403c 28 = .ok (.iconst 0, 1) := by decide +kernel
theorem dJ7_copyOf_6403c_29 : decode cJ7_copyOf_6403c 29 = .ok (.aload_n 0, 1) := by decide +kernel
theorem dJ7_copyOf_6403c_30 : decode cJ7_copyOf_6403c 30 = .ok (.arraylength, 1) := by decide +kernel
theorem dJ7_copyOf_6403c_31 : decode cJ7_copyOf_6403c 31 = .ok (.iload_n 1, 1) := by decide +kernel
theorem dJ7_copyOf_6403c_32 : decode cJ7_copyOf_6403c 32 = .ok (.invokestatic 304, 3) := by decide +kernel
theorem dJ7_copyOf_6403c_35 : decode cJ7_copyOf_6403c 35 = .ok (.invokestatic 150, 3) := by decide +kernel
theorem dJ7_copyOf_6403c_38 : decode cJ7_copyOf_6403c 38 = .ok (.aload_n 3, 1) := by decide +kernel
theorem dJ7_copyOf_6403c_39 : decode cJ7_copyOf_6403c 39 = .ok (.areturn, 1) := by decide +kernel
set_option maxRecDepth 20000 in
theorem ggJ15_checkIndex_7cf53_J3_checkIndex_8e157 : GoodIn wsJ15_checkIndex_7cf53 wsJ3_checkIndex_8e157 := goodIn_r _ [4] (by decide +kernel) (by decide +kernel)
set_option maxRecDepth 20000 in
theorem gJ15_checkIndex_7cf53_J3_checkIndex_8e157 : GoodIn wsJ15_checkIndex_7cf53 (va_wsS RJ15 105 yJ3_checkIndex_8e157 wsJ3_checkIndex_8e157) := goodIn_app (goodIn_of _ (by decide +kernel)) ggJ15_checkIndex_7cf53_J3_checkIndex_8e157
theorem dJ15_checkIndex_7cf53_0 : decode cJ15_checkIndex_7cf53 0 = .ok (.iload_n 0, 1) := by decide +kernel
theorem dJ15_checkIndex_7cf53_1 : decode cJ15_checkIndex_7cf53 1 = .ok (.iload_n 1, 1) := by decide +kernel
theorem dJ15_checkIndex_7cf53_2 : decode cJ15_checkIndex_7cf53 2 = .ok (.aconst_null, 1) := by decide +kernel
theorem dJ15_checkIndex_7cf53_3 : decode cJ15_checkIndex_7cf53 3 = .ok (.invokestatic 105, 3) := by decide +kernel
theorem dJ15_checkIndex_7cf53_6 : decode cJ15_checkIndex_7cf53 6 = .ok (.ireturn, 1) := by decide +kernel
set_option maxRecDepth 20000 in
theorem ggJ8_newLength_cabcc_J8_hugeLength_7cf53 : GoodIn wsJ8_newLength_cabcc wsJ8_hugeLength_7cf53 := goodIn_r _ [9, 5] (by decide +kernel) (by decide +kernel)
set_option maxRecDepth 20000 in
theorem gJ8_newLength_cabcc_J8_hugeLength_7cf53 : GoodIn wsJ8_newLength_cabcc (va_wsS RJ8 201 yJ8_hugeLength_7cf53 wsJ8_hugeLength_7cf53) := goodIn_app (goodIn_of _ (by decide +kernel)) ggJ8_newLength_cabcc_J8_hugeLength_7cf53
theorem dJ8_newLength_cabcc_0 : decode cJ8_newLength_cabcc 0 = .ok (.iload_n 0, 1) := by decide +kernel
theorem dJ8_newLength_cabcc_1 : decode cJ8_newLength_cabcc 1 = .ok (.iload_n 1, 1) := by decide +kernel
theorem dJ8_newLength_cabcc_2 : decode cJ8_newLength_cabcc 2 = .ok (.iload_n 2, 1) := by decide +kernel
theorem dJ8_newLength_cabcc_3 : decode cJ8_newLength_cabcc 3 = .ok (.invokestatic 194, 3) := by decide +kernel
theorem dJ8_newLength_cabcc_6 : decode cJ8_newLength_cabcc 6 = .ok (.iadd, 1) := by decide +kernel
theorem dJ8_newLength_cabcc_7 : decode cJ8_newLength_cabcc 7 = .ok (.istore_n 3, 1) := by decide +kernel
theorem dJ8_newLength_cabcc_8 : decode cJ8_newLength_cabcc 8 = .ok (.iconst 0, 1) := by decide +kernel
theorem dJ8_newLength_cabcc_9 : decode cJ8_newLength_cabcc 9 = .ok (.iload_n 3, 1) := by decide +kernel
theorem dJ8_newLength_cabcc_10 : decode cJ8_newLength_cabcc 10 = .ok (.if_icmp .ge 11, 3) := by decide +kernel
theorem dJ8_newLength_cabcc_13 : decode cJ8_newLength_cabcc 13 = .ok (.iload_n 3, 1) := by decide +kernel
theorem dJ8_newLength_cabcc_14 : decode cJ8_newLength_cabcc 14 = .ok (.ldc 200, 2) := by decide +kernel
theorem dJ8_newLength_cabcc_16 : decode cJ8_newLength_cabcc 16 = .ok (.if_icmp .gt 5, 3) := by decide +kernel
theorem dJ8_newLength_cabcc_19 : decode cJ8_newLength_cabcc 19 = .ok (.iload_n 3, 1) := by decide +kernel
theorem dJ8_newLength_cabcc_20 : decode cJ8_newLength_cabcc 20 = .ok (.ireturn, 1) := by decide +kernel
theorem dJ8_newLength_cabcc_21 : decode cJ8_newLength_cabcc 21 = .ok (.iload_n 0, 1) := by decide +kernel
theorem dJ8_newLength_cabcc_22 : decode cJ8_newLength_cabcc 22 = .ok (.iload_n 1, 1) := by decide +kernel
theorem dJ8_newLength_cabcc_23 : decode cJ8_newLength_cabcc 23 = .ok (.invokestatic 201, 3) := by decide +kernel
theorem dJ8_newLength_cabcc_26 : decode cJ8_newLength_cabcc 26 = .ok (.ireturn, 1) := by decide +kernel
theorem dJ8_hugeLength_7cf53_0 : decode cJ8_hugeLength_7cf53 0 = .ok (.iload_n 0, 1) := by decide +kernel
theorem dJ8_hugeLength_7cf53_1 : decode cJ8_hugeLength_7cf53 1 = .ok (.iload_n 1, 1) := by decide +kernel
theorem dJ8_hugeLength_7cf53_2 : decode cJ8_hugeLength_7cf53 2 = .ok (.iadd, 1) := by decide +kernel
theorem dJ8_hugeLength_7cf53_3 : decode cJ8_hugeLength_7cf53 3 = .ok (.istore_n 2, 1) := by decide +kernel
theorem dJ8_hugeLength_7cf53_4 : decode cJ8_hugeLength_7cf53 4 = .ok (.iload_n 2, 1) := by decide +kernel
theorem dJ8_hugeLength_7cf53_5 : decode cJ8_hugeLength_7cf53 5 = .ok (.ifCond .ge 44, 3) := by decide +kernel
theorem dJ8_hugeLength_7cf53_8 : decode cJ8_hugeLength_7cf53 8 = .ok (.new 204, 3) := by decide +kernel
theorem dJ8_hugeLength_7cf53_11 : decode cJ8_hugeLength_7cf53 11 = .ok (.dup, 1) := by decide +kernel
theorem dJ8_hugeLength_7cf53_12 : decode cJ8_hugeLength_7cf53 12 = .ok (.new 89, 3) := by decide +kernel
theorem dJ8_hugeLength_7cf53_15 : decode cJ8_hugeLength_7cf53 15 = .ok (.dup, 1) := by decide +kernel
theorem dJ8_hugeLength_7cf53_16 : decode cJ8_hugeLength_7cf53 16 = .ok (.invokespecial 91, 3) := by decide +kernel
theorem dJ8_hugeLength_7cf53_19 : decode cJ8_hugeLength_7cf53 19 = .ok (.ldc 206, 2) := by decide +kernel
theorem dJ8_hugeLength_7cf53_21 : decode cJ8_hugeLength_7cf53 21 = .ok (.invokevirtual 94, 3) := by decide +kernel
theorem dJ8_hugeLength_7cf53_24 : decode cJ8_hugeLength_7cf53 24 = .ok (.iload_n 0, 1) := by decide +kernel
theorem dJ8_hugeLength_7cf53_25 : decode cJ8_hugeLength_7cf53 25 = .ok (.invokevirtual 98, 3) := by decide +kernel
theorem dJ8_hugeLength_7cf53_28 : decode cJ8_hugeLength_7cf53 28 = .ok (.ldc 208, 2) := by decide +kernel
theorem dJ8_hugeLength_7cf53_30 : decode cJ8_hugeLength_7cf53 30 = .ok (.invokevirtual 94, 3) := by decide +kernel
theorem dJ8_hugeLength_7cf53_33 : decode cJ8_hugeLength_7cf53 33 = .ok (.iload_n 1, 1) := by decide +kernel
theorem dJ8_hugeLength_7cf53_34 : decode cJ8_hugeLength_7cf53 34 = .ok (.invokevirtual 98, 3) := by decide +kernel
theorem dJ8_hugeLength_7cf53_37 : decode cJ8_hugeLength_7cf53 37 = .ok (.ldc 210, 2) := by decide +kernel
theorem dJ8_hugeLength_7cf53_39 : decode cJ8_hugeLength_7cf53 39 = .ok (.invokevirtual 94, 3) := by decide +kernel
theorem dJ8_hugeLength_7cf53_42 : decode cJ8_hugeLength_7cf53 42 = .ok (.invokevirtual 101, 3) := by decide +kernel
theorem dJ8_hugeLength_7cf53_45 : decode cJ8_hugeLength_7cf53 45 = .ok (.invokespecial 212, 3) := by decide +kernel
theorem dJ8_hugeLength_7cf53_48 : decode cJ8_hugeLength_7cf53 48 = .ok (.athrow, 1) := by decide +kernel
theorem dJ8_hugeLength_7cf53_49 : decode cJ8_hugeLength_7cf53 49 = .ok (.iload_n 2, 1) := by decide +kernel
theorem dJ8_hugeLength_7cf53_50 : decode cJ8_hugeLength_7cf53 50 = .ok (.ldc 200, 2) := by decide +kernel
theorem dJ8_hugeLength_7cf53_52 : decode cJ8_hugeLength_7cf53 52 = .ok (.if_icmp .gt 6, 3) := by decide +kernel
theorem dJ8_hugeLength_7cf53_55 : decode cJ8_hugeLength_7cf53 55 = .ok (.ldc 200, 2) := by decide +kernel
theorem dJ8_hugeLength_7cf53_57 : decode cJ8_hugeLength_7cf53 57 = .ok (.ireturn, 1) := by decide +kernel
theorem dJ8_hugeLength_7cf53_58 : decode cJ8_hugeLength_7cf53 58 = .ok (.iload_n 2, 1) := by decide +kernel
theorem dJ8_hugeLength_7cf53_59 : decode cJ8_hugeLength_7cf53 59 = .ok (.ireturn, 1) := by decide +kernel
theorem dJ3_checkIndex_8e157_0 : decode cJ3_checkIndex_8e157 0 = .ok (.iload_n 0, 1) := by decide +kernel
theorem dJ3_checkIndex_8e157_1 : decode cJ3_checkIndex_8e157 1 = .ok (.ifCond .lt 8, 3) := by decide +kernel
theorem dJ3_checkIndex_8e157_4 : decode cJ3_checkIndex_8e157 4 = .ok (.iload_n 0, 1) := by decide +kernel
theorem dJ3_checkIndex_8e157_5 : decode cJ3_checkIndex_8e157 5 = .ok (.iload_n 1, 1) := by decide +kernel
theorem dJ3_checkIndex_8e157_6 : decode cJ3_checkIndex_8e157 6 = .ok (.if_icmp .lt 10, 3) := by decide +kernel
theorem dJ3_checkIndex_8e157_9 : decode cJ3_checkIndex_8e157 9 = .ok (.aload_n 2, 1) := by decide +kernel
theorem dJ3_checkIndex_8e157_10 : decode cJ3_checkIndex_8e157 10 = .ok (.iload_n 0, 1) := by decide +kernel
theorem dJ3_checkIndex_8e157_11 : decode cJ3_checkIndex_8e157 11 = .ok (.iload_n 1, 1) := by decide +kernel
theorem dJ3_checkIndex_8e157_12 : decode cJ3_checkIndex_8e157 12 = .ok (.invokestatic 95, 3) := by decide +kernel
theorem dJ3_checkIndex_8e157_15 : decode cJ3_checkIndex_8e157 15 = .ok (.athrow, 1) := by decide +kernel
theorem dJ3_checkIndex_8e157_16 : decode cJ3_checkIndex_8e157 16 = .ok (.iload_n 0, 1) := by decide +kernel
theorem dJ3_checkIndex_8e157_17 : decode cJ3_checkIndex_8e157 17 = .ok (.ireturn, 1) := by decide +kernel
