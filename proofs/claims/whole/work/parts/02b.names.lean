theorem dX0_init_0 : decode cX0_init 0 = .ok (.aload_n 0, 1) := by decide +kernel
theorem dX0_init_1 : decode cX0_init 1 = .ok (.invokespecial 3, 3) := by decide +kernel
theorem dX0_init_4 : decode cX0_init 4 = .ok (.aload_n 0, 1) := by decide +kernel
theorem dX0_init_5 : decode cX0_init 5 = .ok (.bipush 12, 2) := by decide +kernel
theorem dX0_init_7 : decode cX0_init 7 = .ok (.newarray .int, 2) := by decide +kernel
theorem dX0_init_9 : decode cX0_init 9 = .ok (.putfield 9, 3) := by decide +kernel
theorem dX0_init_12 : decode cX0_init 12 = .ok (.aload_n 0, 1) := by decide +kernel
theorem dX0_init_13 : decode cX0_init 13 = .ok (.iload_n 1, 1) := by decide +kernel
theorem dX0_init_14 : decode cX0_init 14 = .ok (.putfield 15, 3) := by decide +kernel
theorem dX0_init_17 : decode cX0_init 17 = .ok (.aload_n 0, 1) := by decide +kernel
theorem dX0_init_18 : decode cX0_init 18 = .ok (.iload_n 2, 1) := by decide +kernel
theorem dX0_init_19 : decode cX0_init 19 = .ok (.putfield 19, 3) := by decide +kernel
theorem dX0_init_22 : decode cX0_init 22 = .ok (.aload_n 0, 1) := by decide +kernel
theorem dX0_init_23 : decode cX0_init 23 = .ok (.iload_n 3, 1) := by decide +kernel
theorem dX0_init_24 : decode cX0_init 24 = .ok (.putfield 22, 3) := by decide +kernel
theorem dX0_init_27 : decode cX0_init 27 = .ok (.aload_n 0, 1) := by decide +kernel
theorem dX0_init_28 : decode cX0_init 28 = .ok (.iload 4, 2) := by decide +kernel
theorem dX0_init_30 : decode cX0_init 30 = .ok (.putfield 25, 3) := by decide +kernel
theorem dX0_init_33 : decode cX0_init 33 = .ok (.return_, 1) := by decide +kernel
theorem dX0_isAwakeIn_0 : decode cX0_isAwakeIn 0 = .ok (.iload_n 1, 1) := by decide +kernel
theorem dX0_isAwakeIn_1 : decode cX0_isAwakeIn 1 = .ok (.aload_n 0, 1) := by decide +kernel
theorem dX0_isAwakeIn_2 : decode cX0_isAwakeIn 2 = .ok (.getfield 22, 3) := by decide +kernel
theorem dX0_isAwakeIn_5 : decode cX0_isAwakeIn 5 = .ok (.if_icmp .lt 15, 3) := by decide +kernel
theorem dX0_isAwakeIn_8 : decode cX0_isAwakeIn 8 = .ok (.iload_n 1, 1) := by decide +kernel
theorem dX0_isAwakeIn_9 : decode cX0_isAwakeIn 9 = .ok (.aload_n 0, 1) := by decide +kernel
theorem dX0_isAwakeIn_10 : decode cX0_isAwakeIn 10 = .ok (.getfield 25, 3) := by decide +kernel
theorem dX0_isAwakeIn_13 : decode cX0_isAwakeIn 13 = .ok (.if_icmp .ge 7, 3) := by decide +kernel
theorem dX0_isAwakeIn_16 : decode cX0_isAwakeIn 16 = .ok (.iconst 1, 1) := by decide +kernel
theorem dX0_isAwakeIn_17 : decode cX0_isAwakeIn 17 = .ok (.goto 4, 3) := by decide +kernel
theorem dX0_isAwakeIn_20 : decode cX0_isAwakeIn 20 = .ok (.iconst 0, 1) := by decide +kernel
theorem dX0_isAwakeIn_21 : decode cX0_isAwakeIn 21 = .ok (.ireturn, 1) := by decide +kernel
theorem dX0_setPlace_0 : decode cX0_setPlace 0 = .ok (.iload_n 1, 1) := by decide +kernel
theorem dX0_setPlace_1 : decode cX0_setPlace 1 = .ok (.ifCond .lt 19, 3) := by decide +kernel
theorem dX0_setPlace_4 : decode cX0_setPlace 4 = .ok (.iload_n 1, 1) := by decide +kernel
theorem dX0_setPlace_5 : decode cX0_setPlace 5 = .ok (.aload_n 0, 1) := by decide +kernel
theorem dX0_setPlace_6 : decode cX0_setPlace 6 = .ok (.getfield 9, 3) := by decide +kernel
theorem dX0_setPlace_9 : decode cX0_setPlace 9 = .ok (.arraylength, 1) := by decide +kernel
theorem dX0_setPlace_10 : decode cX0_setPlace 10 = .ok (.if_icmp .ge 10, 3) := by decide +kernel
theorem dX0_setPlace_13 : decode cX0_setPlace 13 = .ok (.aload_n 0, 1) := by decide +kernel
theorem dX0_setPlace_14 : decode cX0_setPlace 14 = .ok (.getfield 9, 3) := by decide +kernel
theorem dX0_setPlace_17 : decode cX0_setPlace 17 = .ok (.iload_n 1, 1) := by decide +kernel
theorem dX0_setPlace_18 : decode cX0_setPlace 18 = .ok (.iload_n 2, 1) := by decide +kernel
theorem dX0_setPlace_19 : decode cX0_setPlace 19 = .ok (.iastore, 1) := by decide +kernel
theorem dX0_setPlace_20 : decode cX0_setPlace 20 = .ok (.return_, 1) := by decide +kernel
theorem dX0_placeIn_0 : decode cX0_placeIn 0 = .ok (.iload_n 1, 1) := by decide +kernel
theorem dX0_placeIn_1 : decode cX0_placeIn 1 = .ok (.ifCond .lt 21, 3) := by decide +kernel
theorem dX0_placeIn_4 : decode cX0_placeIn 4 = .ok (.iload_n 1, 1) := by decide +kernel
theorem dX0_placeIn_5 : decode cX0_placeIn 5 = .ok (.aload_n 0, 1) := by decide +kernel
theorem dX0_placeIn_6 : decode cX0_placeIn 6 = .ok (.getfield 9, 3) := by decide +kernel
theorem dX0_placeIn_9 : decode cX0_placeIn 9 = .ok (.arraylength, 1) := by decide +kernel
theorem dX0_placeIn_10 : decode cX0_placeIn 10 = .ok (.if_icmp .ge 12, 3) := by decide +kernel
theorem dX0_placeIn_13 : decode cX0_placeIn 13 = .ok (.aload_n 0, 1) := by decide +kernel
theorem dX0_placeIn_14 : decode cX0_placeIn 14 = .ok (.getfield 9, 3) := by decide +kernel
theorem dX0_placeIn_17 : decode cX0_placeIn 17 = .ok (.iload_n 1, 1) := by decide +kernel
theorem dX0_placeIn_18 : decode cX0_placeIn 18 = .ok (.iaload, 1) := by decide +kernel
theorem dX0_placeIn_19 : decode cX0_placeIn 19 = .ok (.goto 4, 3) := by decide +kernel
theorem dX0_placeIn_22 : decode cX0_placeIn 22 = .ok (.iconst (-1), 1) := by decide +kernel
theorem dX0_placeIn_23 : decode cX0_placeIn 23 = .ok (.ireturn, 1) := by decide +kernel
theorem dX1_init_0 : decode cX1_init 0 = .ok (.aload_n 0, 1) := by decide +kernel
theorem dX1_init_1 : decode cX1_init 1 = .ok (.invokespecial 3, 3) := by decide +kernel
theorem dX1_init_4 : decode cX1_init 4 = .ok (.aload_n 0, 1) := by decide +kernel
theorem dX1_init_5 : decode cX1_init 5 = .ok (.iconst (-1), 1) := by decide +kernel
theorem dX1_init_6 : decode cX1_init 6 = .ok (.putfield 9, 3) := by decide +kernel
theorem dX1_init_9 : decode cX1_init 9 = .ok (.aload_n 0, 1) := by decide +kernel
theorem dX1_init_10 : decode cX1_init 10 = .ok (.iload_n 1, 1) := by decide +kernel
theorem dX1_init_11 : decode cX1_init 11 = .ok (.putfield 15, 3) := by decide +kernel
theorem dX1_init_14 : decode cX1_init 14 = .ok (.aload_n 0, 1) := by decide +kernel
theorem dX1_init_15 : decode cX1_init 15 = .ok (.iload_n 2, 1) := by decide +kernel
theorem dX1_init_16 : decode cX1_init 16 = .ok (.putfield 18, 3) := by decide +kernel
theorem dX1_init_19 : decode cX1_init 19 = .ok (.aload_n 0, 1) := by decide +kernel
theorem dX1_init_20 : decode cX1_init 20 = .ok (.iload_n 3, 1) := by decide +kernel
theorem dX1_init_21 : decode cX1_init 21 = .ok (.putfield 21, 3) := by decide +kernel
theorem dX1_init_24 : decode cX1_init 24 = .ok (.return_, 1) := by decide +kernel
theorem dX1_hasBid_0 : decode cX1_hasBid 0 = .ok (.aload_n 0, 1) := by decide +kernel
theorem dX1_hasBid_1 : decode cX1_hasBid 1 = .ok (.getfield 9, 3) := by decide +kernel
theorem dX1_hasBid_4 : decode cX1_hasBid 4 = .ok (.iconst (-1), 1) := by decide +kernel
theorem dX1_hasBid_5 : decode cX1_hasBid 5 = .ok (.if_icmp .eq 7, 3) := by decide +kernel
theorem dX1_hasBid_8 : decode cX1_hasBid 8 = .ok (.iconst 1, 1) := by decide +kernel
theorem dX1_hasBid_9 : decode cX1_hasBid 9 = .ok (.goto 4, 3) := by decide +kernel
theorem dX1_hasBid_12 : decode cX1_hasBid 12 = .ok (.iconst 0, 1) := by decide +kernel
theorem dX1_hasBid_13 : decode cX1_hasBid 13 = .ok (.ireturn, 1) := by decide +kernel
theorem dX1_writeBid_0 : decode cX1_writeBid 0 = .ok (.aload_n 0, 1) := by decide +kernel
theorem dX1_writeBid_1 : decode cX1_writeBid 1 = .ok (.iload_n 1, 1) := by decide +kernel
theorem dX1_writeBid_2 : decode cX1_writeBid 2 = .ok (.putfield 9, 3) := by decide +kernel
theorem dX1_writeBid_5 : decode cX1_writeBid 5 = .ok (.aload_n 0, 1) := by decide +kernel
theorem dX1_writeBid_6 : decode cX1_writeBid 6 = .ok (.iload_n 2, 1) := by decide +kernel
theorem dX1_writeBid_7 : decode cX1_writeBid 7 = .ok (.putfield 24, 3) := by decide +kernel
theorem dX1_writeBid_10 : decode cX1_writeBid 10 = .ok (.return_, 1) := by decide +kernel
theorem dX1_dropBid_0 : decode cX1_dropBid 0 = .ok (.aload_n 0, 1) := by decide +kernel
theorem dX1_dropBid_1 : decode cX1_dropBid 1 = .ok (.iconst (-1), 1) := by decide +kernel
theorem dX1_dropBid_2 : decode cX1_dropBid 2 = .ok (.putfield 9, 3) := by decide +kernel
theorem dX1_dropBid_5 : decode cX1_dropBid 5 = .ok (.aload_n 0, 1) := by decide +kernel
theorem dX1_dropBid_6 : decode cX1_dropBid 6 = .ok (.iconst 0, 1) := by decide +kernel
theorem dX1_dropBid_7 : decode cX1_dropBid 7 = .ok (.putfield 24, 3) := by decide +kernel
theorem dX1_dropBid_10 : decode cX1_dropBid 10 = .ok (.return_, 1) := by decide +kernel
theorem dX1_couldBidFor_0 : decode cX1_couldBidFor 0 = .ok (.aload_n 0, 1) := by decide +kernel
theorem dX1_couldBidFor_1 : decode cX1_couldBidFor 1 = .ok (.getfield 15, 3) := by decide +kernel
theorem dX1_couldBidFor_4 : decode cX1_couldBidFor 4 = .ok (.aload_n 0, 1) := by decide +kernel
theorem dX1_couldBidFor_5 : decode cX1_couldBidFor 5 = .ok (.getfield 24, 3) := by decide +kernel
theorem dX1_couldBidFor_8 : decode cX1_couldBidFor 8 = .ok (.if_icmp .lt 29, 3) := by decide +kernel
theorem dX1_couldBidFor_11 : decode cX1_couldBidFor 11 = .ok (.aload_n 1, 1) := by decide +kernel
theorem dX1_couldBidFor_12 : decode cX1_couldBidFor 12 = .ok (.getfield 27, 3) := by decide +kernel
theorem dX1_couldBidFor_15 : decode cX1_couldBidFor 15 = .ok (.aload_n 0, 1) := by decide +kernel
theorem dX1_couldBidFor_16 : decode cX1_couldBidFor 16 = .ok (.getfield 18, 3) := by decide +kernel
theorem dX1_couldBidFor_19 : decode cX1_couldBidFor 19 = .ok (.if_icmp .lt 18, 3) := by decide +kernel
theorem dX1_couldBidFor_22 : decode cX1_couldBidFor 22 = .ok (.aload_n 0, 1) := by decide +kernel
theorem dX1_couldBidFor_23 : decode cX1_couldBidFor 23 = .ok (.getfield 24, 3) := by decide +kernel
theorem dX1_couldBidFor_26 : decode cX1_couldBidFor 26 = .ok (.aload_n 1, 1) := by decide +kernel
theorem dX1_couldBidFor_27 : decode cX1_couldBidFor 27 = .ok (.getfield 30, 3) := by decide +kernel
theorem dX1_couldBidFor_30 : decode cX1_couldBidFor 30 = .ok (.if_icmp .lt 7, 3) := by decide +kernel
theorem dX1_couldBidFor_33 : decode cX1_couldBidFor 33 = .ok (.iconst 1, 1) := by decide +kernel
theorem dX1_couldBidFor_34 : decode cX1_couldBidFor 34 = .ok (.goto 4, 3) := by decide +kernel
theorem dX1_couldBidFor_37 : decode cX1_couldBidFor 37 = .ok (.iconst 0, 1) := by decide +kernel
theorem dX1_couldBidFor_38 : decode cX1_couldBidFor 38 = .ok (.ireturn, 1) := by decide +kernel
theorem dX1_isFrightenedBy_0 : decode cX1_isFrightenedBy 0 = .ok (.aload_n 0, 1) := by decide +kernel
theorem dX1_isFrightenedBy_1 : decode cX1_isFrightenedBy 1 = .ok (.getfield 21, 3) := by decide +kernel
theorem dX1_isFrightenedBy_4 : decode cX1_isFrightenedBy 4 = .ok (.ifCond .lt 15, 3) := by decide +kernel
theorem dX1_isFrightenedBy_7 : decode cX1_isFrightenedBy 7 = .ok (.iload_n 1, 1) := by decide +kernel
theorem dX1_isFrightenedBy_8 : decode cX1_isFrightenedBy 8 = .ok (.aload_n 0, 1) := by decide +kernel
theorem dX1_isFrightenedBy_9 : decode cX1_isFrightenedBy 9 = .ok (.getfield 21, 3) := by decide +kernel
theorem dX1_isFrightenedBy_12 : decode cX1_isFrightenedBy 12 = .ok (.if_icmp .le 7, 3) := by decide +kernel
theorem dX1_isFrightenedBy_15 : decode cX1_isFrightenedBy 15 = .ok (.iconst 1, 1) := by decide +kernel
theorem dX1_isFrightenedBy_16 : decode cX1_isFrightenedBy 16 = .ok (.goto 4, 3) := by decide +kernel
theorem dX1_isFrightenedBy_19 : decode cX1_isFrightenedBy 19 = .ok (.iconst 0, 1) := by decide +kernel
theorem dX1_isFrightenedBy_20 : decode cX1_isFrightenedBy 20 = .ok (.ireturn, 1) := by decide +kernel
set_option maxRecDepth 20000 in
theorem ggX1_isUpsetBy_X1_isFrightenedBy : GoodIn wsX1_isUpsetBy wsX1_isFrightenedBy := goodIn_r _ [6, 1, 7, 8, 9, 10, 11, 12, 13] (by decide +kernel) (by decide +kernel)
set_option maxRecDepth 20000 in
theorem gX1_isUpsetBy_X1_isFrightenedBy : GoodIn wsX1_isUpsetBy (wsV RX1 33 RX1 yX1_isFrightenedBy wsX1_isFrightenedBy) := goodIn_app (goodIn_of _ (by decide +kernel)) ggX1_isUpsetBy_X1_isFrightenedBy
theorem dX1_isUpsetBy_0 : decode cX1_isUpsetBy 0 = .ok (.aload_n 0, 1) := by decide +kernel
theorem dX1_isUpsetBy_1 : decode cX1_isUpsetBy 1 = .ok (.getfield 21, 3) := by decide +kernel
theorem dX1_isUpsetBy_4 : decode cX1_isUpsetBy 4 = .ok (.ifCond .ge 16, 3) := by decide +kernel
theorem dX1_isUpsetBy_7 : decode cX1_isUpsetBy 7 = .ok (.iload_n 1, 1) := by decide +kernel
theorem dX1_isUpsetBy_8 : decode cX1_isUpsetBy 8 = .ok (.aload_n 0, 1) := by decide +kernel
theorem dX1_isUpsetBy_9 : decode cX1_isUpsetBy 9 = .ok (.getfield 21, 3) := by decide +kernel
theorem dX1_isUpsetBy_12 : decode cX1_isUpsetBy 12 = .ok (.ineg, 1) := by decide +kernel
theorem dX1_isUpsetBy_13 : decode cX1_isUpsetBy 13 = .ok (.if_icmp .ge 7, 3) := by decide +kernel
theorem dX1_isUpsetBy_16 : decode cX1_isUpsetBy 16 = .ok (.iconst 1, 1) := by decide +kernel
theorem dX1_isUpsetBy_17 : decode cX1_isUpsetBy 17 = .ok (.goto 4, 3) := by decide +kernel
theorem dX1_isUpsetBy_20 : decode cX1_isUpsetBy 20 = .ok (.iconst 0, 1) := by decide +kernel
theorem dX1_isUpsetBy_21 : decode cX1_isUpsetBy 21 = .ok (.istore_n 2, 1) := by decide +kernel
theorem dX1_isUpsetBy_22 : decode cX1_isUpsetBy 22 = .ok (.iload_n 2, 1) := by decide +kernel
theorem dX1_isUpsetBy_23 : decode cX1_isUpsetBy 23 = .ok (.ifCond .ne 11, 3) := by decide +kernel
theorem dX1_isUpsetBy_26 : decode cX1_isUpsetBy 26 = .ok (.aload_n 0, 1) := by decide +kernel
theorem dX1_isUpsetBy_27 : decode cX1_isUpsetBy 27 = .ok (.iload_n 1, 1) := by decide +kernel
theorem dX1_isUpsetBy_28 : decode cX1_isUpsetBy 28 = .ok (.invokevirtual 33, 3) := by decide +kernel
theorem dX1_isUpsetBy_31 : decode cX1_isUpsetBy 31 = .ok (.ifCond .eq 7, 3) := by decide +kernel
theorem dX1_isUpsetBy_34 : decode cX1_isUpsetBy 34 = .ok (.iconst 1, 1) := by decide +kernel
theorem dX1_isUpsetBy_35 : decode cX1_isUpsetBy 35 = .ok (.goto 4, 3) := by decide +kernel
theorem dX1_isUpsetBy_38 : decode cX1_isUpsetBy 38 = .ok (.iconst 0, 1) := by decide +kernel
theorem dX1_isUpsetBy_39 : decode cX1_isUpsetBy 39 = .ok (.ireturn, 1) := by decide +kernel
set_option maxRecDepth 20000 in
theorem ggX1_stayed_X1_isUpsetBy : GoodIn wsX1_stayed wsX1_isUpsetBy := goodIn_r _ [16, 4, 17, 18, 19, 15, 20, 21, 22, 23, 24, 25, 26, 27] (by decide +kernel) (by decide +kernel)
set_option maxRecDepth 20000 in
theorem gX1_stayed_X1_isUpsetBy : GoodIn wsX1_stayed (wsV RX1 40 RX1 yX1_isUpsetBy wsX1_isUpsetBy) := goodIn_app (goodIn_of _ (by decide +kernel)) ggX1_stayed_X1_isUpsetBy
set_option maxRecDepth 20000 in
theorem ggX1_stayed_X1_isFrightenedBy : GoodIn wsX1_stayed wsX1_isFrightenedBy := goodIn_r _ [20, 4, 21, 22, 23, 24, 25, 26, 27] (by decide +kernel) (by decide +kernel)
set_option maxRecDepth 20000 in
theorem gX1_stayed_X1_isFrightenedBy : GoodIn wsX1_stayed (wsV RX1 33 RX1 yX1_isFrightenedBy wsX1_isFrightenedBy) := goodIn_app (goodIn_of _ (by decide +kernel)) ggX1_stayed_X1_isFrightenedBy
theorem dX1_stayed_0 : decode cX1_stayed 0 = .ok (.aload_n 0, 1) := by decide +kernel
theorem dX1_stayed_1 : decode cX1_stayed 1 = .ok (.dup, 1) := by decide +kernel
theorem dX1_stayed_2 : decode cX1_stayed 2 = .ok (.getfield 15, 3) := by decide +kernel
theorem dX1_stayed_5 : decode cX1_stayed 5 = .ok (.iload_n 1, 1) := by decide +kernel
theorem dX1_stayed_6 : decode cX1_stayed 6 = .ok (.isub, 1) := by decide +kernel
theorem dX1_stayed_7 : decode cX1_stayed 7 = .ok (.putfield 15, 3) := by decide +kernel
theorem dX1_stayed_10 : decode cX1_stayed 10 = .ok (.aload_n 0, 1) := by decide +kernel
theorem dX1_stayed_11 : decode cX1_stayed 11 = .ok (.dup, 1) := by decide +kernel
theorem dX1_stayed_12 : decode cX1_stayed 12 = .ok (.getfield 37, 3) := by decide +kernel
theorem dX1_stayed_15 : decode cX1_stayed 15 = .ok (.iconst 1, 1) := by decide +kernel
theorem dX1_stayed_16 : decode cX1_stayed 16 = .ok (.iadd, 1) := by decide +kernel
theorem dX1_stayed_17 : decode cX1_stayed 17 = .ok (.putfield 37, 3) := by decide +kernel
theorem dX1_stayed_20 : decode cX1_stayed 20 = .ok (.aload_n 0, 1) := by decide +kernel
theorem dX1_stayed_21 : decode cX1_stayed 21 = .ok (.iload_n 2, 1) := by decide +kernel
theorem dX1_stayed_22 : decode cX1_stayed 22 = .ok (.invokevirtual 40, 3) := by decide +kernel
theorem dX1_stayed_25 : decode cX1_stayed 25 = .ok (.ifCond .eq 13, 3) := by decide +kernel
theorem dX1_stayed_28 : decode cX1_stayed 28 = .ok (.aload_n 0, 1) := by decide +kernel
theorem dX1_stayed_29 : decode cX1_stayed 29 = .ok (.dup, 1) := by decide +kernel
theorem dX1_stayed_30 : decode cX1_stayed 30 = .ok (.getfield 43, 3) := by decide +kernel
theorem dX1_stayed_33 : decode cX1_stayed 33 = .ok (.iconst 1, 1) := by decide +kernel
theorem dX1_stayed_34 : decode cX1_stayed 34 = .ok (.iadd, 1) := by decide +kernel
theorem dX1_stayed_35 : decode cX1_stayed 35 = .ok (.putfield 43, 3) := by decide +kernel
theorem dX1_stayed_38 : decode cX1_stayed 38 = .ok (.aload_n 0, 1) := by decide +kernel
theorem dX1_stayed_39 : decode cX1_stayed 39 = .ok (.iload_n 2, 1) := by decide +kernel
theorem dX1_stayed_40 : decode cX1_stayed 40 = .ok (.invokevirtual 33, 3) := by decide +kernel
theorem dX1_stayed_43 : decode cX1_stayed 43 = .ok (.ifCond .eq 20, 3) := by decide +kernel
theorem dX1_stayed_46 : decode cX1_stayed 46 = .ok (.aload_n 0, 1) := by decide +kernel
theorem dX1_stayed_47 : decode cX1_stayed 47 = .ok (.aload_n 0, 1) := by decide +kernel
theorem dX1_stayed_48 : decode cX1_stayed 48 = .ok (.getfield 21, 3) := by decide +kernel
theorem dX1_stayed_51 : decode cX1_stayed 51 = .ok (.iconst 1, 1) := by decide +kernel
theorem dX1_stayed_52 : decode cX1_stayed 52 = .ok (.isub, 1) := by decide +kernel
theorem dX1_stayed_53 : decode cX1_stayed 53 = .ok (.iconst 0, 1) := by decide +kernel
theorem dX1_stayed_54 : decode cX1_stayed 54 = .ok (.invokestatic 46, 3) := by decide +kernel
theorem dX1_stayed_57 : decode cX1_stayed 57 = .ok (.putfield 21, 3) := by decide +kernel
theorem dX1_stayed_60 : decode cX1_stayed 60 = .ok (.goto 25, 3) := by decide +kernel
theorem dX1_stayed_63 : decode cX1_stayed 63 = .ok (.aload_n 0, 1) := by decide +kernel
theorem dX1_stayed_64 : decode cX1_stayed 64 = .ok (.getfield 21, 3) := by decide +kernel
theorem dX1_stayed_67 : decode cX1_stayed 67 = .ok (.ifCond .lt 18, 3) := by decide +kernel
theorem dX1_stayed_70 : decode cX1_stayed 70 = .ok (.aload_n 0, 1) := by decide +kernel
theorem dX1_stayed_71 : decode cX1_stayed 71 = .ok (.aload_n 0, 1) := by decide +kernel
theorem dX1_stayed_72 : decode cX1_stayed 72 = .ok (.getfield 21, 3) := by decide +kernel
theorem dX1_stayed_75 : decode cX1_stayed 75 = .ok (.iconst 1, 1) := by decide +kernel
theorem dX1_stayed_76 : decode cX1_stayed 76 = .ok (.iadd, 1) := by decide +kernel
theorem dX1_stayed_77 : decode cX1_stayed 77 = .ok (.bipush 90, 2) := by decide +kernel
theorem dX1_stayed_79 : decode cX1_stayed 79 = .ok (.invokestatic 52, 3) := by decide +kernel
theorem dX1_stayed_82 : decode cX1_stayed 82 = .ok (.putfield 21, 3) := by decide +kernel
theorem dX1_stayed_85 : decode cX1_stayed 85 = .ok (.return_, 1) := by decide +kernel
theorem dX2_init_0 : decode cX2_init 0 = .ok (.aload_n 0, 1) := by decide +kernel
theorem dX2_init_1 : decode cX2_init 1 = .ok (.invokespecial 1, 3) := by decide +kernel
theorem dX2_init_4 : decode cX2_init 4 = .ok (.aload_n 0, 1) := by decide +kernel
theorem dX2_init_5 : decode cX2_init 5 = .ok (.iload_n 1, 1) := by decide +kernel
theorem dX2_init_6 : decode cX2_init 6 = .ok (.putfield 7, 3) := by decide +kernel
theorem dX2_init_9 : decode cX2_init 9 = .ok (.aload_n 0, 1) := by decide +kernel
theorem dX2_init_10 : decode cX2_init 10 = .ok (.iload_n 2, 1) := by decide +kernel
theorem dX2_init_11 : decode cX2_init 11 = .ok (.putfield 13, 3) := by decide +kernel
theorem dX2_init_14 : decode cX2_init 14 = .ok (.aload_n 0, 1) := by decide +kernel
theorem dX2_init_15 : decode cX2_init 15 = .ok (.iload_n 3, 1) := by decide +kernel
theorem dX2_init_16 : decode cX2_init 16 = .ok (.putfield 16, 3) := by decide +kernel
theorem dX2_init_19 : decode cX2_init 19 = .ok (.return_, 1) := by decide +kernel
theorem dX2_leadsTo_0 : decode cX2_leadsTo 0 = .ok (.aload_n 0, 1) := by decide +kernel
theorem dX2_leadsTo_1 : decode cX2_leadsTo 1 = .ok (.getfield 19, 3) := by decide +kernel
theorem dX2_leadsTo_4 : decode cX2_leadsTo 4 = .ok (.iload_n 1, 1) := by decide +kernel
theorem dX2_leadsTo_5 : decode cX2_leadsTo 5 = .ok (.ishr, 1) := by decide +kernel
theorem dX2_leadsTo_6 : decode cX2_leadsTo 6 = .ok (.iconst 1, 1) := by decide +kernel
theorem dX2_leadsTo_7 : decode cX2_leadsTo 7 = .ok (.iand, 1) := by decide +kernel
theorem dX2_leadsTo_8 : decode cX2_leadsTo 8 = .ok (.iconst 1, 1) := by decide +kernel
theorem dX2_leadsTo_9 : decode cX2_leadsTo 9 = .ok (.if_icmp .ne 7, 3) := by decide +kernel
theorem dX2_leadsTo_12 : decode cX2_leadsTo 12 = .ok (.iconst 1, 1) := by decide +kernel
theorem dX2_leadsTo_13 : decode cX2_leadsTo 13 = .ok (.goto 4, 3) := by decide +kernel
theorem dX2_leadsTo_16 : decode cX2_leadsTo 16 = .ok (.iconst 0, 1) := by decide +kernel
theorem dX2_leadsTo_17 : decode cX2_leadsTo 17 = .ok (.ireturn, 1) := by decide +kernel
theorem dX2_openTo_0 : decode cX2_openTo 0 = .ok (.aload_n 0, 1) := by decide +kernel
theorem dX2_openTo_1 : decode cX2_openTo 1 = .ok (.dup, 1) := by decide +kernel
theorem dX2_openTo_2 : decode cX2_openTo 2 = .ok (.getfield 19, 3) := by decide +kernel
theorem dX2_openTo_5 : decode cX2_openTo 5 = .ok (.iconst 1, 1) := by decide +kernel
theorem dX2_openTo_6 : decode cX2_openTo 6 = .ok (.iload_n 1, 1) := by decide +kernel
theorem dX2_openTo_7 : decode cX2_openTo 7 = .ok (.ishl, 1) := by decide +kernel
theorem dX2_openTo_8 : decode cX2_openTo 8 = .ok (.ior, 1) := by decide +kernel
theorem dX2_openTo_9 : decode cX2_openTo 9 = .ok (.putfield 19, 3) := by decide +kernel
theorem dX2_openTo_12 : decode cX2_openTo 12 = .ok (.return_, 1) := by decide +kernel
set_option maxRecDepth 20000 in
theorem ggX2_doorsThere_J6_bitCount_0f7a4 : GoodIn wsX2_doorsThere wsJ6_bitCount_0f7a4 := goodIn_r _ [5, 6, 7, 8] (by decide +kernel) (by decide +kernel)
set_option maxRecDepth 20000 in
theorem gX2_doorsThere_J6_bitCount_0f7a4 : GoodIn wsX2_doorsThere (va_wsS RX2 22 yJ6_bitCount_0f7a4 wsJ6_bitCount_0f7a4) := goodIn_app (goodIn_of _ (by decide +kernel)) ggX2_doorsThere_J6_bitCount_0f7a4
theorem dX2_doorsThere_0 : decode cX2_doorsThere 0 = .ok (.aload_n 0, 1) := by decide +kernel
theorem dX2_doorsThere_1 : decode cX2_doorsThere 1 = .ok (.getfield 19, 3) := by decide +kernel
theorem dX2_doorsThere_4 : decode cX2_doorsThere 4 = .ok (.invokestatic 22, 3) := by decide +kernel
theorem dX2_doorsThere_7 : decode cX2_doorsThere 7 = .ok (.ireturn, 1) := by decide +kernel
theorem dX2_wasLet_0 : decode cX2_wasLet 0 = .ok (.aload_n 0, 1) := by decide +kernel
theorem dX2_wasLet_1 : decode cX2_wasLet 1 = .ok (.dup, 1) := by decide +kernel
theorem dX2_wasLet_2 : decode cX2_wasLet 2 = .ok (.getfield 28, 3) := by decide +kernel
theorem dX2_wasLet_5 : decode cX2_wasLet 5 = .ok (.iconst 1, 1) := by decide +kernel
theorem dX2_wasLet_6 : decode cX2_wasLet 6 = .ok (.iadd, 1) := by decide +kernel
theorem dX2_wasLet_7 : decode cX2_wasLet 7 = .ok (.putfield 28, 3) := by decide +kernel
theorem dX2_wasLet_10 : decode cX2_wasLet 10 = .ok (.aload_n 0, 1) := by decide +kernel
theorem dX2_wasLet_11 : decode cX2_wasLet 11 = .ok (.dup, 1) := by decide +kernel
theorem dX2_wasLet_12 : decode cX2_wasLet 12 = .ok (.getfield 31, 3) := by decide +kernel
theorem dX2_wasLet_15 : decode cX2_wasLet 15 = .ok (.iload_n 1, 1) := by decide +kernel
theorem dX2_wasLet_16 : decode cX2_wasLet 16 = .ok (.iadd, 1) := by decide +kernel
theorem dX2_wasLet_17 : decode cX2_wasLet 17 = .ok (.putfield 31, 3) := by decide +kernel
theorem dX2_wasLet_20 : decode cX2_wasLet 20 = .ok (.iload_n 2, 1) := by decide +kernel
theorem dX2_wasLet_21 : decode cX2_wasLet 21 = .ok (.ifCond .eq 17, 3) := by decide +kernel
theorem dX2_wasLet_24 : decode cX2_wasLet 24 = .ok (.aload_n 0, 1) := by decide +kernel
theorem dX2_wasLet_25 : decode cX2_wasLet 25 = .ok (.aload_n 0, 1) := by decide +kernel
theorem dX2_wasLet_26 : decode cX2_wasLet 26 = .ok (.getfield 13, 3) := by decide +kernel
theorem dX2_wasLet_29 : decode cX2_wasLet 29 = .ok (.iconst 1, 1) := by decide +kernel
theorem dX2_wasLet_30 : decode cX2_wasLet 30 = .ok (.isub, 1) := by decide +kernel
theorem dX2_wasLet_31 : decode cX2_wasLet 31 = .ok (.iconst 0, 1) := by decide +kernel
theorem dX2_wasLet_32 : decode cX2_wasLet 32 = .ok (.invokestatic 34, 3) := by decide +kernel
theorem dX2_wasLet_35 : decode cX2_wasLet 35 = .ok (.putfield 13, 3) := by decide +kernel
theorem dX2_wasLet_38 : decode cX2_wasLet 38 = .ok (.return_, 1) := by decide +kernel
theorem dX3_init_0 : decode cX3_init 0 = .ok (.aload_n 0, 1) := by decide +kernel
theorem dX3_init_1 : decode cX3_init 1 = .ok (.invokespecial 3, 3) := by decide +kernel
theorem dX3_init_4 : decode cX3_init 4 = .ok (.aload_n 0, 1) := by decide +kernel
theorem dX3_init_5 : decode cX3_init 5 = .ok (.bipush 12, 2) := by decide +kernel
theorem dX3_init_7 : decode cX3_init 7 = .ok (.newarray .int, 2) := by decide +kernel
theorem dX3_init_9 : decode cX3_init 9 = .ok (.putfield 9, 3) := by decide +kernel
theorem dX3_init_12 : decode cX3_init 12 = .ok (.aload_n 0, 1) := by decide +kernel
theorem dX3_init_13 : decode cX3_init 13 = .ok (.bipush 10, 2) := by decide +kernel
theorem dX3_init_15 : decode cX3_init 15 = .ok (.newarray .int, 2) := by decide +kernel
theorem dX3_init_17 : decode cX3_init 17 = .ok (.putfield 15, 3) := by decide +kernel
theorem dX3_init_20 : decode cX3_init 20 = .ok (.return_, 1) := by decide +kernel
set_option maxRecDepth 20000 in
theorem ggX3_clear_J7_fill_53178 : GoodIn wsX3_clear wsJ7_fill_53178 := goodIn_r _ [6] (by decide +kernel) (by decide +kernel)
set_option maxRecDepth 20000 in
theorem gX3_clear_J7_fill_53178 : GoodIn wsX3_clear (va_wsS RX3 18 yJ7_fill_53178 wsJ7_fill_53178) := goodIn_app (goodIn_of _ (by decide +kernel)) ggX3_clear_J7_fill_53178
theorem dX3_clear_0 : decode cX3_clear 0 = .ok (.aload_n 0, 1) := by decide +kernel
theorem dX3_clear_1 : decode cX3_clear 1 = .ok (.getfield 9, 3) := by decide +kernel
theorem dX3_clear_4 : decode cX3_clear 4 = .ok (.iconst 0, 1) := by decide +kernel
theorem dX3_clear_5 : decode cX3_clear 5 = .ok (.invokestatic 18, 3) := by decide +kernel
theorem dX3_clear_8 : decode cX3_clear 8 = .ok (.aload_n 0, 1) := by decide +kernel
theorem dX3_clear_9 : decode cX3_clear 9 = .ok (.getfield 15, 3) := by decide +kernel
theorem dX3_clear_12 : decode cX3_clear 12 = .ok (.iconst (-1), 1) := by decide +kernel
theorem dX3_clear_13 : decode cX3_clear 13 = .ok (.invokestatic 18, 3) := by decide +kernel
theorem dX3_clear_16 : decode cX3_clear 16 = .ok (.return_, 1) := by decide +kernel
theorem dX3_allow_0 : decode cX3_allow 0 = .ok (.iload_n 1, 1) := by decide +kernel
theorem dX3_allow_1 : decode cX3_allow 1 = .ok (.ifCond .lt 24, 3) := by decide +kernel
theorem dX3_allow_4 : decode cX3_allow 4 = .ok (.iload_n 1, 1) := by decide +kernel
theorem dX3_allow_5 : decode cX3_allow 5 = .ok (.aload_n 0, 1) := by decide +kernel
theorem dX3_allow_6 : decode cX3_allow 6 = .ok (.getfield 9, 3) := by decide +kernel
theorem dX3_allow_9 : decode cX3_allow 9 = .ok (.arraylength, 1) := by decide +kernel
theorem dX3_allow_10 : decode cX3_allow 10 = .ok (.if_icmp .ge 15, 3) := by decide +kernel
theorem dX3_allow_13 : decode cX3_allow 13 = .ok (.aload_n 0, 1) := by decide +kernel
theorem dX3_allow_14 : decode cX3_allow 14 = .ok (.getfield 9, 3) := by decide +kernel
theorem dX3_allow_17 : decode cX3_allow 17 = .ok (.iload_n 1, 1) := by decide +kernel
theorem dX3_allow_18 : decode cX3_allow 18 = .ok (.dup2, 1) := by decide +kernel
theorem dX3_allow_19 : decode cX3_allow 19 = .ok (.iaload, 1) := by decide +kernel
theorem dX3_allow_20 : decode cX3_allow 20 = .ok (.iconst 1, 1) := by decide +kernel
theorem dX3_allow_21 : decode cX3_allow 21 = .ok (.iload_n 2, 1) := by decide +kernel
theorem dX3_allow_22 : decode cX3_allow 22 = .ok (.ishl, 1) := by decide +kernel
theorem dX3_allow_23 : decode cX3_allow 23 = .ok (.ior, 1) := by decide +kernel
theorem dX3_allow_24 : decode cX3_allow 24 = .ok (.iastore, 1) := by decide +kernel
theorem dX3_allow_25 : decode cX3_allow 25 = .ok (.return_, 1) := by decide +kernel
set_option maxRecDepth 20000 in
theorem ggX3_seat_X3_findRoom : GoodIn wsX3_seat wsX3_findRoom := goodIn_r _ [5, 6, 7, 1, 2, 3, 4, 8, 9, 10] (by decide +kernel) (by decide +kernel)
set_option maxRecDepth 20000 in
theorem gX3_seat_X3_findRoom : GoodIn wsX3_seat (va_wsS RX3 28 yX3_findRoom wsX3_findRoom) := goodIn_app (goodIn_of _ (by decide +kernel)) ggX3_seat_X3_findRoom
theorem dX3_seat_0 : decode cX3_seat 0 = .ok (.aload_n 0, 1) := by decide +kernel
theorem dX3_seat_1 : decode cX3_seat 1 = .ok (.iconst 0, 1) := by decide +kernel
theorem dX3_seat_2 : decode cX3_seat 2 = .ok (.putfield 24, 3) := by decide +kernel
theorem dX3_seat_5 : decode cX3_seat 5 = .ok (.aload_n 0, 1) := by decide +kernel
theorem dX3_seat_6 : decode cX3_seat 6 = .ok (.iload_n 1, 1) := by decide +kernel
theorem dX3_seat_7 : decode cX3_seat 7 = .ok (.iconst 0, 1) := by decide +kernel
theorem dX3_seat_8 : decode cX3_seat 8 = .ok (.invokestatic 28, 3) := by decide +kernel
theorem dX3_seat_11 : decode cX3_seat 11 = .ok (.ireturn, 1) := by decide +kernel
set_option maxRecDepth 20000 in
theorem ggX3_findRoom_X3_findRoom : GoodIn wsX3_findRoom wsX3_findRoom := goodIn_r _ [0, 1, 2, 3, 4, 5, 6, 7, 8, 9] (by decide +kernel) (by decide +kernel)
set_option maxRecDepth 20000 in
theorem gX3_findRoom_X3_findRoom : GoodIn wsX3_findRoom (va_wsS RX3 28 yX3_findRoom wsX3_findRoom) := goodIn_app (goodIn_of _ (by decide +kernel)) ggX3_findRoom_X3_findRoom
theorem dX3_findRoom_0 : decode cX3_findRoom 0 = .ok (.iload_n 1, 1) := by decide +kernel
theorem dX3_findRoom_1 : decode cX3_findRoom 1 = .ok (.ifCond .lt 18, 3) := by decide +kernel
theorem dX3_findRoom_4 : decode cX3_findRoom 4 = .ok (.iload_n 1, 1) := by decide +kernel
theorem dX3_findRoom_5 : decode cX3_findRoom 5 = .ok (.aload_n 0, 1) := by decide +kernel
theorem dX3_findRoom_6 : decode cX3_findRoom 6 = .ok (.getfield 9, 3) := by decide +kernel
theorem dX3_findRoom_9 : decode cX3_findRoom 9 = .ok (.arraylength, 1) := by decide +kernel
theorem dX3_findRoom_10 : decode cX3_findRoom 10 = .ok (.if_icmp .ge 9, 3) := by decide +kernel
theorem dX3_findRoom_13 : decode cX3_findRoom 13 = .ok (.iload_n 2, 1) := by decide +kernel
theorem dX3_findRoom_14 : decode cX3_findRoom 14 = .ok (.bipush 10, 2) := by decide +kernel
theorem dX3_findRoom_16 : decode cX3_findRoom 16 = .ok (.if_icmp .le 5, 3) := by decide +kernel
theorem dX3_findRoom_19 : decode cX3_findRoom 19 = .ok (.iconst 0, 1) := by decide +kernel
theorem dX3_findRoom_20 : decode cX3_findRoom 20 = .ok (.ireturn, 1) := by decide +kernel
theorem dX3_findRoom_21 : decode cX3_findRoom 21 = .ok (.iconst 0, 1) := by decide +kernel
theorem dX3_findRoom_22 : decode cX3_findRoom 22 = .ok (.istore_n 3, 1) := by decide +kernel
theorem dX3_findRoom_23 : decode cX3_findRoom 23 = .ok (.iload_n 3, 1) := by decide +kernel
theorem dX3_findRoom_24 : decode cX3_findRoom 24 = .ok (.aload_n 0, 1) := by decide +kernel
theorem dX3_findRoom_25 : decode cX3_findRoom 25 = .ok (.getfield 15, 3) := by decide +kernel
theorem dX3_findRoom_28 : decode cX3_findRoom 28 = .ok (.arraylength, 1) := by decide +kernel
theorem dX3_findRoom_29 : decode cX3_findRoom 29 = .ok (.if_icmp .ge 82, 3) := by decide +kernel
theorem dX3_findRoom_32 : decode cX3_findRoom 32 = .ok (.iconst 1, 1) := by decide +kernel
theorem dX3_findRoom_33 : decode cX3_findRoom 33 = .ok (.iload_n 3, 1) := by decide +kernel
theorem dX3_findRoom_34 : decode cX3_findRoom 34 = .ok (.ishl, 1) := by decide +kernel
theorem dX3_findRoom_35 : decode cX3_findRoom 35 = .ok (.istore 4, 2) := by decide +kernel
theorem dX3_findRoom_37 : decode cX3_findRoom 37 = .ok (.aload_n 0, 1) := by decide +kernel
theorem dX3_findRoom_38 : decode cX3_findRoom 38 = .ok (.getfield 9, 3) := by decide +kernel
theorem dX3_findRoom_41 : decode cX3_findRoom 41 = .ok (.iload_n 1, 1) := by decide +kernel
theorem dX3_findRoom_42 : decode cX3_findRoom 42 = .ok (.iaload, 1) := by decide +kernel
theorem dX3_findRoom_43 : decode cX3_findRoom 43 = .ok (.iload 4, 2) := by decide +kernel
theorem dX3_findRoom_45 : decode cX3_findRoom 45 = .ok (.iand, 1) := by decide +kernel
theorem dX3_findRoom_46 : decode cX3_findRoom 46 = .ok (.ifCond .eq 59, 3) := by decide +kernel
theorem dX3_findRoom_49 : decode cX3_findRoom 49 = .ok (.aload_n 0, 1) := by decide +kernel
theorem dX3_findRoom_50 : decode cX3_findRoom 50 = .ok (.getfield 24, 3) := by decide +kernel
theorem dX3_findRoom_53 : decode cX3_findRoom 53 = .ok (.iload 4, 2) := by decide +kernel
theorem dX3_findRoom_55 : decode cX3_findRoom 55 = .ok (.iand, 1) := by decide +kernel
theorem dX3_findRoom_56 : decode cX3_findRoom 56 = .ok (.ifCond .ne 49, 3) := by decide +kernel
theorem dX3_findRoom_59 : decode cX3_findRoom 59 = .ok (.aload_n 0, 1) := by decide +kernel
theorem dX3_findRoom_60 : decode cX3_findRoom 60 = .ok (.dup, 1) := by decide +kernel
theorem dX3_findRoom_61 : decode cX3_findRoom 61 = .ok (.getfield 24, 3) := by decide +kernel
theorem dX3_findRoom_64 : decode cX3_findRoom 64 = .ok (.iload 4, 2) := by decide +kernel
theorem dX3_findRoom_66 : decode cX3_findRoom 66 = .ok (.ior, 1) := by decide +kernel
theorem dX3_findRoom_67 : decode cX3_findRoom 67 = .ok (.putfield 24, 3) := by decide +kernel
theorem dX3_findRoom_70 : decode cX3_findRoom 70 = .ok (.aload_n 0, 1) := by decide +kernel
theorem dX3_findRoom_71 : decode cX3_findRoom 71 = .ok (.getfield 15, 3) := by decide +kernel
theorem dX3_findRoom_74 : decode cX3_findRoom 74 = .ok (.iload_n 3, 1) := by decide +kernel
theorem dX3_findRoom_75 : decode cX3_findRoom 75 = .ok (.iaload, 1) := by decide +kernel
theorem dX3_findRoom_76 : decode cX3_findRoom 76 = .ok (.istore 5, 2) := by decide +kernel
theorem dX3_findRoom_78 : decode cX3_findRoom 78 = .ok (.iload 5, 2) := by decide +kernel
theorem dX3_findRoom_80 : decode cX3_findRoom 80 = .ok (.iconst (-1), 1) := by decide +kernel
theorem dX3_findRoom_81 : decode cX3_findRoom 81 = .ok (.if_icmp .eq 15, 3) := by decide +kernel
theorem dX3_findRoom_84 : decode cX3_findRoom 84 = .ok (.aload_n 0, 1) := by decide +kernel
theorem dX3_findRoom_85 : decode cX3_findRoom 85 = .ok (.iload 5, 2) := by decide +kernel
theorem dX3_findRoom_87 : decode cX3_findRoom 87 = .ok (.iload_n 2, 1) := by decide +kernel
theorem dX3_findRoom_88 : decode cX3_findRoom 88 = .ok (.iconst 1, 1) := by decide +kernel
theorem dX3_findRoom_89 : decode cX3_findRoom 89 = .ok (.iadd, 1) := by decide +kernel
theorem dX3_findRoom_90 : decode cX3_findRoom 90 = .ok (.invokestatic 28, 3) := by decide +kernel
theorem dX3_findRoom_93 : decode cX3_findRoom 93 = .ok (.ifCond .eq 12, 3) := by decide +kernel
theorem dX3_findRoom_96 : decode cX3_findRoom 96 = .ok (.aload_n 0, 1) := by decide +kernel
theorem dX3_findRoom_97 : decode cX3_findRoom 97 = .ok (.getfield 15, 3) := by decide +kernel
theorem dX3_findRoom_100 : decode cX3_findRoom 100 = .ok (.iload_n 3, 1) := by decide +kernel
theorem dX3_findRoom_101 : decode cX3_findRoom 101 = .ok (.iload_n 1, 1) := by decide +kernel
theorem dX3_findRoom_102 : decode cX3_findRoom 102 = .ok (.iastore, 1) := by decide +kernel
theorem dX3_findRoom_103 : decode cX3_findRoom 103 = .ok (.iconst 1, 1) := by decide +kernel
theorem dX3_findRoom_104 : decode cX3_findRoom 104 = .ok (.ireturn, 1) := by decide +kernel
theorem dX3_findRoom_105 : decode cX3_findRoom 105 = .ok (.iinc 3 1, 3) := by decide +kernel
theorem dX3_findRoom_108 : decode cX3_findRoom 108 = .ok (.goto (-85), 3) := by decide +kernel
theorem dX3_findRoom_111 : decode cX3_findRoom 111 = .ok (.iconst 0, 1) := by decide +kernel
theorem dX3_findRoom_112 : decode cX3_findRoom 112 = .ok (.ireturn, 1) := by decide +kernel
set_option maxRecDepth 20000 in
theorem ggX4_init_Jx4a65c_init_da8c8 : GoodIn wsX4_init wsJx4a65c_init_da8c8 := goodIn_r _ [16, 17, 18, 19, 20, 21, 22, 23, 24, 25, 26, 27, 28, 2, 3, 35, 36, 37] (by decide +kernel) (by decide +kernel)
set_option maxRecDepth 20000 in
theorem gX4_init_Jx4a65c_init_da8c8 : GoodIn wsX4_init (wsJx4a65c_init_da8c8) := ggX4_init_Jx4a65c_init_da8c8
set_option maxRecDepth 20000 in
theorem ggX4_init_X3_init : GoodIn wsX4_init wsX3_init := goodIn_r _ [30, 31, 2, 3, 32, 33, 34, 46, 47, 48] (by decide +kernel) (by decide +kernel)
set_option maxRecDepth 20000 in
theorem gX4_init_X3_init_n24 : GoodIn wsX4_init (wsX3_init) := ggX4_init_X3_init
theorem dX4_init_0 : decode cX4_init 0 = .ok (.aload_n 0, 1) := by decide +kernel
theorem dX4_init_1 : decode cX4_init 1 = .ok (.invokespecial 1, 3) := by decide +kernel
theorem dX4_init_4 : decode cX4_init 4 = .ok (.aload_n 0, 1) := by decide +kernel
theorem dX4_init_5 : decode cX4_init 5 = .ok (.new 7, 3) := by decide +kernel
theorem dX4_init_8 : decode cX4_init 8 = .ok (.dup, 1) := by decide +kernel
theorem dX4_init_9 : decode cX4_init 9 = .ok (.invokespecial 9, 3) := by decide +kernel
theorem dX4_init_12 : decode cX4_init 12 = .ok (.putfield 10, 3) := by decide +kernel
theorem dX4_init_15 : decode cX4_init 15 = .ok (.aload_n 0, 1) := by decide +kernel
theorem dX4_init_16 : decode cX4_init 16 = .ok (.new 7, 3) := by decide +kernel
theorem dX4_init_19 : decode cX4_init 19 = .ok (.dup, 1) := by decide +kernel
theorem dX4_init_20 : decode cX4_init 20 = .ok (.invokespecial 9, 3) := by decide +kernel
theorem dX4_init_23 : decode cX4_init 23 = .ok (.putfield 16, 3) := by decide +kernel
theorem dX4_init_26 : decode cX4_init 26 = .ok (.aload_n 0, 1) := by decide +kernel
theorem dX4_init_27 : decode cX4_init 27 = .ok (.new 7, 3) := by decide +kernel
theorem dX4_init_30 : decode cX4_init 30 = .ok (.dup, 1) := by decide +kernel
theorem dX4_init_31 : decode cX4_init 31 = .ok (.invokespecial 9, 3) := by decide +kernel
theorem dX4_init_34 : decode cX4_init 34 = .ok (.putfield 19, 3) := by decide +kernel
theorem dX4_init_37 : decode cX4_init 37 = .ok (.aload_n 0, 1) := by decide +kernel
theorem dX4_init_38 : decode cX4_init 38 = .ok (.new 22, 3) := by decide +kernel
theorem dX4_init_41 : decode cX4_init 41 = .ok (.dup, 1) := by decide +kernel
theorem dX4_init_42 : decode cX4_init 42 = .ok (.invokespecial 24, 3) := by decide +kernel
theorem dX4_init_45 : decode cX4_init 45 = .ok (.putfield 25, 3) := by decide +kernel
theorem dX4_init_48 : decode cX4_init 48 = .ok (.return_, 1) := by decide +kernel
set_option maxRecDepth 20000 in
theorem ggX4_furnish_X4_within : GoodIn wsX4_furnish wsX4_within := goodIn_r _ [12] (by decide +kernel) (by decide +kernel)
set_option maxRecDepth 20000 in
theorem gX4_furnish_X4_within : GoodIn wsX4_furnish (va_wsS RX4 29 yX4_within wsX4_within) := goodIn_app (goodIn_of _ (by decide +kernel)) ggX4_furnish_X4_within
set_option maxRecDepth 20000 in
theorem ggX4_furnish_Jx4a65c_size_8abf5 : GoodIn wsX4_furnish wsJx4a65c_size_8abf5 := goodIn_r _ [17, 18, 96, 97, 98] (by decide +kernel) (by decide +kernel)
set_option maxRecDepth 20000 in
theorem gX4_furnish_Jx4a65c_size_8abf5 : GoodIn wsX4_furnish (wsV RX4 40 RJx4a65c yJx4a65c_size_8abf5 wsJx4a65c_size_8abf5) := goodIn_app (goodIn_of _ (by decide +kernel)) ggX4_furnish_Jx4a65c_size_8abf5
set_option maxRecDepth 20000 in
theorem ggX4_furnish_X2_init : GoodIn wsX4_furnish wsX2_init := goodIn_r _ [21, 22, 23, 24, 25, 26, 27, 90, 91, 92, 93, 94, 95] (by decide +kernel) (by decide +kernel)
set_option maxRecDepth 20000 in
theorem gX4_furnish_X2_init : GoodIn wsX4_furnish (wsX2_init) := ggX4_furnish_X2_init
set_option maxRecDepth 20000 in
theorem ggX4_furnish_Jx4a65c_add_9ea2d : GoodIn wsX4_furnish wsJx4a65c_add_9ea2d := goodIn_r _ [31, 32, 33, 34, 18, 35, 36, 37, 16, 38, 39, 40, 41, 42, 43, 44, 45, 46, 47, 48, 49, 50, 51, 52, 53, 54, 55, 56, 57, 58, 59, 60, 61, 62, 63, 64, 65, 66, 67, 68, 69, 70, 71, 72, 73, 74, 75, 76, 77, 78, 79, 80, 81, 96, 97, 98] (by decide +kernel) (by decide +kernel)
set_option maxRecDepth 20000 in
theorem gX4_furnish_Jx4a65c_add_9ea2d : GoodIn wsX4_furnish (wsV RX4 54 RJx4a65c yJx4a65c_add_9ea2d wsJx4a65c_add_9ea2d) := goodIn_app (goodIn_of _ (by decide +kernel)) ggX4_furnish_Jx4a65c_add_9ea2d
theorem dX4_furnish_0 : decode cX4_furnish 0 = .ok (.iload_n 1, 1) := by decide +kernel
theorem dX4_furnish_1 : decode cX4_furnish 1 = .ok (.iconst 1, 1) := by decide +kernel
theorem dX4_furnish_2 : decode cX4_furnish 2 = .ok (.bipush 6, 2) := by decide +kernel
theorem dX4_furnish_4 : decode cX4_furnish 4 = .ok (.invokestatic 29, 3) := by decide +kernel
theorem dX4_furnish_7 : decode cX4_furnish 7 = .ok (.ifCond .eq 23, 3) := by decide +kernel
theorem dX4_furnish_10 : decode cX4_furnish 10 = .ok (.iload_n 2, 1) := by decide +kernel
theorem dX4_furnish_11 : decode cX4_furnish 11 = .ok (.iconst 0, 1) := by decide +kernel
theorem dX4_furnish_12 : decode cX4_furnish 12 = .ok (.bipush 9, 2) := by decide +kernel
theorem dX4_furnish_14 : decode cX4_furnish 14 = .ok (.invokestatic 29, 3) := by decide +kernel
theorem dX4_furnish_17 : decode cX4_furnish 17 = .ok (.ifCond .eq 13, 3) := by decide +kernel
theorem dX4_furnish_20 : decode cX4_furnish 20 = .ok (.iload_n 3, 1) := by decide +kernel
theorem dX4_furnish_21 : decode cX4_furnish 21 = .ok (.iconst 0, 1) := by decide +kernel
theorem dX4_furnish_22 : decode cX4_furnish 22 = .ok (.bipush 100, 2) := by decide +kernel
theorem dX4_furnish_24 : decode cX4_furnish 24 = .ok (.invokestatic 29, 3) := by decide +kernel
theorem dX4_furnish_27 : decode cX4_furnish 27 = .ok (.ifCond .ne 13, 3) := by decide +kernel
theorem dX4_furnish_30 : decode cX4_furnish 30 = .ok (.new 33, 3) := by decide +kernel
theorem dX4_furnish_33 : decode cX4_furnish 33 = .ok (.dup, 1) := by decide +kernel
theorem dX4_furnish_34 : decode cX4_furnish 34 = .ok (.ldc 35, 2) := by decide +kernel
theorem dX4_furnish_36 : decode cX4_furnish 36 = .ok (.invokespecial 37, 3) := by decide +kernel
theorem dX4_furnish_39 : decode cX4_furnish 39 = .ok (.athrow, 1) := by decide +kernel
theorem dX4_furnish_40 : decode cX4_furnish 40 = .ok (.aload_n 0, 1) := by decide +kernel
theorem dX4_furnish_41 : decode cX4_furnish 41 = .ok (.getfield 10, 3) := by decide +kernel
theorem dX4_furnish_44 : decode cX4_furnish 44 = .ok (.invokevirtual 40, 3) := by decide +kernel
theorem dX4_furnish_47 : decode cX4_furnish 47 = .ok (.bipush 10, 2) := by decide +kernel
theorem dX4_furnish_49 : decode cX4_furnish 49 = .ok (.if_icmp .lt 13, 3) := by decide +kernel
theorem dX4_furnish_52 : decode cX4_furnish 52 = .ok (.new 44, 3) := by decide +kernel
theorem dX4_furnish_55 : decode cX4_furnish 55 = .ok (.dup, 1) := by decide +kernel
theorem dX4_furnish_56 : decode cX4_furnish 56 = .ok (.ldc 46, 2) := by decide +kernel
theorem dX4_furnish_58 : decode cX4_furnish 58 = .ok (.invokespecial 48, 3) := by decide +kernel
theorem dX4_furnish_61 : decode cX4_furnish 61 = .ok (.athrow, 1) := by decide +kernel
theorem dX4_furnish_62 : decode cX4_furnish 62 = .ok (.aload_n 0, 1) := by decide +kernel
theorem dX4_furnish_63 : decode cX4_furnish 63 = .ok (.getfield 10, 3) := by decide +kernel
theorem dX4_furnish_66 : decode cX4_furnish 66 = .ok (.new 49, 3) := by decide +kernel
theorem dX4_furnish_69 : decode cX4_furnish 69 = .ok (.dup, 1) := by decide +kernel
theorem dX4_furnish_70 : decode cX4_furnish 70 = .ok (.iload_n 1, 1) := by decide +kernel
theorem dX4_furnish_71 : decode cX4_furnish 71 = .ok (.iload_n 2, 1) := by decide +kernel
theorem dX4_furnish_72 : decode cX4_furnish 72 = .ok (.iload_n 3, 1) := by decide +kernel
theorem dX4_furnish_73 : decode cX4_furnish 73 = .ok (.invokespecial 51, 3) := by decide +kernel
theorem dX4_furnish_76 : decode cX4_furnish 76 = .ok (.invokevirtual 54, 3) := by decide +kernel
theorem dX4_furnish_79 : decode cX4_furnish 79 = .ok (.pop, 1) := by decide +kernel
theorem dX4_furnish_80 : decode cX4_furnish 80 = .ok (.aload_n 0, 1) := by decide +kernel
theorem dX4_furnish_81 : decode cX4_furnish 81 = .ok (.getfield 10, 3) := by decide +kernel
theorem dX4_furnish_84 : decode cX4_furnish 84 = .ok (.invokevirtual 40, 3) := by decide +kernel
theorem dX4_furnish_87 : decode cX4_furnish 87 = .ok (.iconst 1, 1) := by decide +kernel
theorem dX4_furnish_88 : decode cX4_furnish 88 = .ok (.isub, 1) := by decide +kernel
theorem dX4_furnish_89 : decode cX4_furnish 89 = .ok (.ireturn, 1) := by decide +kernel
set_option maxRecDepth 20000 in
theorem ggX4_door_X4_isRoom : GoodIn wsX4_door wsX4_isRoom := goodIn_r _ [14, 7, 15, 16, 17, 18, 19, 20, 76, 77, 78, 79, 80, 81, 82, 83, 84, 85, 86] (by decide +kernel) (by decide +kernel)
set_option maxRecDepth 20000 in
theorem gX4_door_X4_isRoom : GoodIn wsX4_door (wsV RX4 58 RX4 yX4_isRoom wsX4_isRoom) := goodIn_app (goodIn_of _ (by decide +kernel)) ggX4_door_X4_isRoom
set_option maxRecDepth 20000 in
theorem ggX4_door_Jx4a65c_get_915e3 : GoodIn wsX4_door wsJx4a65c_get_915e3 := goodIn_r _ [24, 20, 25, 26, 27, 28, 29, 30, 31, 32, 33, 34, 35, 18, 36, 37, 84, 85, 86] (by decide +kernel) (by decide +kernel)
set_option maxRecDepth 20000 in
theorem gX4_door_Jx4a65c_get_915e3 : GoodIn wsX4_door (wsV RX4 69 RJx4a65c yJx4a65c_get_915e3 wsJx4a65c_get_915e3) := goodIn_app (goodIn_of _ (by decide +kernel)) ggX4_door_Jx4a65c_get_915e3
set_option maxRecDepth 20000 in
theorem ggX4_door_X2_leadsTo : GoodIn wsX4_door wsX2_leadsTo := goodIn_r _ [42, 43, 87, 88, 89, 90, 91, 92] (by decide +kernel) (by decide +kernel)
set_option maxRecDepth 20000 in
theorem gX4_door_X2_leadsTo : GoodIn wsX4_door (wsV RX4 73 RX2 yX2_leadsTo wsX2_leadsTo) := goodIn_app (goodIn_of _ (by decide +kernel)) ggX4_door_X2_leadsTo
set_option maxRecDepth 20000 in
theorem ggX4_door_X2_openTo : GoodIn wsX4_door wsX2_openTo := goodIn_r _ [47, 43, 87, 88, 89, 90, 91, 92] (by decide +kernel) (by decide +kernel)
set_option maxRecDepth 20000 in
theorem gX4_door_X2_openTo : GoodIn wsX4_door (wsV RX4 82 RX2 yX2_openTo wsX2_openTo) := goodIn_app (goodIn_of _ (by decide +kernel)) ggX4_door_X2_openTo
set_option maxRecDepth 20000 in
theorem ggX4_door_X4_planAllWays : GoodIn wsX4_door wsX4_planAllWays := goodIn_r _ [51, 52, 53, 15, 16, 17, 18, 19, 20, 21, 22, 23, 24, 25, 26, 27, 28, 29, 30, 31, 32, 33, 34, 35, 36, 37, 54, 55, 56, 13, 57, 58, 59, 60, 61, 62, 63, 7, 8, 10, 11, 12, 14, 38, 39, 40, 41, 42, 43, 64, 65, 66, 67, 68, 69, 70, 71, 72, 73, 74, 75, 76, 77, 78, 79, 80, 81, 82, 83, 84, 85, 86, 93, 94, 95, 96, 97, 87, 88, 89, 90, 91, 92] (by decide +kernel) (by decide +kernel)
set_option maxRecDepth 20000 in
theorem gX4_door_X4_planAllWays : GoodIn wsX4_door (wsV RX4 86 RX4 yX4_planAllWays wsX4_planAllWays) := goodIn_app (goodIn_of _ (by decide +kernel)) ggX4_door_X4_planAllWays
theorem dX4_door_0 : decode cX4_door 0 = .ok (.aload_n 0, 1) := by decide +kernel
theorem dX4_door_1 : decode cX4_door 1 = .ok (.iload_n 1, 1) := by decide +kernel
theorem dX4_door_2 : decode cX4_door 2 = .ok (.invokevirtual 58, 3) := by decide +kernel
theorem dX4_door_5 : decode cX4_door 5 = .ok (.ifCond .eq 11, 3) := by decide +kernel
theorem dX4_door_8 : decode cX4_door 8 = .ok (.aload_n 0, 1) := by decide +kernel
theorem dX4_door_9 : decode cX4_door 9 = .ok (.iload_n 2, 1) := by decide +kernel
theorem dX4_door_10 : decode cX4_door 10 = .ok (.invokevirtual 58, 3) := by decide +kernel
theorem dX4_door_13 : decode cX4_door 13 = .ok (.ifCond .ne 13, 3) := by decide +kernel
theorem dX4_door_16 : decode cX4_door 16 = .ok (.new 62, 3) := by decide +kernel
theorem dX4_door_19 : decode cX4_door 19 = .ok (.dup, 1) := by decide +kernel
theorem dX4_door_20 : decode cX4_door 20 = .ok (.ldc 64, 2) := by decide +kernel
theorem dX4_door_22 : decode cX4_door 22 = .ok (.invokespecial 66, 3) := by decide +kernel
theorem dX4_door_25 : decode cX4_door 25 = .ok (.athrow, 1) := by decide +kernel
theorem dX4_door_26 : decode cX4_door 26 = .ok (.iload_n 1, 1) := by decide +kernel
theorem dX4_door_27 : decode cX4_door 27 = .ok (.iload_n 2, 1) := by decide +kernel
theorem dX4_door_28 : decode cX4_door 28 = .ok (.if_icmp .ne 13, 3) := by decide +kernel
theorem dX4_door_31 : decode cX4_door 31 = .ok (.new 33, 3) := by decide +kernel
theorem dX4_door_34 : decode cX4_door 34 = .ok (.dup, 1) := by decide +kernel
theorem dX4_door_35 : decode cX4_door 35 = .ok (.ldc 67, 2) := by decide +kernel
theorem dX4_door_37 : decode cX4_door 37 = .ok (.invokespecial 37, 3) := by decide +kernel
theorem dX4_door_40 : decode cX4_door 40 = .ok (.athrow, 1) := by decide +kernel
theorem dX4_door_41 : decode cX4_door 41 = .ok (.aload_n 0, 1) := by decide +kernel
theorem dX4_door_42 : decode cX4_door 42 = .ok (.getfield 10, 3) := by decide +kernel
theorem dX4_door_45 : decode cX4_door 45 = .ok (.iload_n 1, 1) := by decide +kernel
theorem dX4_door_46 : decode cX4_door 46 = .ok (.invokevirtual 69, 3) := by decide +kernel
theorem dX4_door_49 : decode cX4_door 49 = .ok (.checkcast 49, 3) := by decide +kernel
theorem dX4_door_52 : decode cX4_door 52 = .ok (.astore_n 3, 1) := by decide +kernel
theorem dX4_door_53 : decode cX4_door 53 = .ok (.aload_n 0, 1) := by decide +kernel
theorem dX4_door_54 : decode cX4_door 54 = .ok (.getfield 10, 3) := by decide +kernel
theorem dX4_door_57 : decode cX4_door 57 = .ok (.iload_n 2, 1) := by decide +kernel
theorem dX4_door_58 : decode cX4_door 58 = .ok (.invokevirtual 69, 3) := by decide +kernel
theorem dX4_door_61 : decode cX4_door 61 = .ok (.checkcast 49, 3) := by decide +kernel
theorem dX4_door_64 : decode cX4_door 64 = .ok (.astore 4, 2) := by decide +kernel
theorem dX4_door_66 : decode cX4_door 66 = .ok (.aload_n 3, 1) := by decide +kernel
theorem dX4_door_67 : decode cX4_door 67 = .ok (.iload_n 2, 1) := by decide +kernel
theorem dX4_door_68 : decode cX4_door 68 = .ok (.invokevirtual 73, 3) := by decide +kernel
theorem dX4_door_71 : decode cX4_door 71 = .ok (.ifCond .eq 8, 3) := by decide +kernel
theorem dX4_door_74 : decode cX4_door 74 = .ok (.aload_n 0, 1) := by decide +kernel
theorem dX4_door_75 : decode cX4_door 75 = .ok (.getfield 76, 3) := by decide +kernel
theorem dX4_door_78 : decode cX4_door 78 = .ok (.ireturn, 1) := by decide +kernel
theorem dX4_door_79 : decode cX4_door 79 = .ok (.aload_n 0, 1) := by decide +kernel
theorem dX4_door_80 : decode cX4_door 80 = .ok (.getfield 76, 3) := by decide +kernel
theorem dX4_door_83 : decode cX4_door 83 = .ok (.bipush 20, 2) := by decide +kernel
theorem dX4_door_85 : decode cX4_door 85 = .ok (.if_icmp .lt 13, 3) := by decide +kernel
theorem dX4_door_88 : decode cX4_door 88 = .ok (.new 44, 3) := by decide +kernel
theorem dX4_door_91 : decode cX4_door 91 = .ok (.dup, 1) := by decide +kernel
theorem dX4_door_92 : decode cX4_door 92 = .ok (.ldc 80, 2) := by decide +kernel
theorem dX4_door_94 : decode cX4_door 94 = .ok (.invokespecial 48, 3) := by decide +kernel
theorem dX4_door_97 : decode cX4_door 97 = .ok (.athrow, 1) := by decide +kernel
theorem dX4_door_98 : decode cX4_door 98 = .ok (.aload_n 3, 1) := by decide +kernel
theorem dX4_door_99 : decode cX4_door 99 = .ok (.iload_n 2, 1) := by decide +kernel
theorem dX4_door_100 : decode cX4_door 100 = .ok (.invokevirtual 82, 3) := by decide +kernel
theorem dX4_door_103 : decode cX4_door 103 = .ok (.aload 4, 2) := by decide +kernel
theorem dX4_door_105 : decode cX4_door 105 = .ok (.iload_n 1, 1) := by decide +kernel
theorem dX4_door_106 : decode cX4_door 106 = .ok (.invokevirtual 82, 3) := by decide +kernel
theorem dX4_door_109 : decode cX4_door 109 = .ok (.aload_n 0, 1) := by decide +kernel
theorem dX4_door_110 : decode cX4_door 110 = .ok (.dup, 1) := by decide +kernel
theorem dX4_door_111 : decode cX4_door 111 = .ok (.getfield 76, 3) := by decide +kernel
theorem dX4_door_114 : decode cX4_door 114 = .ok (.iconst 1, 1) := by decide +kernel
theorem dX4_door_115 : decode cX4_door 115 = .ok (.iadd, 1) := by decide +kernel
theorem dX4_door_116 : decode cX4_door 116 = .ok (.putfield 76, 3) := by decide +kernel
theorem dX4_door_119 : decode cX4_door 119 = .ok (.aload_n 0, 1) := by decide +kernel
theorem dX4_door_120 : decode cX4_door 120 = .ok (.invokevirtual 86, 3) := by decide +kernel
theorem dX4_door_123 : decode cX4_door 123 = .ok (.aload_n 0, 1) := by decide +kernel
theorem dX4_door_124 : decode cX4_door 124 = .ok (.getfield 76, 3) := by decide +kernel
theorem dX4_door_127 : decode cX4_door 127 = .ok (.ireturn, 1) := by decide +kernel
set_option maxRecDepth 20000 in
theorem ggX4_haunt_X4_isRoom : GoodIn wsX4_haunt wsX4_isRoom := goodIn_r _ [15, 16, 17, 18, 19, 20, 21, 22, 133, 134, 135, 136, 137, 138, 139, 140, 146, 147, 148] (by decide +kernel) (by decide +kernel)
set_option maxRecDepth 20000 in
theorem gX4_haunt_X4_isRoom : GoodIn wsX4_haunt (wsV RX4 58 RX4 yX4_isRoom wsX4_isRoom) := goodIn_app (goodIn_of _ (by decide +kernel)) ggX4_haunt_X4_isRoom
set_option maxRecDepth 20000 in
theorem ggX4_haunt_X4_within : GoodIn wsX4_haunt wsX4_within := goodIn_r _ [25] (by decide +kernel) (by decide +kernel)
set_option maxRecDepth 20000 in
theorem gX4_haunt_X4_within : GoodIn wsX4_haunt (va_wsS RX4 29 yX4_within wsX4_within) := goodIn_app (goodIn_of _ (by decide +kernel)) ggX4_haunt_X4_within
set_option maxRecDepth 20000 in
theorem ggX4_haunt_Jx4a65c_size_8abf5 : GoodIn wsX4_haunt wsJx4a65c_size_8abf5 := goodIn_r _ [21, 22, 146, 147, 148] (by decide +kernel) (by decide +kernel)
set_option maxRecDepth 20000 in
theorem gX4_haunt_Jx4a65c_size_8abf5 : GoodIn wsX4_haunt (wsV RX4 40 RJx4a65c yJx4a65c_size_8abf5 wsJx4a65c_size_8abf5) := goodIn_app (goodIn_of _ (by decide +kernel)) ggX4_haunt_Jx4a65c_size_8abf5
set_option maxRecDepth 20000 in
theorem ggX4_haunt_X0_init : GoodIn wsX4_haunt wsX0_init := goodIn_r _ [28, 29, 30, 31, 32, 33, 34, 35, 36, 37, 141, 142, 143, 144, 145] (by decide +kernel) (by decide +kernel)
set_option maxRecDepth 20000 in
theorem gX4_haunt_X0_init : GoodIn wsX4_haunt (wsX0_init) := ggX4_haunt_X0_init
set_option maxRecDepth 20000 in
theorem ggX4_haunt_X4_planWay : GoodIn wsX4_haunt wsX4_planWay := goodIn_r _ [41, 42, 43, 44, 45, 46, 14, 47, 16, 48, 11, 12, 13, 15, 17, 18, 19, 20, 21, 22, 49, 50, 51, 52, 53, 54, 55, 56, 57, 58, 59, 60, 61, 62, 63, 64, 65, 66, 67, 68, 69, 70, 71, 72, 73, 74, 10, 75, 36, 37, 76, 77, 78, 79, 33, 141, 142, 143, 144, 145, 133, 134, 135, 136, 137, 138, 139, 140, 146, 147, 148, 149, 150, 151, 152, 153, 154] (by decide +kernel) (by decide +kernel)
set_option maxRecDepth 20000 in
theorem gX4_haunt_X4_planWay : GoodIn wsX4_haunt (wsV RX4 98 RX4 yX4_planWay wsX4_planWay) := goodIn_app (goodIn_of _ (by decide +kernel)) ggX4_haunt_X4_planWay
set_option maxRecDepth 20000 in
theorem ggX4_haunt_Jx4a65c_add_9ea2d : GoodIn wsX4_haunt wsJx4a65c_add_9ea2d := goodIn_r _ [83, 84, 85, 65, 22, 86, 87, 88, 20, 89, 90, 91, 92, 93, 94, 95, 96, 97, 98, 99, 100, 101, 102, 103, 104, 105, 106, 107, 108, 109, 110, 111, 112, 113, 114, 115, 116, 117, 118, 119, 120, 121, 122, 123, 124, 125, 126, 127, 128, 129, 130, 131, 132, 146, 147, 148] (by decide +kernel) (by decide +kernel)
set_option maxRecDepth 20000 in
theorem gX4_haunt_Jx4a65c_add_9ea2d : GoodIn wsX4_haunt (wsV RX4 54 RJx4a65c yJx4a65c_add_9ea2d wsJx4a65c_add_9ea2d) := goodIn_app (goodIn_of _ (by decide +kernel)) ggX4_haunt_Jx4a65c_add_9ea2d
theorem dX4_haunt_0 : decode cX4_haunt 0 = .ok (.aload_n 0, 1) := by decide +kernel
theorem dX4_haunt_1 : decode cX4_haunt 1 = .ok (.iload_n 1, 1) := by decide +kernel
theorem dX4_haunt_2 : decode cX4_haunt 2 = .ok (.invokevirtual 58, 3) := by decide +kernel
theorem dX4_haunt_5 : decode cX4_haunt 5 = .ok (.ifCond .ne 13, 3) := by decide +kernel
theorem dX4_haunt_8 : decode cX4_haunt 8 = .ok (.new 62, 3) := by decide +kernel
theorem dX4_haunt_11 : decode cX4_haunt 11 = .ok (.dup, 1) := by decide +kernel
theorem dX4_haunt_12 : decode cX4_haunt 12 = .ok (.ldc 64, 2) := by decide +kernel
theorem dX4_haunt_14 : decode cX4_haunt 14 = .ok (.invokespecial 66, 3) := by decide +kernel
theorem dX4_haunt_17 : decode cX4_haunt 17 = .ok (.athrow, 1) := by decide +kernel
theorem dX4_haunt_18 : decode cX4_haunt 18 = .ok (.iload_n 2, 1) := by decide +kernel
theorem dX4_haunt_19 : decode cX4_haunt 19 = .ok (.iconst 1, 1) := by decide +kernel
theorem dX4_haunt_20 : decode cX4_haunt 20 = .ok (.bipush 9, 2) := by decide +kernel
theorem dX4_haunt_22 : decode cX4_haunt 22 = .ok (.invokestatic 29, 3) := by decide +kernel
theorem dX4_haunt_25 : decode cX4_haunt 25 = .ok (.ifCond .eq 26, 3) := by decide +kernel
theorem dX4_haunt_28 : decode cX4_haunt 28 = .ok (.iload_n 3, 1) := by decide +kernel
theorem dX4_haunt_29 : decode cX4_haunt 29 = .ok (.iconst 0, 1) := by decide +kernel
theorem dX4_haunt_30 : decode cX4_haunt 30 = .ok (.bipush 11, 2) := by decide +kernel
theorem dX4_haunt_32 : decode cX4_haunt 32 = .ok (.invokestatic 29, 3) := by decide +kernel
theorem dX4_haunt_35 : decode cX4_haunt 35 = .ok (.ifCond .eq 16, 3) := by decide +kernel
theorem dX4_haunt_38 : decode cX4_haunt 38 = .ok (.iload 4, 2) := by decide +kernel
theorem dX4_haunt_40 : decode cX4_haunt 40 = .ok (.iload_n 3, 1) := by decide +kernel
theorem dX4_haunt_41 : decode cX4_haunt 41 = .ok (.iconst 1, 1) := by decide +kernel
theorem dX4_haunt_42 : decode cX4_haunt 42 = .ok (.iadd, 1) := by decide +kernel
theorem dX4_haunt_43 : decode cX4_haunt 43 = .ok (.bipush 12, 2) := by decide +kernel
theorem dX4_haunt_45 : decode cX4_haunt 45 = .ok (.invokestatic 29, 3) := by decide +kernel
theorem dX4_haunt_48 : decode cX4_haunt 48 = .ok (.ifCond .ne 13, 3) := by decide +kernel
theorem dX4_haunt_51 : decode cX4_haunt 51 = .ok (.new 33, 3) := by decide +kernel
theorem dX4_haunt_54 : decode cX4_haunt 54 = .ok (.dup, 1) := by decide +kernel
theorem dX4_haunt_55 : decode cX4_haunt 55 = .ok (.ldc 89, 2) := by decide +kernel
theorem dX4_haunt_57 : decode cX4_haunt 57 = .ok (.invokespecial 37, 3) := by decide +kernel
theorem dX4_haunt_60 : decode cX4_haunt 60 = .ok (.athrow, 1) := by decide +kernel
theorem dX4_haunt_61 : decode cX4_haunt 61 = .ok (.aload_n 0, 1) := by decide +kernel
theorem dX4_haunt_62 : decode cX4_haunt 62 = .ok (.getfield 16, 3) := by decide +kernel
theorem dX4_haunt_65 : decode cX4_haunt 65 = .ok (.invokevirtual 40, 3) := by decide +kernel
theorem dX4_haunt_68 : decode cX4_haunt 68 = .ok (.iconst 5, 1) := by decide +kernel
theorem dX4_haunt_69 : decode cX4_haunt 69 = .ok (.if_icmp .lt 13, 3) := by decide +kernel
theorem dX4_haunt_72 : decode cX4_haunt 72 = .ok (.new 44, 3) := by decide +kernel
theorem dX4_haunt_75 : decode cX4_haunt 75 = .ok (.dup, 1) := by decide +kernel
theorem dX4_haunt_76 : decode cX4_haunt 76 = .ok (.ldc 91, 2) := by decide +kernel
theorem dX4_haunt_78 : decode cX4_haunt 78 = .ok (.invokespecial 48, 3) := by decide +kernel
theorem dX4_haunt_81 : decode cX4_haunt 81 = .ok (.athrow, 1) := by decide +kernel
theorem dX4_haunt_82 : decode cX4_haunt 82 = .ok (.new 93, 3) := by decide +kernel
theorem dX4_haunt_85 : decode cX4_haunt 85 = .ok (.dup, 1) := by decide +kernel
theorem dX4_haunt_86 : decode cX4_haunt 86 = .ok (.iload_n 1, 1) := by decide +kernel
theorem dX4_haunt_87 : decode cX4_haunt 87 = .ok (.iload_n 2, 1) := by decide +kernel
theorem dX4_haunt_88 : decode cX4_haunt 88 = .ok (.iload_n 3, 1) := by decide +kernel
theorem dX4_haunt_89 : decode cX4_haunt 89 = .ok (.iload 4, 2) := by decide +kernel
theorem dX4_haunt_91 : decode cX4_haunt 91 = .ok (.invokespecial 95, 3) := by decide +kernel
theorem dX4_haunt_94 : decode cX4_haunt 94 = .ok (.astore 5, 2) := by decide +kernel
theorem dX4_haunt_96 : decode cX4_haunt 96 = .ok (.aload_n 0, 1) := by decide +kernel
theorem dX4_haunt_97 : decode cX4_haunt 97 = .ok (.aload 5, 2) := by decide +kernel
theorem dX4_haunt_99 : decode cX4_haunt 99 = .ok (.invokevirtual 98, 3) := by decide +kernel
theorem dX4_haunt_102 : decode cX4_haunt 102 = .ok (.aload_n 0, 1) := by decide +kernel
theorem dX4_haunt_103 : decode cX4_haunt 103 = .ok (.getfield 16, 3) := by decide +kernel
theorem dX4_haunt_106 : decode cX4_haunt 106 = .ok (.aload 5, 2) := by decide +kernel
theorem dX4_haunt_108 : decode cX4_haunt 108 = .ok (.invokevirtual 54, 3) := by decide +kernel
theorem dX4_haunt_111 : decode cX4_haunt 111 = .ok (.pop, 1) := by decide +kernel
theorem dX4_haunt_112 : decode cX4_haunt 112 = .ok (.aload_n 0, 1) := by decide +kernel
theorem dX4_haunt_113 : decode cX4_haunt 113 = .ok (.getfield 16, 3) := by decide +kernel
theorem dX4_haunt_116 : decode cX4_haunt 116 = .ok (.invokevirtual 40, 3) := by decide +kernel
theorem dX4_haunt_119 : decode cX4_haunt 119 = .ok (.iconst 1, 1) := by decide +kernel
theorem dX4_haunt_120 : decode cX4_haunt 120 = .ok (.isub, 1) := by decide +kernel
theorem dX4_haunt_121 : decode cX4_haunt 121 = .ok (.ireturn, 1) := by decide +kernel
set_option maxRecDepth 20000 in
theorem ggX4_at_X4_isGhost : GoodIn wsX4_at wsX4_isGhost := goodIn_r _ [9, 3, 10, 11, 12, 13, 14, 15, 42, 43, 44, 45, 46, 47, 48, 49, 50, 51, 52] (by decide +kernel) (by decide +kernel)
set_option maxRecDepth 20000 in
theorem gX4_at_X4_isGhost : GoodIn wsX4_at (wsV RX4 102 RX4 yX4_isGhost wsX4_isGhost) := goodIn_app (goodIn_of _ (by decide +kernel)) ggX4_at_X4_isGhost
set_option maxRecDepth 20000 in
theorem ggX4_at_X4_within : GoodIn wsX4_at wsX4_within := goodIn_r _ [18] (by decide +kernel) (by decide +kernel)
set_option maxRecDepth 20000 in
theorem gX4_at_X4_within : GoodIn wsX4_at (va_wsS RX4 29 yX4_within wsX4_within) := goodIn_app (goodIn_of _ (by decide +kernel)) ggX4_at_X4_within
set_option maxRecDepth 20000 in
theorem ggX4_at_Jx4a65c_get_915e3 : GoodIn wsX4_at wsJx4a65c_get_915e3 := goodIn_r _ [22, 15, 23, 24, 25, 26, 27, 28, 29, 30, 31, 32, 33, 13, 34, 35, 50, 51, 52] (by decide +kernel) (by decide +kernel)
set_option maxRecDepth 20000 in
theorem gX4_at_Jx4a65c_get_915e3 : GoodIn wsX4_at (wsV RX4 69 RJx4a65c yJx4a65c_get_915e3 wsJx4a65c_get_915e3) := goodIn_app (goodIn_of _ (by decide +kernel)) ggX4_at_Jx4a65c_get_915e3
set_option maxRecDepth 20000 in
theorem ggX4_at_X0_placeIn : GoodIn wsX4_at wsX0_placeIn := goodIn_r _ [40, 41, 53, 54, 55, 56, 57] (by decide +kernel) (by decide +kernel)
set_option maxRecDepth 20000 in
theorem gX4_at_X0_placeIn : GoodIn wsX4_at (wsV RX4 109 RX0 yX0_placeIn wsX0_placeIn) := goodIn_app (goodIn_of _ (by decide +kernel)) ggX4_at_X0_placeIn
theorem dX4_at_0 : decode cX4_at 0 = .ok (.aload_n 0, 1) := by decide +kernel
theorem dX4_at_1 : decode cX4_at 1 = .ok (.iload_n 1, 1) := by decide +kernel
theorem dX4_at_2 : decode cX4_at 2 = .ok (.invokevirtual 102, 3) := by decide +kernel
theorem dX4_at_5 : decode cX4_at 5 = .ok (.ifCond .ne 13, 3) := by decide +kernel
theorem dX4_at_8 : decode cX4_at 8 = .ok (.new 62, 3) := by decide +kernel
theorem dX4_at_11 : decode cX4_at 11 = .ok (.dup, 1) := by decide +kernel
theorem dX4_at_12 : decode cX4_at 12 = .ok (.ldc 105, 2) := by decide +kernel
theorem dX4_at_14 : decode cX4_at 14 = .ok (.invokespecial 66, 3) := by decide +kernel
theorem dX4_at_17 : decode cX4_at 17 = .ok (.athrow, 1) := by decide +kernel
theorem dX4_at_18 : decode cX4_at 18 = .ok (.iload_n 2, 1) := by decide +kernel
theorem dX4_at_19 : decode cX4_at 19 = .ok (.iconst 0, 1) := by decide +kernel
theorem dX4_at_20 : decode cX4_at 20 = .ok (.bipush 11, 2) := by decide +kernel
theorem dX4_at_22 : decode cX4_at 22 = .ok (.invokestatic 29, 3) := by decide +kernel
theorem dX4_at_25 : decode cX4_at 25 = .ok (.ifCond .ne 13, 3) := by decide +kernel
theorem dX4_at_28 : decode cX4_at 28 = .ok (.new 62, 3) := by decide +kernel
theorem dX4_at_31 : decode cX4_at 31 = .ok (.dup, 1) := by decide +kernel
theorem dX4_at_32 : decode cX4_at 32 = .ok (.ldc 107, 2) := by decide +kernel
theorem dX4_at_34 : decode cX4_at 34 = .ok (.invokespecial 66, 3) := by decide +kernel
theorem dX4_at_37 : decode cX4_at 37 = .ok (.athrow, 1) := by decide +kernel
theorem dX4_at_38 : decode cX4_at 38 = .ok (.aload_n 0, 1) := by decide +kernel
theorem dX4_at_39 : decode cX4_at 39 = .ok (.getfield 16, 3) := by decide +kernel
theorem dX4_at_42 : decode cX4_at 42 = .ok (.iload_n 1, 1) := by decide +kernel
theorem dX4_at_43 : decode cX4_at 43 = .ok (.invokevirtual 69, 3) := by decide +kernel
theorem dX4_at_46 : decode cX4_at 46 = .ok (.checkcast 93, 3) := by decide +kernel
theorem dX4_at_49 : decode cX4_at 49 = .ok (.iload_n 2, 1) := by decide +kernel
theorem dX4_at_50 : decode cX4_at 50 = .ok (.invokevirtual 109, 3) := by decide +kernel
theorem dX4_at_53 : decode cX4_at 53 = .ok (.ireturn, 1) := by decide +kernel
set_option maxRecDepth 20000 in
theorem ggX4_haunting_X4_isRoom : GoodIn wsX4_haunting wsX4_isRoom := goodIn_r _ [7, 8, 9, 10, 11, 12, 13, 14, 52, 53, 54, 55, 56, 57, 58, 59, 60, 61, 62] (by decide +kernel) (by decide +kernel)
set_option maxRecDepth 20000 in
theorem gX4_haunting_X4_isRoom : GoodIn wsX4_haunting (wsV RX4 58 RX4 yX4_isRoom wsX4_isRoom) := goodIn_app (goodIn_of _ (by decide +kernel)) ggX4_haunting_X4_isRoom
set_option maxRecDepth 20000 in
theorem ggX4_haunting_X4_within : GoodIn wsX4_haunting wsX4_within := goodIn_r _ [17] (by decide +kernel) (by decide +kernel)
set_option maxRecDepth 20000 in
theorem gX4_haunting_X4_within : GoodIn wsX4_haunting (va_wsS RX4 29 yX4_within wsX4_within) := goodIn_app (goodIn_of _ (by decide +kernel)) ggX4_haunting_X4_within
set_option maxRecDepth 20000 in
theorem ggX4_haunting_X4_hauntingOfNight : GoodIn wsX4_haunting wsX4_hauntingOfNight := goodIn_r _ [21, 22, 23, 24, 6, 25, 26, 27, 28, 9, 10, 11, 12, 13, 14, 29, 30, 31, 32, 33, 34, 35, 36, 37, 38, 39, 40, 41, 42, 43, 44, 45, 46, 47, 48, 49, 50, 51, 52, 53, 54, 55, 56, 57, 58, 59, 63, 64, 65, 66, 67, 60, 61, 62] (by decide +kernel) (by decide +kernel)
set_option maxRecDepth 20000 in
theorem gX4_haunting_X4_hauntingOfNight : GoodIn wsX4_haunting (wsV RX4 113 RX4 yX4_hauntingOfNight wsX4_hauntingOfNight) := goodIn_app (goodIn_of _ (by decide +kernel)) ggX4_haunting_X4_hauntingOfNight
set_option maxRecDepth 20000 in
theorem ggX4_haunting_X4_hauntingInHour : GoodIn wsX4_haunting wsX4_hauntingInHour := goodIn_r _ [25, 26, 27, 28, 9, 10, 11, 12, 13, 14, 29, 30, 31, 32, 33, 34, 35, 36, 37, 38, 39, 40, 41, 42, 43, 44, 45, 46, 47, 48, 49, 50, 51, 52, 53, 54, 55, 56, 57, 58, 59, 63, 64, 65, 66, 67, 60, 61, 62] (by decide +kernel) (by decide +kernel)
set_option maxRecDepth 20000 in
theorem gX4_haunting_X4_hauntingInHour : GoodIn wsX4_haunting (wsV RX4 117 RX4 yX4_hauntingInHour wsX4_hauntingInHour) := goodIn_app (goodIn_of _ (by decide +kernel)) ggX4_haunting_X4_hauntingInHour
theorem dX4_haunting_0 : decode cX4_haunting 0 = .ok (.aload_n 0, 1) := by decide +kernel
theorem dX4_haunting_1 : decode cX4_haunting 1 = .ok (.iload_n 1, 1) := by decide +kernel
theorem dX4_haunting_2 : decode cX4_haunting 2 = .ok (.invokevirtual 58, 3) := by decide +kernel
theorem dX4_haunting_5 : decode cX4_haunting 5 = .ok (.ifCond .ne 13, 3) := by decide +kernel
theorem dX4_haunting_8 : decode cX4_haunting 8 = .ok (.new 62, 3) := by decide +kernel
theorem dX4_haunting_11 : decode cX4_haunting 11 = .ok (.dup, 1) := by decide +kernel
theorem dX4_haunting_12 : decode cX4_haunting 12 = .ok (.ldc 64, 2) := by decide +kernel
theorem dX4_haunting_14 : decode cX4_haunting 14 = .ok (.invokespecial 66, 3) := by decide +kernel
theorem dX4_haunting_17 : decode cX4_haunting 17 = .ok (.athrow, 1) := by decide +kernel
theorem dX4_haunting_18 : decode cX4_haunting 18 = .ok (.iload_n 2, 1) := by decide +kernel
theorem dX4_haunting_19 : decode cX4_haunting 19 = .ok (.iconst (-1), 1) := by decide +kernel
theorem dX4_haunting_20 : decode cX4_haunting 20 = .ok (.bipush 11, 2) := by decide +kernel
theorem dX4_haunting_22 : decode cX4_haunting 22 = .ok (.invokestatic 29, 3) := by decide +kernel
theorem dX4_haunting_25 : decode cX4_haunting 25 = .ok (.ifCond .ne 13, 3) := by decide +kernel
theorem dX4_haunting_28 : decode cX4_haunting 28 = .ok (.new 62, 3) := by decide +kernel
theorem dX4_haunting_31 : decode cX4_haunting 31 = .ok (.dup, 1) := by decide +kernel
theorem dX4_haunting_32 : decode cX4_haunting 32 = .ok (.ldc 107, 2) := by decide +kernel
theorem dX4_haunting_34 : decode cX4_haunting 34 = .ok (.invokespecial 66, 3) := by decide +kernel
theorem dX4_haunting_37 : decode cX4_haunting 37 = .ok (.athrow, 1) := by decide +kernel
theorem dX4_haunting_38 : decode cX4_haunting 38 = .ok (.iload_n 2, 1) := by decide +kernel
theorem dX4_haunting_39 : decode cX4_haunting 39 = .ok (.iconst (-1), 1) := by decide +kernel
theorem dX4_haunting_40 : decode cX4_haunting 40 = .ok (.if_icmp .ne 12, 3) := by decide +kernel
theorem dX4_haunting_43 : decode cX4_haunting 43 = .ok (.aload_n 0, 1) := by decide +kernel
theorem dX4_haunting_44 : decode cX4_haunting 44 = .ok (.iload_n 1, 1) := by decide +kernel
theorem dX4_haunting_45 : decode cX4_haunting 45 = .ok (.iconst (-1), 1) := by decide +kernel
theorem dX4_haunting_46 : decode cX4_haunting 46 = .ok (.invokevirtual 113, 3) := by decide +kernel
theorem dX4_haunting_49 : decode cX4_haunting 49 = .ok (.goto 10, 3) := by decide +kernel
theorem dX4_haunting_52 : decode cX4_haunting 52 = .ok (.aload_n 0, 1) := by decide +kernel
theorem dX4_haunting_53 : decode cX4_haunting 53 = .ok (.iload_n 1, 1) := by decide +kernel
theorem dX4_haunting_54 : decode cX4_haunting 54 = .ok (.iload_n 2, 1) := by decide +kernel
theorem dX4_haunting_55 : decode cX4_haunting 55 = .ok (.iconst (-1), 1) := by decide +kernel
theorem dX4_haunting_56 : decode cX4_haunting 56 = .ok (.invokevirtual 117, 3) := by decide +kernel
theorem dX4_haunting_59 : decode cX4_haunting 59 = .ok (.ireturn, 1) := by decide +kernel
set_option maxRecDepth 20000 in
theorem ggX4_room_X4_isRoom : GoodIn wsX4_room wsX4_isRoom := goodIn_r _ [14, 3, 15, 16, 17, 18, 19, 20, 51, 52, 53, 54, 55, 56, 57, 58, 65, 66, 67] (by decide +kernel) (by decide +kernel)
set_option maxRecDepth 20000 in
theorem gX4_room_X4_isRoom : GoodIn wsX4_room (wsV RX4 58 RX4 yX4_isRoom wsX4_isRoom) := goodIn_app (goodIn_of _ (by decide +kernel)) ggX4_room_X4_isRoom
set_option maxRecDepth 20000 in
theorem ggX4_room_Jx4a65c_get_915e3 : GoodIn wsX4_room wsJx4a65c_get_915e3 := goodIn_r _ [24, 20, 25, 26, 27, 28, 29, 30, 31, 32, 33, 34, 35, 18, 36, 37, 65, 66, 67] (by decide +kernel) (by decide +kernel)
set_option maxRecDepth 20000 in
theorem gX4_room_Jx4a65c_get_915e3 : GoodIn wsX4_room (wsV RX4 69 RJx4a65c yJx4a65c_get_915e3 wsJx4a65c_get_915e3) := goodIn_app (goodIn_of _ (by decide +kernel)) ggX4_room_Jx4a65c_get_915e3
set_option maxRecDepth 20000 in
theorem ggX4_room_X2_doorsThere : GoodIn wsX4_room wsX2_doorsThere := goodIn_r _ [42, 43, 44, 45, 46, 47, 48, 49, 50, 59, 60, 61, 62, 63, 64] (by decide +kernel) (by decide +kernel)
set_option maxRecDepth 20000 in
theorem gX4_room_X2_doorsThere : GoodIn wsX4_room (wsV RX4 130 RX2 yX2_doorsThere wsX2_doorsThere) := goodIn_app (goodIn_of _ (by decide +kernel)) ggX4_room_X2_doorsThere
theorem dX4_room_0 : decode cX4_room 0 = .ok (.aload_n 0, 1) := by decide +kernel
theorem dX4_room_1 : decode cX4_room 1 = .ok (.iload_n 1, 1) := by decide +kernel
theorem dX4_room_2 : decode cX4_room 2 = .ok (.invokevirtual 58, 3) := by decide +kernel
theorem dX4_room_5 : decode cX4_room 5 = .ok (.ifCond .ne 13, 3) := by decide +kernel
theorem dX4_room_8 : decode cX4_room 8 = .ok (.new 62, 3) := by decide +kernel
theorem dX4_room_11 : decode cX4_room 11 = .ok (.dup, 1) := by decide +kernel
theorem dX4_room_12 : decode cX4_room 12 = .ok (.ldc 64, 2) := by decide +kernel
theorem dX4_room_14 : decode cX4_room 14 = .ok (.invokespecial 66, 3) := by decide +kernel
theorem dX4_room_17 : decode cX4_room 17 = .ok (.athrow, 1) := by decide +kernel
theorem dX4_room_18 : decode cX4_room 18 = .ok (.aload_n 0, 1) := by decide +kernel
theorem dX4_room_19 : decode cX4_room 19 = .ok (.getfield 10, 3) := by decide +kernel
theorem dX4_room_22 : decode cX4_room 22 = .ok (.iload_n 1, 1) := by decide +kernel
theorem dX4_room_23 : decode cX4_room 23 = .ok (.invokevirtual 69, 3) := by decide +kernel
theorem dX4_room_26 : decode cX4_room 26 = .ok (.checkcast 49, 3) := by decide +kernel
theorem dX4_room_29 : decode cX4_room 29 = .ok (.astore_n 3, 1) := by decide +kernel
theorem dX4_room_30 : decode cX4_room 30 = .ok (.iload_n 2, 1) := by decide +kernel
theorem dX4_room_31 : decode cX4_room 31 = .ok (.tableswitch 67 0 5 #[37, 42, 47, 52, 57, 62], 37) := by decide +kernel
theorem dX4_room_68 : decode cX4_room 68 = .ok (.aload_n 3, 1) := by decide +kernel
theorem dX4_room_69 : decode cX4_room 69 = .ok (.getfield 121, 3) := by decide +kernel
theorem dX4_room_72 : decode cX4_room 72 = .ok (.ireturn, 1) := by decide +kernel
theorem dX4_room_73 : decode cX4_room 73 = .ok (.aload_n 3, 1) := by decide +kernel
theorem dX4_room_74 : decode cX4_room 74 = .ok (.getfield 124, 3) := by decide +kernel
theorem dX4_room_77 : decode cX4_room 77 = .ok (.ireturn, 1) := by decide +kernel
theorem dX4_room_78 : decode cX4_room 78 = .ok (.aload_n 3, 1) := by decide +kernel
theorem dX4_room_79 : decode cX4_room 79 = .ok (.getfield 127, 3) := by decide +kernel
theorem dX4_room_82 : decode cX4_room 82 = .ok (.ireturn, 1) := by decide +kernel
theorem dX4_room_83 : decode cX4_room 83 = .ok (.aload_n 3, 1) := by decide +kernel
theorem dX4_room_84 : decode cX4_room 84 = .ok (.invokevirtual 130, 3) := by decide +kernel
theorem dX4_room_87 : decode cX4_room 87 = .ok (.ireturn, 1) := by decide +kernel
theorem dX4_room_88 : decode cX4_room 88 = .ok (.aload_n 3, 1) := by decide +kernel
theorem dX4_room_89 : decode cX4_room 89 = .ok (.getfield 133, 3) := by decide +kernel
theorem dX4_room_92 : decode cX4_room 92 = .ok (.ireturn, 1) := by decide +kernel
theorem dX4_room_93 : decode cX4_room 93 = .ok (.aload_n 3, 1) := by decide +kernel
theorem dX4_room_94 : decode cX4_room 94 = .ok (.getfield 136, 3) := by decide +kernel
theorem dX4_room_97 : decode cX4_room 97 = .ok (.ireturn, 1) := by decide +kernel
theorem dX4_room_98 : decode cX4_room 98 = .ok (.new 62, 3) := by decide +kernel
theorem dX4_room_101 : decode cX4_room 101 = .ok (.dup, 1) := by decide +kernel
theorem dX4_room_102 : decode cX4_room 102 = .ok (.ldc 139, 2) := by decide +kernel
theorem dX4_room_104 : decode cX4_room 104 = .ok (.invokespecial 66, 3) := by decide +kernel
theorem dX4_room_107 : decode cX4_room 107 = .ok (.athrow, 1) := by decide +kernel
set_option maxRecDepth 20000 in
theorem ggX4_come_X4_within : GoodIn wsX4_come wsX4_within := goodIn_r _ [12] (by decide +kernel) (by decide +kernel)
set_option maxRecDepth 20000 in
theorem gX4_come_X4_within : GoodIn wsX4_come (va_wsS RX4 29 yX4_within wsX4_within) := goodIn_app (goodIn_of _ (by decide +kernel)) ggX4_come_X4_within
set_option maxRecDepth 20000 in
theorem ggX4_come_Jx4a65c_size_8abf5 : GoodIn wsX4_come wsJx4a65c_size_8abf5 := goodIn_r _ [17, 18, 98, 99, 100] (by decide +kernel) (by decide +kernel)
set_option maxRecDepth 20000 in
theorem gX4_come_Jx4a65c_size_8abf5 : GoodIn wsX4_come (wsV RX4 40 RJx4a65c yJx4a65c_size_8abf5 wsJx4a65c_size_8abf5) := goodIn_app (goodIn_of _ (by decide +kernel)) ggX4_come_Jx4a65c_size_8abf5
set_option maxRecDepth 20000 in
theorem ggX4_come_X1_init : GoodIn wsX4_come wsX1_init := goodIn_r _ [21, 22, 23, 24, 25, 26, 27, 28, 91, 92, 93, 94, 95, 96, 97] (by decide +kernel) (by decide +kernel)
set_option maxRecDepth 20000 in
theorem gX4_come_X1_init : GoodIn wsX4_come (wsX1_init) := ggX4_come_X1_init
set_option maxRecDepth 20000 in
theorem ggX4_come_Jx4a65c_add_9ea2d : GoodIn wsX4_come wsJx4a65c_add_9ea2d := goodIn_r _ [32, 33, 34, 35, 18, 36, 37, 38, 16, 39, 40, 41, 42, 43, 44, 45, 46, 47, 48, 49, 50, 51, 52, 53, 54, 55, 56, 57, 58, 59, 60, 61, 62, 63, 64, 65, 66, 67, 68, 69, 70, 71, 72, 73, 74, 75, 76, 77, 78, 79, 80, 81, 82, 98, 99, 100] (by decide +kernel) (by decide +kernel)
set_option maxRecDepth 20000 in
theorem gX4_come_Jx4a65c_add_9ea2d : GoodIn wsX4_come (wsV RX4 54 RJx4a65c yJx4a65c_add_9ea2d wsJx4a65c_add_9ea2d) := goodIn_app (goodIn_of _ (by decide +kernel)) ggX4_come_Jx4a65c_add_9ea2d
theorem dX4_come_0 : decode cX4_come 0 = .ok (.iload_n 1, 1) := by decide +kernel
theorem dX4_come_1 : decode cX4_come 1 = .ok (.iconst 0, 1) := by decide +kernel
theorem dX4_come_2 : decode cX4_come 2 = .ok (.sipush 1000, 3) := by decide +kernel
theorem dX4_come_5 : decode cX4_come 5 = .ok (.invokestatic 29, 3) := by decide +kernel
theorem dX4_come_8 : decode cX4_come 8 = .ok (.ifCond .eq 24, 3) := by decide +kernel
theorem dX4_come_11 : decode cX4_come 11 = .ok (.iload_n 2, 1) := by decide +kernel
theorem dX4_come_12 : decode cX4_come 12 = .ok (.iconst 1, 1) := by decide +kernel
theorem dX4_come_13 : decode cX4_come 13 = .ok (.bipush 6, 2) := by decide +kernel
theorem dX4_come_15 : decode cX4_come 15 = .ok (.invokestatic 29, 3) := by decide +kernel
theorem dX4_come_18 : decode cX4_come 18 = .ok (.ifCond .eq 14, 3) := by decide +kernel
theorem dX4_come_21 : decode cX4_come 21 = .ok (.iload_n 3, 1) := by decide +kernel
theorem dX4_come_22 : decode cX4_come 22 = .ok (.bipush (-9), 2) := by decide +kernel
theorem dX4_come_24 : decode cX4_come 24 = .ok (.bipush 90, 2) := by decide +kernel
theorem dX4_come_26 : decode cX4_come 26 = .ok (.invokestatic 29, 3) := by decide +kernel
theorem dX4_come_29 : decode cX4_come 29 = .ok (.ifCond .ne 13, 3) := by decide +kernel
theorem dX4_come_32 : decode cX4_come 32 = .ok (.new 33, 3) := by decide +kernel
theorem dX4_come_35 : decode cX4_come 35 = .ok (.dup, 1) := by decide +kernel
theorem dX4_come_36 : decode cX4_come 36 = .ok (.ldc 141, 2) := by decide +kernel
theorem dX4_come_38 : decode cX4_come 38 = .ok (.invokespecial 37, 3) := by decide +kernel
theorem dX4_come_41 : decode cX4_come 41 = .ok (.athrow, 1) := by decide +kernel
theorem dX4_come_42 : decode cX4_come 42 = .ok (.aload_n 0, 1) := by decide +kernel
theorem dX4_come_43 : decode cX4_come 43 = .ok (.getfield 19, 3) := by decide +kernel
theorem dX4_come_46 : decode cX4_come 46 = .ok (.invokevirtual 40, 3) := by decide +kernel
theorem dX4_come_49 : decode cX4_come 49 = .ok (.bipush 12, 2) := by decide +kernel
theorem dX4_come_51 : decode cX4_come 51 = .ok (.if_icmp .lt 13, 3) := by decide +kernel
theorem dX4_come_54 : decode cX4_come 54 = .ok (.new 44, 3) := by decide +kernel
theorem dX4_come_57 : decode cX4_come 57 = .ok (.dup, 1) := by decide +kernel
theorem dX4_come_58 : decode cX4_come 58 = .ok (.ldc 143, 2) := by decide +kernel
theorem dX4_come_60 : decode cX4_come 60 = .ok (.invokespecial 48, 3) := by decide +kernel
theorem dX4_come_63 : decode cX4_come 63 = .ok (.athrow, 1) := by decide +kernel
theorem dX4_come_64 : decode cX4_come 64 = .ok (.aload_n 0, 1) := by decide +kernel
theorem dX4_come_65 : decode cX4_come 65 = .ok (.getfield 19, 3) := by decide +kernel
theorem dX4_come_68 : decode cX4_come 68 = .ok (.new 145, 3) := by decide +kernel
theorem dX4_come_71 : decode cX4_come 71 = .ok (.dup, 1) := by decide +kernel
theorem dX4_come_72 : decode cX4_come 72 = .ok (.iload_n 1, 1) := by decide +kernel
theorem dX4_come_73 : decode cX4_come 73 = .ok (.iload_n 2, 1) := by decide +kernel
theorem dX4_come_74 : decode cX4_come 74 = .ok (.iload_n 3, 1) := by decide +kernel
theorem dX4_come_75 : decode cX4_come 75 = .ok (.invokespecial 147, 3) := by decide +kernel
theorem dX4_come_78 : decode cX4_come 78 = .ok (.invokevirtual 54, 3) := by decide +kernel
theorem dX4_come_81 : decode cX4_come 81 = .ok (.pop, 1) := by decide +kernel
theorem dX4_come_82 : decode cX4_come 82 = .ok (.aload_n 0, 1) := by decide +kernel
theorem dX4_come_83 : decode cX4_come 83 = .ok (.getfield 19, 3) := by decide +kernel
theorem dX4_come_86 : decode cX4_come 86 = .ok (.invokevirtual 40, 3) := by decide +kernel
theorem dX4_come_89 : decode cX4_come 89 = .ok (.iconst 1, 1) := by decide +kernel
theorem dX4_come_90 : decode cX4_come 90 = .ok (.isub, 1) := by decide +kernel
theorem dX4_come_91 : decode cX4_come 91 = .ok (.ireturn, 1) := by decide +kernel
set_option maxRecDepth 20000 in
theorem ggX4_bid_X4_isGuest : GoodIn wsX4_bid wsX4_isGuest := goodIn_r _ [13, 5, 14, 15, 16, 17, 18, 19, 59, 60, 61, 62, 63, 64, 65, 66, 67, 68, 69] (by decide +kernel) (by decide +kernel)
set_option maxRecDepth 20000 in
theorem gX4_bid_X4_isGuest : GoodIn wsX4_bid (wsV RX4 148 RX4 yX4_isGuest wsX4_isGuest) := goodIn_app (goodIn_of _ (by decide +kernel)) ggX4_bid_X4_isGuest
set_option maxRecDepth 20000 in
theorem ggX4_bid_X4_isRoom : GoodIn wsX4_bid wsX4_isRoom := goodIn_r _ [23, 7, 14, 15, 16, 17, 18, 19, 59, 60, 61, 62, 63, 64, 65, 66, 67, 68, 69] (by decide +kernel) (by decide +kernel)
set_option maxRecDepth 20000 in
theorem gX4_bid_X4_isRoom : GoodIn wsX4_bid (wsV RX4 58 RX4 yX4_isRoom wsX4_isRoom) := goodIn_app (goodIn_of _ (by decide +kernel)) ggX4_bid_X4_isRoom
set_option maxRecDepth 20000 in
theorem ggX4_bid_X4_within : GoodIn wsX4_bid wsX4_within := goodIn_r _ [26] (by decide +kernel) (by decide +kernel)
set_option maxRecDepth 20000 in
theorem gX4_bid_X4_within : GoodIn wsX4_bid (va_wsS RX4 29 yX4_within wsX4_within) := goodIn_app (goodIn_of _ (by decide +kernel)) ggX4_bid_X4_within
set_option maxRecDepth 20000 in
theorem ggX4_bid_Jx4a65c_get_915e3 : GoodIn wsX4_bid wsJx4a65c_get_915e3 := goodIn_r _ [30, 19, 31, 32, 33, 34, 35, 36, 37, 38, 39, 40, 41, 17, 42, 43, 67, 68, 69] (by decide +kernel) (by decide +kernel)
set_option maxRecDepth 20000 in
theorem gX4_bid_Jx4a65c_get_915e3 : GoodIn wsX4_bid (wsV RX4 69 RJx4a65c yJx4a65c_get_915e3 wsJx4a65c_get_915e3) := goodIn_app (goodIn_of _ (by decide +kernel)) ggX4_bid_Jx4a65c_get_915e3
set_option maxRecDepth 20000 in
theorem ggX4_bid_X1_writeBid : GoodIn wsX4_bid wsX1_writeBid := goodIn_r _ [48, 49, 50, 70, 71, 72, 73, 74, 75, 76] (by decide +kernel) (by decide +kernel)
set_option maxRecDepth 20000 in
theorem gX4_bid_X1_writeBid : GoodIn wsX4_bid (wsV RX4 155 RX1 yX1_writeBid wsX1_writeBid) := goodIn_app (goodIn_of _ (by decide +kernel)) ggX4_bid_X1_writeBid
set_option maxRecDepth 20000 in
theorem ggX4_bid_X1_couldBidFor : GoodIn wsX4_bid wsX1_couldBidFor := goodIn_r _ [54, 55, 50, 56, 57, 58, 70, 71, 72, 73, 74, 75, 76, 77, 78, 79, 80, 81, 82] (by decide +kernel) (by decide +kernel)
set_option maxRecDepth 20000 in
theorem gX4_bid_X1_couldBidFor : GoodIn wsX4_bid (wsV RX4 159 RX1 yX1_couldBidFor wsX1_couldBidFor) := goodIn_app (goodIn_of _ (by decide +kernel)) ggX4_bid_X1_couldBidFor
theorem dX4_bid_0 : decode cX4_bid 0 = .ok (.aload_n 0, 1) := by decide +kernel
theorem dX4_bid_1 : decode cX4_bid 1 = .ok (.iload_n 1, 1) := by decide +kernel
theorem dX4_bid_2 : decode cX4_bid 2 = .ok (.invokevirtual 148, 3) := by decide +kernel
theorem dX4_bid_5 : decode cX4_bid 5 = .ok (.ifCond .ne 13, 3) := by decide +kernel
theorem dX4_bid_8 : decode cX4_bid 8 = .ok (.new 62, 3) := by decide +kernel
theorem dX4_bid_11 : decode cX4_bid 11 = .ok (.dup, 1) := by decide +kernel
theorem dX4_bid_12 : decode cX4_bid 12 = .ok (.ldc 151, 2) := by decide +kernel
theorem dX4_bid_14 : decode cX4_bid 14 = .ok (.invokespecial 66, 3) := by decide +kernel
theorem dX4_bid_17 : decode cX4_bid 17 = .ok (.athrow, 1) := by decide +kernel
theorem dX4_bid_18 : decode cX4_bid 18 = .ok (.aload_n 0, 1) := by decide +kernel
theorem dX4_bid_19 : decode cX4_bid 19 = .ok (.iload_n 2, 1) := by decide +kernel
theorem dX4_bid_20 : decode cX4_bid 20 = .ok (.invokevirtual 58, 3) := by decide +kernel
theorem dX4_bid_23 : decode cX4_bid 23 = .ok (.ifCond .ne 13, 3) := by decide +kernel
theorem dX4_bid_26 : decode cX4_bid 26 = .ok (.new 62, 3) := by decide +kernel
theorem dX4_bid_29 : decode cX4_bid 29 = .ok (.dup, 1) := by decide +kernel
theorem dX4_bid_30 : decode cX4_bid 30 = .ok (.ldc 64, 2) := by decide +kernel
theorem dX4_bid_32 : decode cX4_bid 32 = .ok (.invokespecial 66, 3) := by decide +kernel
theorem dX4_bid_35 : decode cX4_bid 35 = .ok (.athrow, 1) := by decide +kernel
theorem dX4_bid_36 : decode cX4_bid 36 = .ok (.iload_n 3, 1) := by decide +kernel
theorem dX4_bid_37 : decode cX4_bid 37 = .ok (.iconst 1, 1) := by decide +kernel
theorem dX4_bid_38 : decode cX4_bid 38 = .ok (.sipush 200, 3) := by decide +kernel
theorem dX4_bid_41 : decode cX4_bid 41 = .ok (.invokestatic 29, 3) := by decide +kernel
theorem dX4_bid_44 : decode cX4_bid 44 = .ok (.ifCond .ne 13, 3) := by decide +kernel
theorem dX4_bid_47 : decode cX4_bid 47 = .ok (.new 33, 3) := by decide +kernel
theorem dX4_bid_50 : decode cX4_bid 50 = .ok (.dup, 1) := by decide +kernel
theorem dX4_bid_51 : decode cX4_bid 51 = .ok (.ldc 153, 2) := by decide +kernel
theorem dX4_bid_53 : decode cX4_bid 53 = .ok (.invokespecial 37, 3) := by decide +kernel
theorem dX4_bid_56 : decode cX4_bid 56 = .ok (.athrow, 1) := by decide +kernel
theorem dX4_bid_57 : decode cX4_bid 57 = .ok (.aload_n 0, 1) := by decide +kernel
theorem dX4_bid_58 : decode cX4_bid 58 = .ok (.getfield 19, 3) := by decide +kernel
theorem dX4_bid_61 : decode cX4_bid 61 = .ok (.iload_n 1, 1) := by decide +kernel
theorem dX4_bid_62 : decode cX4_bid 62 = .ok (.invokevirtual 69, 3) := by decide +kernel
theorem dX4_bid_65 : decode cX4_bid 65 = .ok (.checkcast 145, 3) := by decide +kernel
theorem dX4_bid_68 : decode cX4_bid 68 = .ok (.astore 4, 2) := by decide +kernel
theorem dX4_bid_70 : decode cX4_bid 70 = .ok (.aload 4, 2) := by decide +kernel
theorem dX4_bid_72 : decode cX4_bid 72 = .ok (.iload_n 2, 1) := by decide +kernel
theorem dX4_bid_73 : decode cX4_bid 73 = .ok (.iload_n 3, 1) := by decide +kernel
theorem dX4_bid_74 : decode cX4_bid 74 = .ok (.invokevirtual 155, 3) := by decide +kernel
theorem dX4_bid_77 : decode cX4_bid 77 = .ok (.aload 4, 2) := by decide +kernel
theorem dX4_bid_79 : decode cX4_bid 79 = .ok (.aload_n 0, 1) := by decide +kernel
theorem dX4_bid_80 : decode cX4_bid 80 = .ok (.getfield 10, 3) := by decide +kernel
theorem dX4_bid_83 : decode cX4_bid 83 = .ok (.iload_n 2, 1) := by decide +kernel
theorem dX4_bid_84 : decode cX4_bid 84 = .ok (.invokevirtual 69, 3) := by decide +kernel
theorem dX4_bid_87 : decode cX4_bid 87 = .ok (.checkcast 49, 3) := by decide +kernel
theorem dX4_bid_90 : decode cX4_bid 90 = .ok (.invokevirtual 159, 3) := by decide +kernel
theorem dX4_bid_93 : decode cX4_bid 93 = .ok (.ireturn, 1) := by decide +kernel
set_option maxRecDepth 20000 in
theorem ggX4_leave_X4_isGuest : GoodIn wsX4_leave wsX4_isGuest := goodIn_r _ [10, 3, 11, 12, 13, 14, 15, 16, 41, 42, 43, 44, 45, 46, 47, 48, 56, 57, 58] (by decide +kernel) (by decide +kernel)
set_option maxRecDepth 20000 in
theorem gX4_leave_X4_isGuest : GoodIn wsX4_leave (wsV RX4 148 RX4 yX4_isGuest wsX4_isGuest) := goodIn_app (goodIn_of _ (by decide +kernel)) ggX4_leave_X4_isGuest
set_option maxRecDepth 20000 in
theorem ggX4_leave_Jx4a65c_get_915e3 : GoodIn wsX4_leave wsJx4a65c_get_915e3 := goodIn_r _ [20, 16, 21, 22, 23, 24, 25, 26, 27, 28, 29, 30, 31, 14, 32, 33, 56, 57, 58] (by decide +kernel) (by decide +kernel)
set_option maxRecDepth 20000 in
theorem gX4_leave_Jx4a65c_get_915e3 : GoodIn wsX4_leave (wsV RX4 69 RJx4a65c yJx4a65c_get_915e3 wsJx4a65c_get_915e3) := goodIn_app (goodIn_of _ (by decide +kernel)) ggX4_leave_Jx4a65c_get_915e3
set_option maxRecDepth 20000 in
theorem ggX4_leave_X1_dropBid : GoodIn wsX4_leave wsX1_dropBid := goodIn_r _ [38, 39, 40, 49, 50, 51, 52, 53, 54, 55] (by decide +kernel) (by decide +kernel)
set_option maxRecDepth 20000 in
theorem gX4_leave_X1_dropBid : GoodIn wsX4_leave (wsV RX4 166 RX1 yX1_dropBid wsX1_dropBid) := goodIn_app (goodIn_of _ (by decide +kernel)) ggX4_leave_X1_dropBid
theorem dX4_leave_0 : decode cX4_leave 0 = .ok (.aload_n 0, 1) := by decide +kernel
theorem dX4_leave_1 : decode cX4_leave 1 = .ok (.iload_n 1, 1) := by decide +kernel
theorem dX4_leave_2 : decode cX4_leave 2 = .ok (.invokevirtual 148, 3) := by decide +kernel
theorem dX4_leave_5 : decode cX4_leave 5 = .ok (.ifCond .ne 13, 3) := by decide +kernel
theorem dX4_leave_8 : decode cX4_leave 8 = .ok (.new 62, 3) := by decide +kernel
theorem dX4_leave_11 : decode cX4_leave 11 = .ok (.dup, 1) := by decide +kernel
theorem dX4_leave_12 : decode cX4_leave 12 = .ok (.ldc 151, 2) := by decide +kernel
theorem dX4_leave_14 : decode cX4_leave 14 = .ok (.invokespecial 66, 3) := by decide +kernel
theorem dX4_leave_17 : decode cX4_leave 17 = .ok (.athrow, 1) := by decide +kernel
theorem dX4_leave_18 : decode cX4_leave 18 = .ok (.aload_n 0, 1) := by decide +kernel
theorem dX4_leave_19 : decode cX4_leave 19 = .ok (.getfield 19, 3) := by decide +kernel
theorem dX4_leave_22 : decode cX4_leave 22 = .ok (.iload_n 1, 1) := by decide +kernel
theorem dX4_leave_23 : decode cX4_leave 23 = .ok (.invokevirtual 69, 3) := by decide +kernel
theorem dX4_leave_26 : decode cX4_leave 26 = .ok (.checkcast 145, 3) := by decide +kernel
theorem dX4_leave_29 : decode cX4_leave 29 = .ok (.astore_n 2, 1) := by decide +kernel
theorem dX4_leave_30 : decode cX4_leave 30 = .ok (.aload_n 2, 1) := by decide +kernel
theorem dX4_leave_31 : decode cX4_leave 31 = .ok (.getfield 163, 3) := by decide +kernel
theorem dX4_leave_34 : decode cX4_leave 34 = .ok (.istore_n 3, 1) := by decide +kernel
theorem dX4_leave_35 : decode cX4_leave 35 = .ok (.aload_n 2, 1) := by decide +kernel
theorem dX4_leave_36 : decode cX4_leave 36 = .ok (.invokevirtual 166, 3) := by decide +kernel
theorem dX4_leave_39 : decode cX4_leave 39 = .ok (.iload_n 3, 1) := by decide +kernel
theorem dX4_leave_40 : decode cX4_leave 40 = .ok (.ireturn, 1) := by decide +kernel
set_option maxRecDepth 20000 in
theorem ggX4_guest_X4_isGuest : GoodIn wsX4_guest wsX4_isGuest := goodIn_r _ [16, 3, 17, 18, 19, 20, 21, 22, 40, 41, 42, 43, 44, 45, 46, 47, 55, 56, 57] (by decide +kernel) (by decide +kernel)
set_option maxRecDepth 20000 in
theorem gX4_guest_X4_isGuest : GoodIn wsX4_guest (wsV RX4 148 RX4 yX4_isGuest wsX4_isGuest) := goodIn_app (goodIn_of _ (by decide +kernel)) ggX4_guest_X4_isGuest
set_option maxRecDepth 20000 in
theorem ggX4_guest_Jx4a65c_get_915e3 : GoodIn wsX4_guest wsJx4a65c_get_915e3 := goodIn_r _ [26, 22, 27, 28, 29, 30, 31, 32, 33, 34, 35, 36, 37, 20, 38, 39, 55, 56, 57] (by decide +kernel) (by decide +kernel)
set_option maxRecDepth 20000 in
theorem gX4_guest_Jx4a65c_get_915e3 : GoodIn wsX4_guest (wsV RX4 69 RJx4a65c yJx4a65c_get_915e3 wsJx4a65c_get_915e3) := goodIn_app (goodIn_of _ (by decide +kernel)) ggX4_guest_Jx4a65c_get_915e3
theorem dX4_guest_0 : decode cX4_guest 0 = .ok (.aload_n 0, 1) := by decide +kernel
theorem dX4_guest_1 : decode cX4_guest 1 = .ok (.iload_n 1, 1) := by decide +kernel
theorem dX4_guest_2 : decode cX4_guest 2 = .ok (.invokevirtual 148, 3) := by decide +kernel
theorem dX4_guest_5 : decode cX4_guest 5 = .ok (.ifCond .ne 13, 3) := by decide +kernel
theorem dX4_guest_8 : decode cX4_guest 8 = .ok (.new 62, 3) := by decide +kernel
theorem dX4_guest_11 : decode cX4_guest 11 = .ok (.dup, 1) := by decide +kernel
theorem dX4_guest_12 : decode cX4_guest 12 = .ok (.ldc 151, 2) := by decide +kernel
theorem dX4_guest_14 : decode cX4_guest 14 = .ok (.invokespecial 66, 3) := by decide +kernel
theorem dX4_guest_17 : decode cX4_guest 17 = .ok (.athrow, 1) := by decide +kernel
theorem dX4_guest_18 : decode cX4_guest 18 = .ok (.aload_n 0, 1) := by decide +kernel
theorem dX4_guest_19 : decode cX4_guest 19 = .ok (.getfield 19, 3) := by decide +kernel
theorem dX4_guest_22 : decode cX4_guest 22 = .ok (.iload_n 1, 1) := by decide +kernel
theorem dX4_guest_23 : decode cX4_guest 23 = .ok (.invokevirtual 69, 3) := by decide +kernel
theorem dX4_guest_26 : decode cX4_guest 26 = .ok (.checkcast 145, 3) := by decide +kernel
theorem dX4_guest_29 : decode cX4_guest 29 = .ok (.astore_n 3, 1) := by decide +kernel
theorem dX4_guest_30 : decode cX4_guest 30 = .ok (.iload_n 2, 1) := by decide +kernel
theorem dX4_guest_31 : decode cX4_guest 31 = .ok (.tableswitch 76 0 6 #[41, 46, 51, 56, 61, 66, 71], 41) := by decide +kernel
theorem dX4_guest_72 : decode cX4_guest 72 = .ok (.aload_n 3, 1) := by decide +kernel
theorem dX4_guest_73 : decode cX4_guest 73 = .ok (.getfield 169, 3) := by decide +kernel
theorem dX4_guest_76 : decode cX4_guest 76 = .ok (.ireturn, 1) := by decide +kernel
theorem dX4_guest_77 : decode cX4_guest 77 = .ok (.aload_n 3, 1) := by decide +kernel
theorem dX4_guest_78 : decode cX4_guest 78 = .ok (.getfield 172, 3) := by decide +kernel
theorem dX4_guest_81 : decode cX4_guest 81 = .ok (.ireturn, 1) := by decide +kernel
theorem dX4_guest_82 : decode cX4_guest 82 = .ok (.aload_n 3, 1) := by decide +kernel
theorem dX4_guest_83 : decode cX4_guest 83 = .ok (.getfield 173, 3) := by decide +kernel
theorem dX4_guest_86 : decode cX4_guest 86 = .ok (.ireturn, 1) := by decide +kernel
theorem dX4_guest_87 : decode cX4_guest 87 = .ok (.aload_n 3, 1) := by decide +kernel
theorem dX4_guest_88 : decode cX4_guest 88 = .ok (.getfield 163, 3) := by decide +kernel
theorem dX4_guest_91 : decode cX4_guest 91 = .ok (.ireturn, 1) := by decide +kernel
theorem dX4_guest_92 : decode cX4_guest 92 = .ok (.aload_n 3, 1) := by decide +kernel
theorem dX4_guest_93 : decode cX4_guest 93 = .ok (.getfield 176, 3) := by decide +kernel
theorem dX4_guest_96 : decode cX4_guest 96 = .ok (.ireturn, 1) := by decide +kernel
theorem dX4_guest_97 : decode cX4_guest 97 = .ok (.aload_n 3, 1) := by decide +kernel
theorem dX4_guest_98 : decode cX4_guest 98 = .ok (.getfield 179, 3) := by decide +kernel
theorem dX4_guest_101 : decode cX4_guest 101 = .ok (.ireturn, 1) := by decide +kernel
theorem dX4_guest_102 : decode cX4_guest 102 = .ok (.aload_n 3, 1) := by decide +kernel
theorem dX4_guest_103 : decode cX4_guest 103 = .ok (.getfield 182, 3) := by decide +kernel
theorem dX4_guest_106 : decode cX4_guest 106 = .ok (.ireturn, 1) := by decide +kernel
theorem dX4_guest_107 : decode cX4_guest 107 = .ok (.new 62, 3) := by decide +kernel
theorem dX4_guest_110 : decode cX4_guest 110 = .ok (.dup, 1) := by decide +kernel
theorem dX4_guest_111 : decode cX4_guest 111 = .ok (.ldc 185, 2) := by decide +kernel
theorem dX4_guest_113 : decode cX4_guest 113 = .ok (.invokespecial 66, 3) := by decide +kernel
theorem dX4_guest_116 : decode cX4_guest 116 = .ok (.athrow, 1) := by decide +kernel
set_option maxRecDepth 20000 in
theorem ggX4_wins_X4_isRoom : GoodIn wsX4_wins wsX4_isRoom := goodIn_r _ [7, 8, 9, 10, 11, 12, 13, 14, 68, 69, 70, 71, 72, 73, 74, 75, 76, 77, 78] (by decide +kernel) (by decide +kernel)
set_option maxRecDepth 20000 in
theorem gX4_wins_X4_isRoom : GoodIn wsX4_wins (wsV RX4 58 RX4 yX4_isRoom wsX4_isRoom) := goodIn_app (goodIn_of _ (by decide +kernel)) ggX4_wins_X4_isRoom
set_option maxRecDepth 20000 in
theorem ggX4_wins_X4_winnerOf : GoodIn wsX4_wins wsX4_winnerOf := goodIn_r _ [18, 19, 20, 21, 9, 10, 11, 12, 13, 14, 22, 23, 24, 25, 26, 27, 28, 29, 30, 31, 32, 33, 34, 35, 36, 37, 38, 39, 40, 41, 6, 42, 43, 8, 44, 3, 4, 5, 7, 45, 46, 47, 48, 49, 50, 51, 52, 53, 54, 68, 69, 70, 71, 72, 73, 74, 75, 79, 80, 81, 82, 83, 84, 85, 76, 77, 78, 86, 87, 88, 89, 90, 91] (by decide +kernel) (by decide +kernel)
set_option maxRecDepth 20000 in
theorem gX4_wins_X4_winnerOf : GoodIn wsX4_wins (wsV RX4 187 RX4 yX4_winnerOf wsX4_winnerOf) := goodIn_app (goodIn_of _ (by decide +kernel)) ggX4_wins_X4_winnerOf
set_option maxRecDepth 20000 in
theorem ggX4_wins_X4_dueFor : GoodIn wsX4_wins wsX4_dueFor := goodIn_r _ [58, 8, 44, 59, 19, 20, 21, 60, 61, 62, 63, 3, 4, 5, 6, 7, 9, 10, 11, 12, 13, 14, 22, 23, 24, 25, 26, 27, 28, 29, 30, 31, 32, 33, 34, 35, 36, 37, 38, 39, 40, 41, 42, 43, 45, 46, 47, 48, 49, 50, 51, 52, 53, 54, 68, 69, 70, 71, 72, 73, 74, 75, 86, 87, 88, 89, 90, 91, 79, 80, 81, 82, 83, 84, 85, 76, 77, 78] (by decide +kernel) (by decide +kernel)
set_option maxRecDepth 20000 in
theorem gX4_wins_X4_dueFor : GoodIn wsX4_wins (wsV RX4 190 RX4 yX4_dueFor wsX4_dueFor) := goodIn_app (goodIn_of _ (by decide +kernel)) ggX4_wins_X4_dueFor
set_option maxRecDepth 20000 in
theorem ggX4_wins_X4_bidsThatCount : GoodIn wsX4_wins wsX4_bidsThatCount := goodIn_r _ [67, 19, 20, 9, 10, 11, 12, 13, 14, 22, 23, 24, 25, 26, 27, 28, 29, 30, 31, 32, 33, 34, 35, 36, 37, 38, 39, 40, 41, 6, 42, 43, 8, 44, 3, 4, 5, 7, 45, 46, 47, 48, 49, 50, 51, 52, 53, 54, 68, 69, 70, 71, 72, 73, 74, 75, 76, 77, 78, 79, 80, 81, 82, 83, 84, 85, 86, 87, 88, 89, 90, 91] (by decide +kernel) (by decide +kernel)
set_option maxRecDepth 20000 in
theorem gX4_wins_X4_bidsThatCount : GoodIn wsX4_wins (wsV RX4 193 RX4 yX4_bidsThatCount wsX4_bidsThatCount) := goodIn_app (goodIn_of _ (by decide +kernel)) ggX4_wins_X4_bidsThatCount
theorem dX4_wins_0 : decode cX4_wins 0 = .ok (.aload_n 0, 1) := by decide +kernel
theorem dX4_wins_1 : decode cX4_wins 1 = .ok (.iload_n 1, 1) := by decide +kernel
theorem dX4_wins_2 : decode cX4_wins 2 = .ok (.invokevirtual 58, 3) := by decide +kernel
theorem dX4_wins_5 : decode cX4_wins 5 = .ok (.ifCond .ne 13, 3) := by decide +kernel
theorem dX4_wins_8 : decode cX4_wins 8 = .ok (.new 62, 3) := by decide +kernel
theorem dX4_wins_11 : decode cX4_wins 11 = .ok (.dup, 1) := by decide +kernel
theorem dX4_wins_12 : decode cX4_wins 12 = .ok (.ldc 64, 2) := by decide +kernel
theorem dX4_wins_14 : decode cX4_wins 14 = .ok (.invokespecial 66, 3) := by decide +kernel
theorem dX4_wins_17 : decode cX4_wins 17 = .ok (.athrow, 1) := by decide +kernel
theorem dX4_wins_18 : decode cX4_wins 18 = .ok (.iload_n 2, 1) := by decide +kernel
theorem dX4_wins_19 : decode cX4_wins 19 = .ok (.tableswitch 48 0 2 #[25, 31, 42], 25) := by decide +kernel
theorem dX4_wins_44 : decode cX4_wins 44 = .ok (.aload_n 0, 1) := by decide +kernel
theorem dX4_wins_45 : decode cX4_wins 45 = .ok (.iload_n 1, 1) := by decide +kernel
theorem dX4_wins_46 : decode cX4_wins 46 = .ok (.invokevirtual 187, 3) := by decide +kernel
theorem dX4_wins_49 : decode cX4_wins 49 = .ok (.ireturn, 1) := by decide +kernel
theorem dX4_wins_50 : decode cX4_wins 50 = .ok (.aload_n 0, 1) := by decide +kernel
theorem dX4_wins_51 : decode cX4_wins 51 = .ok (.iload_n 1, 1) := by decide +kernel
theorem dX4_wins_52 : decode cX4_wins 52 = .ok (.aload_n 0, 1) := by decide +kernel
theorem dX4_wins_53 : decode cX4_wins 53 = .ok (.iload_n 1, 1) := by decide +kernel
theorem dX4_wins_54 : decode cX4_wins 54 = .ok (.invokevirtual 187, 3) := by decide +kernel
theorem dX4_wins_57 : decode cX4_wins 57 = .ok (.invokevirtual 190, 3) := by decide +kernel
theorem dX4_wins_60 : decode cX4_wins 60 = .ok (.ireturn, 1) := by decide +kernel
theorem dX4_wins_61 : decode cX4_wins 61 = .ok (.aload_n 0, 1) := by decide +kernel
theorem dX4_wins_62 : decode cX4_wins 62 = .ok (.iload_n 1, 1) := by decide +kernel
theorem dX4_wins_63 : decode cX4_wins 63 = .ok (.invokevirtual 193, 3) := by decide +kernel
theorem dX4_wins_66 : decode cX4_wins 66 = .ok (.ireturn, 1) := by decide +kernel
theorem dX4_wins_67 : decode cX4_wins 67 = .ok (.new 62, 3) := by decide +kernel
theorem dX4_wins_70 : decode cX4_wins 70 = .ok (.dup, 1) := by decide +kernel
theorem dX4_wins_71 : decode cX4_wins 71 = .ok (.ldc 196, 2) := by decide +kernel
theorem dX4_wins_73 : decode cX4_wins 73 = .ok (.invokespecial 66, 3) := by decide +kernel
theorem dX4_wins_76 : decode cX4_wins 76 = .ok (.athrow, 1) := by decide +kernel
set_option maxRecDepth 20000 in
theorem ggX4_night_Jx4a65c_size_8abf5 : GoodIn wsX4_night wsJx4a65c_size_8abf5 := goodIn_r _ [10, 11, 133, 134, 135] (by decide +kernel) (by decide +kernel)
set_option maxRecDepth 20000 in
theorem gX4_night_Jx4a65c_size_8abf5 : GoodIn wsX4_night (wsV RX4 40 RJx4a65c yJx4a65c_size_8abf5 wsJx4a65c_size_8abf5) := goodIn_app (goodIn_of _ (by decide +kernel)) ggX4_night_Jx4a65c_size_8abf5
set_option maxRecDepth 20000 in
theorem ggX4_night_X4_letRoom : GoodIn wsX4_night wsX4_letRoom := goodIn_r _ [16, 1, 17, 2, 3, 5, 18, 19, 20, 21, 15, 22, 23, 6, 7, 8, 9, 10, 11, 24, 25, 26, 27, 28, 29, 30, 31, 32, 33, 34, 35, 36, 37, 38, 39, 40, 41, 42, 43, 44, 45, 46, 47, 48, 49, 50, 51, 52, 53, 54, 55, 56, 57, 58, 59, 60, 61, 62, 63, 64, 65, 66, 67, 68, 69, 70, 71, 72, 73, 74, 75, 76, 77, 78, 79, 80, 81, 82, 83, 84, 85, 86, 87, 88, 89, 90, 91, 92, 93, 94, 95, 96, 97, 98, 99, 100, 101, 102, 103, 104, 105, 106, 107, 108, 109, 110, 111, 112, 113, 114, 115, 116, 117, 118, 119, 125, 126, 127, 128, 129, 130, 131, 132, 136, 137, 138, 139, 140, 141, 142, 133, 134, 135, 143, 144, 145, 146, 147, 148, 149, 150, 151, 152, 153] (by decide +kernel) (by decide +kernel)
set_option maxRecDepth 20000 in
theorem gX4_night_X4_letRoom : GoodIn wsX4_night (wsV RX4 198 RX4 yX4_letRoom wsX4_letRoom) := goodIn_app (goodIn_of _ (by decide +kernel)) ggX4_night_X4_letRoom
set_option maxRecDepth 20000 in
theorem ggX4_night_Jx4a65c_get_915e3 : GoodIn wsX4_night wsJx4a65c_get_915e3 := goodIn_r _ [27, 11, 28, 29, 30, 31, 32, 33, 34, 35, 36, 37, 38, 9, 39, 40, 133, 134, 135] (by decide +kernel) (by decide +kernel)
set_option maxRecDepth 20000 in
theorem gX4_night_Jx4a65c_get_915e3 : GoodIn wsX4_night (wsV RX4 69 RJx4a65c yJx4a65c_get_915e3 wsJx4a65c_get_915e3) := goodIn_app (goodIn_of _ (by decide +kernel)) ggX4_night_Jx4a65c_get_915e3
set_option maxRecDepth 20000 in
theorem ggX4_night_X1_dropBid : GoodIn wsX4_night wsX1_dropBid := goodIn_r _ [123, 124, 56, 136, 137, 138, 139, 140, 141, 142] (by decide +kernel) (by decide +kernel)
set_option maxRecDepth 20000 in
theorem gX4_night_X1_dropBid : GoodIn wsX4_night (wsV RX4 166 RX1 yX1_dropBid wsX1_dropBid) := goodIn_app (goodIn_of _ (by decide +kernel)) ggX4_night_X1_dropBid
theorem dX4_night_0 : decode cX4_night 0 = .ok (.iconst 0, 1) := by decide +kernel
theorem dX4_night_1 : decode cX4_night 1 = .ok (.istore_n 1, 1) := by decide +kernel
theorem dX4_night_2 : decode cX4_night 2 = .ok (.iload_n 1, 1) := by decide +kernel
theorem dX4_night_3 : decode cX4_night 3 = .ok (.aload_n 0, 1) := by decide +kernel
theorem dX4_night_4 : decode cX4_night 4 = .ok (.getfield 10, 3) := by decide +kernel
theorem dX4_night_7 : decode cX4_night 7 = .ok (.invokevirtual 40, 3) := by decide +kernel
theorem dX4_night_10 : decode cX4_night 10 = .ok (.if_icmp .ge 14, 3) := by decide +kernel
theorem dX4_night_13 : decode cX4_night 13 = .ok (.aload_n 0, 1) := by decide +kernel
theorem dX4_night_14 : decode cX4_night 14 = .ok (.iload_n 1, 1) := by decide +kernel
theorem dX4_night_15 : decode cX4_night 15 = .ok (.invokevirtual 198, 3) := by decide +kernel
theorem dX4_night_18 : decode cX4_night 18 = .ok (.iinc 1 1, 3) := by decide +kernel
theorem dX4_night_21 : decode cX4_night 21 = .ok (.goto (-19), 3) := by decide +kernel
theorem dX4_night_24 : decode cX4_night 24 = .ok (.iconst 0, 1) := by decide +kernel
theorem dX4_night_25 : decode cX4_night 25 = .ok (.istore_n 1, 1) := by decide +kernel
theorem dX4_night_26 : decode cX4_night 26 = .ok (.iload_n 1, 1) := by decide +kernel
theorem dX4_night_27 : decode cX4_night 27 = .ok (.aload_n 0, 1) := by decide +kernel
theorem dX4_night_28 : decode cX4_night 28 = .ok (.getfield 19, 3) := by decide +kernel
theorem dX4_night_31 : decode cX4_night 31 = .ok (.invokevirtual 40, 3) := by decide +kernel
theorem dX4_night_34 : decode cX4_night 34 = .ok (.if_icmp .ge 23, 3) := by decide +kernel
theorem dX4_night_37 : decode cX4_night 37 = .ok (.aload_n 0, 1) := by decide +kernel
theorem dX4_night_38 : decode cX4_night 38 = .ok (.getfield 19, 3) := by decide +kernel
theorem dX4_night_41 : decode cX4_night 41 = .ok (.iload_n 1, 1) := by decide +kernel
theorem dX4_night_42 : decode cX4_night 42 = .ok (.invokevirtual 69, 3) := by decide +kernel
theorem dX4_night_45 : decode cX4_night 45 = .ok (.checkcast 145, 3) := by decide +kernel
theorem dX4_night_48 : decode cX4_night 48 = .ok (.invokevirtual 166, 3) := by decide +kernel
theorem dX4_night_51 : decode cX4_night 51 = .ok (.iinc 1 1, 3) := by decide +kernel
theorem dX4_night_54 : decode cX4_night 54 = .ok (.goto (-28), 3) := by decide +kernel
theorem dX4_night_57 : decode cX4_night 57 = .ok (.aload_n 0, 1) := by decide +kernel
theorem dX4_night_58 : decode cX4_night 58 = .ok (.dup, 1) := by decide +kernel
theorem dX4_night_59 : decode cX4_night 59 = .ok (.getfield 201, 3) := by decide +kernel
theorem dX4_night_62 : decode cX4_night 62 = .ok (.iconst 1, 1) := by decide +kernel
theorem dX4_night_63 : decode cX4_night 63 = .ok (.iadd, 1) := by decide +kernel
theorem dX4_night_64 : decode cX4_night 64 = .ok (.putfield 201, 3) := by decide +kernel
theorem dX4_night_67 : decode cX4_night 67 = .ok (.aload_n 0, 1) := by decide +kernel
theorem dX4_night_68 : decode cX4_night 68 = .ok (.getfield 204, 3) := by decide +kernel
theorem dX4_night_71 : decode cX4_night 71 = .ok (.ireturn, 1) := by decide +kernel
set_option maxRecDepth 20000 in
theorem ggX4_count_Jx4a65c_size_8abf5 : GoodIn wsX4_count wsJx4a65c_size_8abf5 := goodIn_r _ [14, 15, 81, 82, 83] (by decide +kernel) (by decide +kernel)
set_option maxRecDepth 20000 in
theorem gX4_count_Jx4a65c_size_8abf5 : GoodIn wsX4_count (wsV RX4 40 RJx4a65c yJx4a65c_size_8abf5 wsJx4a65c_size_8abf5) := goodIn_app (goodIn_of _ (by decide +kernel)) ggX4_count_Jx4a65c_size_8abf5
set_option maxRecDepth 20000 in
theorem ggX4_count_X4_bidsWritten : GoodIn wsX4_count wsX4_bidsWritten := goodIn_r _ [20, 7, 21, 10, 11, 12, 13, 14, 15, 22, 23, 24, 25, 26, 27, 28, 29, 30, 31, 32, 33, 34, 35, 36, 37, 38, 39, 40, 41, 42, 43, 44, 73, 74, 75, 76, 77, 78, 79, 80, 81, 82, 83, 84, 85, 86, 87, 88, 89, 90] (by decide +kernel) (by decide +kernel)
set_option maxRecDepth 20000 in
theorem gX4_count_X4_bidsWritten : GoodIn wsX4_count (wsV RX4 205 RX4 yX4_bidsWritten wsX4_bidsWritten) := goodIn_app (goodIn_of _ (by decide +kernel)) ggX4_count_X4_bidsWritten
set_option maxRecDepth 20000 in
theorem ggX4_count_X4_roomsToLet : GoodIn wsX4_count wsX4_roomsToLet := goodIn_r _ [48, 4, 10, 11, 12, 13, 14, 15, 49, 50, 51, 19, 52, 7, 21, 53, 22, 23, 24, 25, 26, 27, 28, 29, 30, 31, 32, 33, 34, 35, 36, 37, 38, 54, 55, 56, 57, 58, 59, 60, 61, 62, 63, 64, 65, 66, 42, 67, 68, 69, 70, 71, 72, 73, 74, 75, 76, 77, 78, 79, 80, 81, 82, 83, 84, 85, 86, 87, 88, 89, 90, 91, 92, 93, 94, 95, 96] (by decide +kernel) (by decide +kernel)
set_option maxRecDepth 20000 in
theorem gX4_count_X4_roomsToLet : GoodIn wsX4_count (wsV RX4 211 RX4 yX4_roomsToLet wsX4_roomsToLet) := goodIn_app (goodIn_of _ (by decide +kernel)) ggX4_count_X4_roomsToLet
theorem dX4_count_0 : decode cX4_count 0 = .ok (.iload_n 1, 1) := by decide +kernel
theorem dX4_count_1 : decode cX4_count 1 = .ok (.tableswitch 105 0 8 #[51, 56, 64, 69, 77, 85, 90, 95, 100], 51) := by decide +kernel
theorem dX4_count_52 : decode cX4_count 52 = .ok (.aload_n 0, 1) := by decide +kernel
theorem dX4_count_53 : decode cX4_count 53 = .ok (.getfield 201, 3) := by decide +kernel
theorem dX4_count_56 : decode cX4_count 56 = .ok (.ireturn, 1) := by decide +kernel
theorem dX4_count_57 : decode cX4_count 57 = .ok (.aload_n 0, 1) := by decide +kernel
theorem dX4_count_58 : decode cX4_count 58 = .ok (.getfield 10, 3) := by decide +kernel
theorem dX4_count_61 : decode cX4_count 61 = .ok (.invokevirtual 40, 3) := by decide +kernel
theorem dX4_count_64 : decode cX4_count 64 = .ok (.ireturn, 1) := by decide +kernel
theorem dX4_count_65 : decode cX4_count 65 = .ok (.aload_n 0, 1) := by decide +kernel
theorem dX4_count_66 : decode cX4_count 66 = .ok (.getfield 76, 3) := by decide +kernel
theorem dX4_count_69 : decode cX4_count 69 = .ok (.ireturn, 1) := by decide +kernel
theorem dX4_count_70 : decode cX4_count 70 = .ok (.aload_n 0, 1) := by decide +kernel
theorem dX4_count_71 : decode cX4_count 71 = .ok (.getfield 16, 3) := by decide +kernel
theorem dX4_count_74 : decode cX4_count 74 = .ok (.invokevirtual 40, 3) := by decide +kernel
theorem dX4_count_77 : decode cX4_count 77 = .ok (.ireturn, 1) := by decide +kernel
theorem dX4_count_78 : decode cX4_count 78 = .ok (.aload_n 0, 1) := by decide +kernel
theorem dX4_count_79 : decode cX4_count 79 = .ok (.getfield 19, 3) := by decide +kernel
theorem dX4_count_82 : decode cX4_count 82 = .ok (.invokevirtual 40, 3) := by decide +kernel
theorem dX4_count_85 : decode cX4_count 85 = .ok (.ireturn, 1) := by decide +kernel
theorem dX4_count_86 : decode cX4_count 86 = .ok (.aload_n 0, 1) := by decide +kernel
theorem dX4_count_87 : decode cX4_count 87 = .ok (.getfield 204, 3) := by decide +kernel
theorem dX4_count_90 : decode cX4_count 90 = .ok (.ireturn, 1) := by decide +kernel
theorem dX4_count_91 : decode cX4_count 91 = .ok (.aload_n 0, 1) := by decide +kernel
theorem dX4_count_92 : decode cX4_count 92 = .ok (.invokevirtual 205, 3) := by decide +kernel
theorem dX4_count_95 : decode cX4_count 95 = .ok (.ireturn, 1) := by decide +kernel
theorem dX4_count_96 : decode cX4_count 96 = .ok (.aload_n 0, 1) := by decide +kernel
theorem dX4_count_97 : decode cX4_count 97 = .ok (.getfield 208, 3) := by decide +kernel
theorem dX4_count_100 : decode cX4_count 100 = .ok (.ireturn, 1) := by decide +kernel
theorem dX4_count_101 : decode cX4_count 101 = .ok (.aload_n 0, 1) := by decide +kernel
theorem dX4_count_102 : decode cX4_count 102 = .ok (.invokevirtual 211, 3) := by decide +kernel
theorem dX4_count_105 : decode cX4_count 105 = .ok (.ireturn, 1) := by decide +kernel
theorem dX4_count_106 : decode cX4_count 106 = .ok (.new 62, 3) := by decide +kernel
theorem dX4_count_109 : decode cX4_count 109 = .ok (.dup, 1) := by decide +kernel
theorem dX4_count_110 : decode cX4_count 110 = .ok (.ldc 214, 2) := by decide +kernel
theorem dX4_count_112 : decode cX4_count 112 = .ok (.invokespecial 66, 3) := by decide +kernel
theorem dX4_count_115 : decode cX4_count 115 = .ok (.athrow, 1) := by decide +kernel
set_option maxRecDepth 20000 in
theorem ggX4_best_X4_isGuest : GoodIn wsX4_best wsX4_isGuest := goodIn_r _ [16, 3, 17, 18, 19, 20, 21, 22, 67, 68, 69, 70, 71, 72, 73, 74, 88, 89, 90] (by decide +kernel) (by decide +kernel)
set_option maxRecDepth 20000 in
theorem gX4_best_X4_isGuest : GoodIn wsX4_best (wsV RX4 148 RX4 yX4_isGuest wsX4_isGuest) := goodIn_app (goodIn_of _ (by decide +kernel)) ggX4_best_X4_isGuest
set_option maxRecDepth 20000 in
theorem ggX4_best_Jx4a65c_get_915e3 : GoodIn wsX4_best wsJx4a65c_get_915e3 := goodIn_r _ [26, 22, 27, 28, 29, 30, 31, 32, 33, 34, 35, 36, 37, 20, 38, 39, 88, 89, 90] (by decide +kernel) (by decide +kernel)
set_option maxRecDepth 20000 in
theorem gX4_best_Jx4a65c_get_915e3 : GoodIn wsX4_best (wsV RX4 69 RJx4a65c yJx4a65c_get_915e3 wsJx4a65c_get_915e3) := goodIn_app (goodIn_of _ (by decide +kernel)) ggX4_best_Jx4a65c_get_915e3
set_option maxRecDepth 20000 in
theorem ggX4_best_Jx4a65c_size_8abf5 : GoodIn wsX4_best wsJx4a65c_size_8abf5 := goodIn_r _ [21, 22, 88, 89, 90] (by decide +kernel) (by decide +kernel)
set_option maxRecDepth 20000 in
theorem gX4_best_Jx4a65c_size_8abf5 : GoodIn wsX4_best (wsV RX4 40 RJx4a65c yJx4a65c_size_8abf5 wsJx4a65c_size_8abf5) := goodIn_app (goodIn_of _ (by decide +kernel)) ggX4_best_Jx4a65c_size_8abf5
set_option maxRecDepth 20000 in
theorem ggX4_best_X4_hauntingOfNight : GoodIn wsX4_best wsX4_hauntingOfNight := goodIn_r _ [43, 44, 45, 46, 15, 47, 48, 49, 50, 17, 18, 19, 20, 21, 22, 23, 24, 25, 26, 27, 28, 29, 30, 31, 32, 33, 34, 35, 36, 37, 38, 39, 51, 52, 53, 54, 55, 56, 67, 68, 69, 70, 71, 72, 73, 74, 91, 92, 93, 94, 95, 88, 89, 90] (by decide +kernel) (by decide +kernel)
set_option maxRecDepth 20000 in
theorem gX4_best_X4_hauntingOfNight : GoodIn wsX4_best (wsV RX4 113 RX4 yX4_hauntingOfNight wsX4_hauntingOfNight) := goodIn_app (goodIn_of _ (by decide +kernel)) ggX4_best_X4_hauntingOfNight
set_option maxRecDepth 20000 in
theorem ggX4_best_X1_isUpsetBy : GoodIn wsX4_best wsX1_isUpsetBy := goodIn_r _ [61, 62, 63, 64, 65, 60, 66, 81, 82, 83, 84, 85, 86, 87] (by decide +kernel) (by decide +kernel)
set_option maxRecDepth 20000 in
theorem gX4_best_X1_isUpsetBy : GoodIn wsX4_best (wsV RX4 216 RX1 yX1_isUpsetBy wsX1_isUpsetBy) := goodIn_app (goodIn_of _ (by decide +kernel)) ggX4_best_X1_isUpsetBy
theorem dX4_best_0 : decode cX4_best 0 = .ok (.aload_n 0, 1) := by decide +kernel
theorem dX4_best_1 : decode cX4_best 1 = .ok (.iload_n 1, 1) := by decide +kernel
theorem dX4_best_2 : decode cX4_best 2 = .ok (.invokevirtual 148, 3) := by decide +kernel
theorem dX4_best_5 : decode cX4_best 5 = .ok (.ifCond .ne 13, 3) := by decide +kernel
theorem dX4_best_8 : decode cX4_best 8 = .ok (.new 62, 3) := by decide +kernel
theorem dX4_best_11 : decode cX4_best 11 = .ok (.dup, 1) := by decide +kernel
theorem dX4_best_12 : decode cX4_best 12 = .ok (.ldc 151, 2) := by decide +kernel
theorem dX4_best_14 : decode cX4_best 14 = .ok (.invokespecial 66, 3) := by decide +kernel
theorem dX4_best_17 : decode cX4_best 17 = .ok (.athrow, 1) := by decide +kernel
theorem dX4_best_18 : decode cX4_best 18 = .ok (.aload_n 0, 1) := by decide +kernel
theorem dX4_best_19 : decode cX4_best 19 = .ok (.getfield 19, 3) := by decide +kernel
theorem dX4_best_22 : decode cX4_best 22 = .ok (.iload_n 1, 1) := by decide +kernel
theorem dX4_best_23 : decode cX4_best 23 = .ok (.invokevirtual 69, 3) := by decide +kernel
theorem dX4_best_26 : decode cX4_best 26 = .ok (.checkcast 145, 3) := by decide +kernel
theorem dX4_best_29 : decode cX4_best 29 = .ok (.astore_n 2, 1) := by decide +kernel
theorem dX4_best_30 : decode cX4_best 30 = .ok (.iconst (-1), 1) := by decide +kernel
theorem dX4_best_31 : decode cX4_best 31 = .ok (.istore_n 3, 1) := by decide +kernel
theorem dX4_best_32 : decode cX4_best 32 = .ok (.iconst (-1), 1) := by decide +kernel
theorem dX4_best_33 : decode cX4_best 33 = .ok (.istore 4, 2) := by decide +kernel
theorem dX4_best_35 : decode cX4_best 35 = .ok (.iconst 0, 1) := by decide +kernel
theorem dX4_best_36 : decode cX4_best 36 = .ok (.istore 5, 2) := by decide +kernel
theorem dX4_best_38 : decode cX4_best 38 = .ok (.iload 5, 2) := by decide +kernel
theorem dX4_best_40 : decode cX4_best 40 = .ok (.aload_n 0, 1) := by decide +kernel
theorem dX4_best_41 : decode cX4_best 41 = .ok (.getfield 10, 3) := by decide +kernel
theorem dX4_best_44 : decode cX4_best 44 = .ok (.invokevirtual 40, 3) := by decide +kernel
theorem dX4_best_47 : decode cX4_best 47 = .ok (.if_icmp .ge 81, 3) := by decide +kernel
theorem dX4_best_50 : decode cX4_best 50 = .ok (.aload_n 0, 1) := by decide +kernel
theorem dX4_best_51 : decode cX4_best 51 = .ok (.getfield 10, 3) := by decide +kernel
theorem dX4_best_54 : decode cX4_best 54 = .ok (.iload 5, 2) := by decide +kernel
theorem dX4_best_56 : decode cX4_best 56 = .ok (.invokevirtual 69, 3) := by decide +kernel
theorem dX4_best_59 : decode cX4_best 59 = .ok (.checkcast 49, 3) := by decide +kernel
theorem dX4_best_62 : decode cX4_best 62 = .ok (.astore 6, 2) := by decide +kernel
theorem dX4_best_64 : decode cX4_best 64 = .ok (.aload 6, 2) := by decide +kernel
theorem dX4_best_66 : decode cX4_best 66 = .ok (.getfield 124, 3) := by decide +kernel
theorem dX4_best_69 : decode cX4_best 69 = .ok (.iload 4, 2) := by decide +kernel
theorem dX4_best_71 : decode cX4_best 71 = .ok (.if_icmp .le 51, 3) := by decide +kernel
theorem dX4_best_74 : decode cX4_best 74 = .ok (.aload 6, 2) := by decide +kernel
theorem dX4_best_76 : decode cX4_best 76 = .ok (.getfield 121, 3) := by decide +kernel
theorem dX4_best_79 : decode cX4_best 79 = .ok (.aload_n 2, 1) := by decide +kernel
theorem dX4_best_80 : decode cX4_best 80 = .ok (.getfield 172, 3) := by decide +kernel
theorem dX4_best_83 : decode cX4_best 83 = .ok (.if_icmp .lt 39, 3) := by decide +kernel
theorem dX4_best_86 : decode cX4_best 86 = .ok (.aload 6, 2) := by decide +kernel
theorem dX4_best_88 : decode cX4_best 88 = .ok (.getfield 127, 3) := by decide +kernel
theorem dX4_best_91 : decode cX4_best 91 = .ok (.aload_n 2, 1) := by decide +kernel
theorem dX4_best_92 : decode cX4_best 92 = .ok (.getfield 169, 3) := by decide +kernel
theorem dX4_best_95 : decode cX4_best 95 = .ok (.if_icmp .gt 27, 3) := by decide +kernel
theorem dX4_best_98 : decode cX4_best 98 = .ok (.aload_n 2, 1) := by decide +kernel
theorem dX4_best_99 : decode cX4_best 99 = .ok (.aload_n 0, 1) := by decide +kernel
theorem dX4_best_100 : decode cX4_best 100 = .ok (.iload 5, 2) := by decide +kernel
theorem dX4_best_102 : decode cX4_best 102 = .ok (.iconst (-1), 1) := by decide +kernel
theorem dX4_best_103 : decode cX4_best 103 = .ok (.invokevirtual 113, 3) := by decide +kernel
theorem dX4_best_106 : decode cX4_best 106 = .ok (.invokevirtual 216, 3) := by decide +kernel
theorem dX4_best_109 : decode cX4_best 109 = .ok (.ifCond .ne 13, 3) := by decide +kernel
theorem dX4_best_112 : decode cX4_best 112 = .ok (.iload 5, 2) := by decide +kernel
theorem dX4_best_114 : decode cX4_best 114 = .ok (.istore_n 3, 1) := by decide +kernel
theorem dX4_best_115 : decode cX4_best 115 = .ok (.aload 6, 2) := by decide +kernel
theorem dX4_best_117 : decode cX4_best 117 = .ok (.getfield 124, 3) := by decide +kernel
theorem dX4_best_120 : decode cX4_best 120 = .ok (.istore 4, 2) := by decide +kernel
theorem dX4_best_122 : decode cX4_best 122 = .ok (.iinc 5 1, 3) := by decide +kernel
theorem dX4_best_125 : decode cX4_best 125 = .ok (.goto (-87), 3) := by decide +kernel
theorem dX4_best_128 : decode cX4_best 128 = .ok (.iload_n 3, 1) := by decide +kernel
theorem dX4_best_129 : decode cX4_best 129 = .ok (.ireturn, 1) := by decide +kernel
set_option maxRecDepth 20000 in
theorem ggX4_most_X3_clear : GoodIn wsX4_most wsX3_clear := goodIn_r _ [9, 10, 11, 12, 13, 14, 15, 100, 101, 102] (by decide +kernel) (by decide +kernel)
set_option maxRecDepth 20000 in
theorem gX4_most_X3_clear : GoodIn wsX4_most (wsV RX4 219 RX3 yX3_clear wsX3_clear) := goodIn_app (goodIn_of _ (by decide +kernel)) ggX4_most_X3_clear
set_option maxRecDepth 20000 in
theorem ggX4_most_X4_allowSeats : GoodIn wsX4_most wsX4_allowSeats := goodIn_r _ [20, 2, 3, 21, 22, 1, 23, 24, 25, 26, 27, 28, 29, 30, 31, 32, 33, 34, 35, 36, 37, 38, 39, 40, 41, 42, 43, 44, 45, 46, 47, 48, 49, 50, 51, 52, 53, 54, 55, 56, 57, 58, 59, 60, 61, 62, 63, 8, 64, 10, 85, 86, 87, 88, 89, 90, 91, 92, 103, 104, 105, 93, 94, 95, 96, 97, 98, 99, 106, 107, 108, 109, 110, 111, 100, 101, 102] (by decide +kernel) (by decide +kernel)
set_option maxRecDepth 20000 in
theorem gX4_most_X4_allowSeats : GoodIn wsX4_most (wsV RX4 222 RX4 yX4_allowSeats wsX4_allowSeats) := goodIn_app (goodIn_of _ (by decide +kernel)) ggX4_most_X4_allowSeats
set_option maxRecDepth 20000 in
theorem ggX4_most_X4_nextDearest : GoodIn wsX4_most wsX4_nextDearest := goodIn_r _ [68, 2, 3, 23, 24, 25, 26, 27, 28, 69, 70, 71, 19, 72, 4, 73, 74, 75, 76, 29, 30, 31, 32, 33, 34, 35, 36, 37, 38, 39, 40, 41, 42, 43, 44, 45, 46, 47, 48, 49, 50, 51, 85, 86, 87, 88, 89, 90, 91, 92, 103, 104, 105, 93, 94, 95, 96, 97, 98, 99] (by decide +kernel) (by decide +kernel)
set_option maxRecDepth 20000 in
theorem gX4_most_X4_nextDearest : GoodIn wsX4_most (wsV RX4 225 RX4 yX4_nextDearest wsX4_nextDearest) := goodIn_app (goodIn_of _ (by decide +kernel)) ggX4_most_X4_nextDearest
set_option maxRecDepth 20000 in
theorem ggX4_most_Jx4a65c_size_8abf5 : GoodIn wsX4_most wsJx4a65c_size_8abf5 := goodIn_r _ [27, 28, 103, 104, 105] (by decide +kernel) (by decide +kernel)
set_option maxRecDepth 20000 in
theorem gX4_most_Jx4a65c_size_8abf5 : GoodIn wsX4_most (wsV RX4 40 RJx4a65c yJx4a65c_size_8abf5 wsJx4a65c_size_8abf5) := goodIn_app (goodIn_of _ (by decide +kernel)) ggX4_most_Jx4a65c_size_8abf5
set_option maxRecDepth 20000 in
theorem ggX4_most_X4_isGuest : GoodIn wsX4_most wsX4_isGuest := goodIn_r _ [76, 2, 23, 24, 25, 26, 27, 28, 85, 86, 87, 88, 89, 90, 91, 92, 103, 104, 105] (by decide +kernel) (by decide +kernel)
set_option maxRecDepth 20000 in
theorem gX4_most_X4_isGuest : GoodIn wsX4_most (wsV RX4 148 RX4 yX4_isGuest wsX4_isGuest) := goodIn_app (goodIn_of _ (by decide +kernel)) ggX4_most_X4_isGuest
set_option maxRecDepth 20000 in
theorem ggX4_most_X3_seat : GoodIn wsX4_most wsX3_seat := goodIn_r _ [80, 81, 82, 83, 8, 84, 10, 11, 100, 101, 102] (by decide +kernel) (by decide +kernel)
set_option maxRecDepth 20000 in
theorem gX4_most_X3_seat : GoodIn wsX4_most (wsV RX4 228 RX3 yX3_seat wsX3_seat) := goodIn_app (goodIn_of _ (by decide +kernel)) ggX4_most_X3_seat
set_option maxRecDepth 20000 in
theorem ggX4_most_Jx4a65c_get_915e3 : GoodIn wsX4_most wsJx4a65c_get_915e3 := goodIn_r _ [32, 28, 33, 34, 35, 36, 37, 38, 39, 40, 41, 42, 43, 26, 44, 45, 103, 104, 105] (by decide +kernel) (by decide +kernel)
set_option maxRecDepth 20000 in
theorem gX4_most_Jx4a65c_get_915e3 : GoodIn wsX4_most (wsV RX4 69 RJx4a65c yJx4a65c_get_915e3 wsJx4a65c_get_915e3) := goodIn_app (goodIn_of _ (by decide +kernel)) ggX4_most_Jx4a65c_get_915e3
theorem dX4_most_0 : decode cX4_most 0 = .ok (.aload_n 0, 1) := by decide +kernel
theorem dX4_most_1 : decode cX4_most 1 = .ok (.getfield 25, 3) := by decide +kernel
theorem dX4_most_4 : decode cX4_most 4 = .ok (.invokevirtual 219, 3) := by decide +kernel
theorem dX4_most_7 : decode cX4_most 7 = .ok (.aload_n 0, 1) := by decide +kernel
theorem dX4_most_8 : decode cX4_most 8 = .ok (.invokevirtual 222, 3) := by decide +kernel
theorem dX4_most_11 : decode cX4_most 11 = .ok (.iconst 0, 1) := by decide +kernel
theorem dX4_most_12 : decode cX4_most 12 = .ok (.istore_n 1, 1) := by decide +kernel
theorem dX4_most_13 : decode cX4_most 13 = .ok (.aload_n 0, 1) := by decide +kernel
theorem dX4_most_14 : decode cX4_most 14 = .ok (.iconst (-1), 1) := by decide +kernel
theorem dX4_most_15 : decode cX4_most 15 = .ok (.invokevirtual 225, 3) := by decide +kernel
theorem dX4_most_18 : decode cX4_most 18 = .ok (.istore_n 2, 1) := by decide +kernel
theorem dX4_most_19 : decode cX4_most 19 = .ok (.iconst 0, 1) := by decide +kernel
theorem dX4_most_20 : decode cX4_most 20 = .ok (.istore_n 3, 1) := by decide +kernel
theorem dX4_most_21 : decode cX4_most 21 = .ok (.iload_n 3, 1) := by decide +kernel
theorem dX4_most_22 : decode cX4_most 22 = .ok (.aload_n 0, 1) := by decide +kernel
theorem dX4_most_23 : decode cX4_most 23 = .ok (.getfield 19, 3) := by decide +kernel
theorem dX4_most_26 : decode cX4_most 26 = .ok (.invokevirtual 40, 3) := by decide +kernel
theorem dX4_most_29 : decode cX4_most 29 = .ok (.if_icmp .ge 51, 3) := by decide +kernel
theorem dX4_most_32 : decode cX4_most 32 = .ok (.aload_n 0, 1) := by decide +kernel
theorem dX4_most_33 : decode cX4_most 33 = .ok (.iload_n 2, 1) := by decide +kernel
theorem dX4_most_34 : decode cX4_most 34 = .ok (.invokevirtual 148, 3) := by decide +kernel
theorem dX4_most_37 : decode cX4_most 37 = .ok (.ifCond .eq 43, 3) := by decide +kernel
theorem dX4_most_40 : decode cX4_most 40 = .ok (.aload_n 0, 1) := by decide +kernel
theorem dX4_most_41 : decode cX4_most 41 = .ok (.getfield 25, 3) := by decide +kernel
theorem dX4_most_44 : decode cX4_most 44 = .ok (.iload_n 2, 1) := by decide +kernel
theorem dX4_most_45 : decode cX4_most 45 = .ok (.invokevirtual 228, 3) := by decide +kernel
theorem dX4_most_48 : decode cX4_most 48 = .ok (.ifCond .eq 20, 3) := by decide +kernel
theorem dX4_most_51 : decode cX4_most 51 = .ok (.iload_n 1, 1) := by decide +kernel
theorem dX4_most_52 : decode cX4_most 52 = .ok (.aload_n 0, 1) := by decide +kernel
theorem dX4_most_53 : decode cX4_most 53 = .ok (.getfield 19, 3) := by decide +kernel
theorem dX4_most_56 : decode cX4_most 56 = .ok (.iload_n 2, 1) := by decide +kernel
theorem dX4_most_57 : decode cX4_most 57 = .ok (.invokevirtual 69, 3) := by decide +kernel
theorem dX4_most_60 : decode cX4_most 60 = .ok (.checkcast 145, 3) := by decide +kernel
theorem dX4_most_63 : decode cX4_most 63 = .ok (.getfield 176, 3) := by decide +kernel
theorem dX4_most_66 : decode cX4_most 66 = .ok (.iadd, 1) := by decide +kernel
theorem dX4_most_67 : decode cX4_most 67 = .ok (.istore_n 1, 1) := by decide +kernel
theorem dX4_most_68 : decode cX4_most 68 = .ok (.aload_n 0, 1) := by decide +kernel
theorem dX4_most_69 : decode cX4_most 69 = .ok (.iload_n 2, 1) := by decide +kernel
theorem dX4_most_70 : decode cX4_most 70 = .ok (.invokevirtual 225, 3) := by decide +kernel
theorem dX4_most_73 : decode cX4_most 73 = .ok (.istore_n 2, 1) := by decide +kernel
theorem dX4_most_74 : decode cX4_most 74 = .ok (.iinc 3 1, 3) := by decide +kernel
theorem dX4_most_77 : decode cX4_most 77 = .ok (.goto (-56), 3) := by decide +kernel
theorem dX4_most_80 : decode cX4_most 80 = .ok (.iload_n 1, 1) := by decide +kernel
theorem dX4_most_81 : decode cX4_most 81 = .ok (.ireturn, 1) := by decide +kernel
set_option maxRecDepth 20000 in
theorem ggX4_scares_X4_isGhost : GoodIn wsX4_scares wsX4_isGhost := goodIn_r _ [7, 8, 9, 10, 11, 12, 13, 14, 102, 103, 104, 105, 106, 107, 108, 109, 110, 111, 112] (by decide +kernel) (by decide +kernel)
set_option maxRecDepth 20000 in
theorem gX4_scares_X4_isGhost : GoodIn wsX4_scares (wsV RX4 102 RX4 yX4_isGhost wsX4_isGhost) := goodIn_app (goodIn_of _ (by decide +kernel)) ggX4_scares_X4_isGhost
set_option maxRecDepth 20000 in
theorem ggX4_scares_X4_backTonight : GoodIn wsX4_scares wsX4_backTonight := goodIn_r _ [18, 19, 20, 21, 9, 10, 11, 12, 13, 14, 22, 23, 24, 6, 25, 26, 27, 28, 29, 30, 31, 32, 33, 34, 35, 36, 37, 38, 39, 40, 41, 42, 43, 44, 45, 46, 47, 48, 49, 50, 51, 52, 53, 54, 55, 56, 57, 58, 59, 60, 61, 62, 63, 64, 65, 66, 67, 68, 69, 70, 71, 72, 73, 74, 75, 8, 76, 77, 78, 79, 80, 81, 82, 83, 84, 85, 86, 87, 88, 89, 90, 91, 92, 93, 94, 95, 96, 97, 98, 99, 100, 101, 102, 103, 104, 105, 106, 107, 108, 109, 110, 111, 112, 113, 114, 115, 116, 117, 118, 119, 120, 121, 122, 123, 124, 125, 126, 127, 128, 129, 130] (by decide +kernel) (by decide +kernel)
set_option maxRecDepth 20000 in
theorem gX4_scares_X4_backTonight : GoodIn wsX4_scares (wsV RX4 231 RX4 yX4_backTonight wsX4_backTonight) := goodIn_app (goodIn_of _ (by decide +kernel)) ggX4_scares_X4_backTonight
theorem dX4_scares_0 : decode cX4_scares 0 = .ok (.aload_n 0, 1) := by decide +kernel
theorem dX4_scares_1 : decode cX4_scares 1 = .ok (.iload_n 1, 1) := by decide +kernel
theorem dX4_scares_2 : decode cX4_scares 2 = .ok (.invokevirtual 102, 3) := by decide +kernel
theorem dX4_scares_5 : decode cX4_scares 5 = .ok (.ifCond .ne 13, 3) := by decide +kernel
theorem dX4_scares_8 : decode cX4_scares 8 = .ok (.new 62, 3) := by decide +kernel
theorem dX4_scares_11 : decode cX4_scares 11 = .ok (.dup, 1) := by decide +kernel
theorem dX4_scares_12 : decode cX4_scares 12 = .ok (.ldc 105, 2) := by decide +kernel
theorem dX4_scares_14 : decode cX4_scares 14 = .ok (.invokespecial 66, 3) := by decide +kernel
theorem dX4_scares_17 : decode cX4_scares 17 = .ok (.athrow, 1) := by decide +kernel
theorem dX4_scares_18 : decode cX4_scares 18 = .ok (.aload_n 0, 1) := by decide +kernel
theorem dX4_scares_19 : decode cX4_scares 19 = .ok (.iconst (-1), 1) := by decide +kernel
theorem dX4_scares_20 : decode cX4_scares 20 = .ok (.invokevirtual 231, 3) := by decide +kernel
theorem dX4_scares_23 : decode cX4_scares 23 = .ok (.aload_n 0, 1) := by decide +kernel
theorem dX4_scares_24 : decode cX4_scares 24 = .ok (.iload_n 1, 1) := by decide +kernel
theorem dX4_scares_25 : decode cX4_scares 25 = .ok (.invokevirtual 231, 3) := by decide +kernel
theorem dX4_scares_28 : decode cX4_scares 28 = .ok (.isub, 1) := by decide +kernel
theorem dX4_scares_29 : decode cX4_scares 29 = .ok (.ireturn, 1) := by decide +kernel
set_option maxRecDepth 20000 in
theorem ggX4_mean_Jx4a65c_size_8abf5 : GoodIn wsX4_mean wsJx4a65c_size_8abf5 := goodIn_r _ [9, 10, 42, 43, 44] (by decide +kernel) (by decide +kernel)
set_option maxRecDepth 20000 in
theorem gX4_mean_Jx4a65c_size_8abf5 : GoodIn wsX4_mean (wsV RX4 40 RJx4a65c yJx4a65c_size_8abf5 wsJx4a65c_size_8abf5) := goodIn_app (goodIn_of _ (by decide +kernel)) ggX4_mean_Jx4a65c_size_8abf5
set_option maxRecDepth 20000 in
theorem ggX4_mean_Jx4a65c_get_915e3 : GoodIn wsX4_mean wsJx4a65c_get_915e3 := goodIn_r _ [14, 10, 15, 16, 17, 18, 19, 20, 21, 22, 23, 24, 25, 8, 26, 27, 42, 43, 44] (by decide +kernel) (by decide +kernel)
set_option maxRecDepth 20000 in
theorem gX4_mean_Jx4a65c_get_915e3 : GoodIn wsX4_mean (wsV RX4 69 RJx4a65c yJx4a65c_get_915e3 wsJx4a65c_get_915e3) := goodIn_app (goodIn_of _ (by decide +kernel)) ggX4_mean_Jx4a65c_get_915e3
theorem dX4_mean_0 : decode cX4_mean 0 = .ok (.iconst 0, 1) := by decide +kernel
theorem dX4_mean_1 : decode cX4_mean 1 = .ok (.istore_n 1, 1) := by decide +kernel
theorem dX4_mean_2 : decode cX4_mean 2 = .ok (.iconst 0, 1) := by decide +kernel
theorem dX4_mean_3 : decode cX4_mean 3 = .ok (.istore_n 2, 1) := by decide +kernel
theorem dX4_mean_4 : decode cX4_mean 4 = .ok (.iload_n 2, 1) := by decide +kernel
theorem dX4_mean_5 : decode cX4_mean 5 = .ok (.aload_n 0, 1) := by decide +kernel
theorem dX4_mean_6 : decode cX4_mean 6 = .ok (.getfield 10, 3) := by decide +kernel
theorem dX4_mean_9 : decode cX4_mean 9 = .ok (.invokevirtual 40, 3) := by decide +kernel
theorem dX4_mean_12 : decode cX4_mean 12 = .ok (.if_icmp .ge 26, 3) := by decide +kernel
theorem dX4_mean_15 : decode cX4_mean 15 = .ok (.iload_n 1, 1) := by decide +kernel
theorem dX4_mean_16 : decode cX4_mean 16 = .ok (.aload_n 0, 1) := by decide +kernel
theorem dX4_mean_17 : decode cX4_mean 17 = .ok (.getfield 10, 3) := by decide +kernel
theorem dX4_mean_20 : decode cX4_mean 20 = .ok (.iload_n 2, 1) := by decide +kernel
theorem dX4_mean_21 : decode cX4_mean 21 = .ok (.invokevirtual 69, 3) := by decide +kernel
theorem dX4_mean_24 : decode cX4_mean 24 = .ok (.checkcast 49, 3) := by decide +kernel
theorem dX4_mean_27 : decode cX4_mean 27 = .ok (.getfield 133, 3) := by decide +kernel
theorem dX4_mean_30 : decode cX4_mean 30 = .ok (.iadd, 1) := by decide +kernel
theorem dX4_mean_31 : decode cX4_mean 31 = .ok (.istore_n 1, 1) := by decide +kernel
theorem dX4_mean_32 : decode cX4_mean 32 = .ok (.iinc 2 1, 3) := by decide +kernel
theorem dX4_mean_35 : decode cX4_mean 35 = .ok (.goto (-31), 3) := by decide +kernel
theorem dX4_mean_38 : decode cX4_mean 38 = .ok (.iload_n 1, 1) := by decide +kernel
theorem dX4_mean_39 : decode cX4_mean 39 = .ok (.ifCond .ne 7, 3) := by decide +kernel
theorem dX4_mean_42 : decode cX4_mean 42 = .ok (.dconst 0, 1) := by decide +kernel
theorem dX4_mean_43 : decode cX4_mean 43 = .ok (.goto 11, 3) := by decide +kernel
theorem dX4_mean_46 : decode cX4_mean 46 = .ok (.aload_n 0, 1) := by decide +kernel
theorem dX4_mean_47 : decode cX4_mean 47 = .ok (.getfield 204, 3) := by decide +kernel
theorem dX4_mean_50 : decode cX4_mean 50 = .ok (.i2d, 1) := by decide +kernel
theorem dX4_mean_51 : decode cX4_mean 51 = .ok (.iload_n 1, 1) := by decide +kernel
theorem dX4_mean_52 : decode cX4_mean 52 = .ok (.i2d, 1) := by decide +kernel
theorem dX4_mean_53 : decode cX4_mean 53 = .ok (.ddiv, 1) := by decide +kernel
theorem dX4_mean_54 : decode cX4_mean 54 = .ok (.dreturn, 1) := by decide +kernel
set_option maxRecDepth 20000 in
theorem ggX4_digest_X4_count : GoodIn wsX4_digest wsX4_count := goodIn_ca (goodIn_r _ [10, 11, 12, 13, 3, 14, 4, 5, 15, 16, 17, 18, 19, 20, 21, 22, 23, 24, 25, 9, 26, 27, 28, 29, 30, 31, 32, 33, 34, 35, 36, 37, 38, 39, 40, 41, 42, 43, 44, 45, 46, 47, 48, 49, 50, 51, 52, 53, 54, 55, 56, 57, 58, 59, 60, 61, 62, 63, 64, 65, 66, 67, 68, 69, 70, 71, 72, 73, 74, 75, 76, 77, 78, 165, 166, 167, 168, 169, 170, 171, 172, 173, 174, 175, 176, 177, 178, 179, 180, 181, 182, 183, 184, 185, 186, 187, 188] (by decide +kernel) (by decide +kernel)) (goodIn_sub (fun _ h => List.mem_cons_of_mem _ (List.mem_append_right _ h)) (by decide +kernel))
set_option maxRecDepth 20000 in
theorem gX4_digest_X4_count : GoodIn wsX4_digest (wsV RX4 238 RX4 yX4_count wsX4_count) := goodIn_app (goodIn_of _ (by decide +kernel)) ggX4_digest_X4_count
set_option maxRecDepth 20000 in
theorem ggX4_digest_Jx4a65c_size_8abf5 : GoodIn wsX4_digest wsJx4a65c_size_8abf5 := goodIn_r _ [21, 22, 173, 174, 175] (by decide +kernel) (by decide +kernel)
set_option maxRecDepth 20000 in
theorem gX4_digest_Jx4a65c_size_8abf5 : GoodIn wsX4_digest (wsV RX4 40 RJx4a65c yJx4a65c_size_8abf5 wsJx4a65c_size_8abf5) := goodIn_app (goodIn_of _ (by decide +kernel)) ggX4_digest_Jx4a65c_size_8abf5
set_option maxRecDepth 20000 in
theorem ggX4_digest_X4_digestRoom : GoodIn wsX4_digest wsX4_digestRoom := goodIn_ca (goodIn_r _ [82, 2, 83, 84, 85, 9, 86, 11, 12, 3, 65, 87, 88, 89, 90, 91, 66, 67, 68, 69, 17, 18, 19, 20, 21, 22, 28, 29, 30, 31, 32, 33, 34, 35, 36, 37, 38, 39, 40, 41, 42, 43, 44, 92, 93, 94, 95, 96, 97, 98, 99, 100, 101, 102, 103, 104, 105, 106, 107, 108, 55, 56, 57, 58, 5, 27, 59, 60, 61, 62, 63, 64, 70, 71, 72, 48, 73, 74, 75, 76, 77, 78, 109, 110, 111, 112, 113, 114, 115, 116, 117, 118, 119, 120, 121, 122, 123, 124, 125, 126, 127, 128, 129, 130, 131, 132, 133, 134, 135, 4, 136, 137, 138, 139, 140, 141, 142, 143, 165, 166, 167, 168, 169, 170, 171, 172, 183, 184, 185, 186, 187, 188, 173, 174, 175, 176, 177, 178, 179, 180, 181, 182, 189, 190, 191, 192, 193] (by decide +kernel) (by decide +kernel)) (goodIn_sub (fun _ h => List.mem_cons_of_mem _ (List.mem_append_right _ h)) (by decide +kernel))
set_option maxRecDepth 20000 in
theorem gX4_digest_X4_digestRoom : GoodIn wsX4_digest (wsV RX4 241 RX4 yX4_digestRoom wsX4_digestRoom) := goodIn_app (goodIn_of _ (by decide +kernel)) ggX4_digest_X4_digestRoom
set_option maxRecDepth 20000 in
theorem ggX4_digest_X4_at : GoodIn wsX4_digest wsX4_at := goodIn_ca (goodIn_r _ [147, 11, 12, 4, 136, 148, 149, 150, 9, 151, 17, 18, 19, 20, 21, 22, 125, 126, 127, 28, 29, 30, 31, 32, 33, 34, 35, 36, 37, 38, 39, 40, 41, 42, 43, 44, 138, 139, 140, 141, 142, 143, 165, 166, 167, 168, 169, 170, 171, 172, 173, 174, 175, 189, 190, 191, 192, 193] (by decide +kernel) (by decide +kernel)) (goodIn_sub (fun _ h => List.mem_cons_of_mem _ (List.mem_append_right _ h)) (by decide +kernel))
set_option maxRecDepth 20000 in
theorem gX4_digest_X4_at : GoodIn wsX4_digest (wsV RX4 245 RX4 yX4_at wsX4_at) := goodIn_app (goodIn_of _ (by decide +kernel)) ggX4_digest_X4_at
set_option maxRecDepth 20000 in
theorem ggX4_digest_X4_guest : GoodIn wsX4_digest wsX4_guest := goodIn_ca (goodIn_r _ [155, 11, 12, 5, 27, 156, 157, 158, 64, 59, 159, 160, 161, 162, 163, 9, 164, 17, 18, 19, 20, 21, 22, 28, 29, 30, 31, 32, 33, 34, 35, 36, 37, 38, 39, 40, 41, 42, 43, 44, 165, 166, 167, 168, 169, 170, 171, 172, 176, 177, 178, 179, 180, 181, 182, 173, 174, 175] (by decide +kernel) (by decide +kernel)) (goodIn_sub (fun _ h => List.mem_cons_of_mem _ (List.mem_append_right _ h)) (by decide +kernel))
set_option maxRecDepth 20000 in
theorem gX4_digest_X4_guest : GoodIn wsX4_digest (wsV RX4 248 RX4 yX4_guest wsX4_guest) := goodIn_app (goodIn_of _ (by decide +kernel)) ggX4_digest_X4_guest
theorem dX4_digest_0 : decode cX4_digest 0 = .ok (.ldc2_w 234, 3) := by decide +kernel
theorem dX4_digest_3 : decode cX4_digest 3 = .ok (.lstore_n 1, 1) := by decide +kernel
theorem dX4_digest_4 : decode cX4_digest 4 = .ok (.iconst 0, 1) := by decide +kernel
theorem dX4_digest_5 : decode cX4_digest 5 = .ok (.istore_n 3, 1) := by decide +kernel
theorem dX4_digest_6 : decode cX4_digest 6 = .ok (.iload_n 3, 1) := by decide +kernel
theorem dX4_digest_7 : decode cX4_digest 7 = .ok (.bipush 9, 2) := by decide +kernel
theorem dX4_digest_9 : decode cX4_digest 9 = .ok (.if_icmp .ge 22, 3) := by decide +kernel
theorem dX4_digest_12 : decode cX4_digest 12 = .ok (.lload_n 1, 1) := by decide +kernel
theorem dX4_digest_13 : decode cX4_digest 13 = .ok (.ldc2_w 236, 3) := by decide +kernel
theorem dX4_digest_16 : decode cX4_digest 16 = .ok (.lmul, 1) := by decide +kernel
theorem dX4_digest_17 : decode cX4_digest 17 = .ok (.aload_n 0, 1) := by decide +kernel
theorem dX4_digest_18 : decode cX4_digest 18 = .ok (.iload_n 3, 1) := by decide +kernel
theorem dX4_digest_19 : decode cX4_digest 19 = .ok (.invokevirtual 238, 3) := by decide +kernel
theorem dX4_digest_22 : decode cX4_digest 22 = .ok (.i2l, 1) := by decide +kernel
theorem dX4_digest_23 : decode cX4_digest 23 = .ok (.ladd, 1) := by decide +kernel
theorem dX4_digest_24 : decode cX4_digest 24 = .ok (.lstore_n 1, 1) := by decide +kernel
theorem dX4_digest_25 : decode cX4_digest 25 = .ok (.iinc 3 1, 3) := by decide +kernel
theorem dX4_digest_28 : decode cX4_digest 28 = .ok (.goto (-22), 3) := by decide +kernel
theorem dX4_digest_31 : decode cX4_digest 31 = .ok (.iconst 0, 1) := by decide +kernel
theorem dX4_digest_32 : decode cX4_digest 32 = .ok (.istore_n 3, 1) := by decide +kernel
theorem dX4_digest_33 : decode cX4_digest 33 = .ok (.iload_n 3, 1) := by decide +kernel
theorem dX4_digest_34 : decode cX4_digest 34 = .ok (.aload_n 0, 1) := by decide +kernel
theorem dX4_digest_35 : decode cX4_digest 35 = .ok (.getfield 10, 3) := by decide +kernel
theorem dX4_digest_38 : decode cX4_digest 38 = .ok (.invokevirtual 40, 3) := by decide +kernel
theorem dX4_digest_41 : decode cX4_digest 41 = .ok (.if_icmp .ge 16, 3) := by decide +kernel
theorem dX4_digest_44 : decode cX4_digest 44 = .ok (.aload_n 0, 1) := by decide +kernel
theorem dX4_digest_45 : decode cX4_digest 45 = .ok (.lload_n 1, 1) := by decide +kernel
theorem dX4_digest_46 : decode cX4_digest 46 = .ok (.iload_n 3, 1) := by decide +kernel
theorem dX4_digest_47 : decode cX4_digest 47 = .ok (.invokevirtual 241, 3) := by decide +kernel
theorem dX4_digest_50 : decode cX4_digest 50 = .ok (.lstore_n 1, 1) := by decide +kernel
theorem dX4_digest_51 : decode cX4_digest 51 = .ok (.iinc 3 1, 3) := by decide +kernel
theorem dX4_digest_54 : decode cX4_digest 54 = .ok (.goto (-21), 3) := by decide +kernel
theorem dX4_digest_57 : decode cX4_digest 57 = .ok (.iconst 0, 1) := by decide +kernel
theorem dX4_digest_58 : decode cX4_digest 58 = .ok (.istore_n 3, 1) := by decide +kernel
theorem dX4_digest_59 : decode cX4_digest 59 = .ok (.iload_n 3, 1) := by decide +kernel
theorem dX4_digest_60 : decode cX4_digest 60 = .ok (.aload_n 0, 1) := by decide +kernel
theorem dX4_digest_61 : decode cX4_digest 61 = .ok (.getfield 16, 3) := by decide +kernel
theorem dX4_digest_64 : decode cX4_digest 64 = .ok (.invokevirtual 40, 3) := by decide +kernel
theorem dX4_digest_67 : decode cX4_digest 67 = .ok (.if_icmp .ge 40, 3) := by decide +kernel
theorem dX4_digest_70 : decode cX4_digest 70 = .ok (.iconst 0, 1) := by decide +kernel
theorem dX4_digest_71 : decode cX4_digest 71 = .ok (.istore 4, 2) := by decide +kernel
theorem dX4_digest_73 : decode cX4_digest 73 = .ok (.iload 4, 2) := by decide +kernel
theorem dX4_digest_75 : decode cX4_digest 75 = .ok (.bipush 12, 2) := by decide +kernel
theorem dX4_digest_77 : decode cX4_digest 77 = .ok (.if_icmp .ge 24, 3) := by decide +kernel
theorem dX4_digest_80 : decode cX4_digest 80 = .ok (.lload_n 1, 1) := by decide +kernel
theorem dX4_digest_81 : decode cX4_digest 81 = .ok (.ldc2_w 236, 3) := by decide +kernel
theorem dX4_digest_84 : decode cX4_digest 84 = .ok (.lmul, 1) := by decide +kernel
theorem dX4_digest_85 : decode cX4_digest 85 = .ok (.aload_n 0, 1) := by decide +kernel
theorem dX4_digest_86 : decode cX4_digest 86 = .ok (.iload_n 3, 1) := by decide +kernel
theorem dX4_digest_87 : decode cX4_digest 87 = .ok (.iload 4, 2) := by decide +kernel
theorem dX4_digest_89 : decode cX4_digest 89 = .ok (.invokevirtual 245, 3) := by decide +kernel
theorem dX4_digest_92 : decode cX4_digest 92 = .ok (.i2l, 1) := by decide +kernel
theorem dX4_digest_93 : decode cX4_digest 93 = .ok (.ladd, 1) := by decide +kernel
theorem dX4_digest_94 : decode cX4_digest 94 = .ok (.lstore_n 1, 1) := by decide +kernel
theorem dX4_digest_95 : decode cX4_digest 95 = .ok (.iinc 4 1, 3) := by decide +kernel
theorem dX4_digest_98 : decode cX4_digest 98 = .ok (.goto (-25), 3) := by decide +kernel
theorem dX4_digest_101 : decode cX4_digest 101 = .ok (.iinc 3 1, 3) := by decide +kernel
theorem dX4_digest_104 : decode cX4_digest 104 = .ok (.goto (-45), 3) := by decide +kernel
theorem dX4_digest_107 : decode cX4_digest 107 = .ok (.iconst 0, 1) := by decide +kernel
theorem dX4_digest_108 : decode cX4_digest 108 = .ok (.istore_n 3, 1) := by decide +kernel
theorem dX4_digest_109 : decode cX4_digest 109 = .ok (.iload_n 3, 1) := by decide +kernel
theorem dX4_digest_110 : decode cX4_digest 110 = .ok (.aload_n 0, 1) := by decide +kernel
theorem dX4_digest_111 : decode cX4_digest 111 = .ok (.getfield 19, 3) := by decide +kernel
theorem dX4_digest_114 : decode cX4_digest 114 = .ok (.invokevirtual 40, 3) := by decide +kernel
theorem dX4_digest_117 : decode cX4_digest 117 = .ok (.if_icmp .ge 40, 3) := by decide +kernel
theorem dX4_digest_120 : decode cX4_digest 120 = .ok (.iconst 0, 1) := by decide +kernel
theorem dX4_digest_121 : decode cX4_digest 121 = .ok (.istore 4, 2) := by decide +kernel
theorem dX4_digest_123 : decode cX4_digest 123 = .ok (.iload 4, 2) := by decide +kernel
theorem dX4_digest_125 : decode cX4_digest 125 = .ok (.bipush 7, 2) := by decide +kernel
theorem dX4_digest_127 : decode cX4_digest 127 = .ok (.if_icmp .ge 24, 3) := by decide +kernel
theorem dX4_digest_130 : decode cX4_digest 130 = .ok (.lload_n 1, 1) := by decide +kernel
theorem dX4_digest_131 : decode cX4_digest 131 = .ok (.ldc2_w 236, 3) := by decide +kernel
theorem dX4_digest_134 : decode cX4_digest 134 = .ok (.lmul, 1) := by decide +kernel
theorem dX4_digest_135 : decode cX4_digest 135 = .ok (.aload_n 0, 1) := by decide +kernel
theorem dX4_digest_136 : decode cX4_digest 136 = .ok (.iload_n 3, 1) := by decide +kernel
theorem dX4_digest_137 : decode cX4_digest 137 = .ok (.iload 4, 2) := by decide +kernel
theorem dX4_digest_139 : decode cX4_digest 139 = .ok (.invokevirtual 248, 3) := by decide +kernel
theorem dX4_digest_142 : decode cX4_digest 142 = .ok (.i2l, 1) := by decide +kernel
theorem dX4_digest_143 : decode cX4_digest 143 = .ok (.ladd, 1) := by decide +kernel
theorem dX4_digest_144 : decode cX4_digest 144 = .ok (.lstore_n 1, 1) := by decide +kernel
theorem dX4_digest_145 : decode cX4_digest 145 = .ok (.iinc 4 1, 3) := by decide +kernel
theorem dX4_digest_148 : decode cX4_digest 148 = .ok (.goto (-25), 3) := by decide +kernel
theorem dX4_digest_151 : decode cX4_digest 151 = .ok (.iinc 3 1, 3) := by decide +kernel
theorem dX4_digest_154 : decode cX4_digest 154 = .ok (.goto (-45), 3) := by decide +kernel
theorem dX4_digest_157 : decode cX4_digest 157 = .ok (.lload_n 1, 1) := by decide +kernel
theorem dX4_digest_158 : decode cX4_digest 158 = .ok (.lreturn, 1) := by decide +kernel
set_option maxRecDepth 20000 in
theorem ggX4_digestRoom_X4_room : GoodIn wsX4_digestRoom wsX4_room := goodIn_ca (goodIn_r _ [6, 7, 8, 9, 10, 11, 12, 13, 14, 15, 16, 17, 18, 5, 19, 20, 21, 22, 23, 24, 25, 26, 27, 28, 29, 30, 31, 32, 33, 34, 35, 36, 37, 38, 39, 40, 41, 42, 43, 44, 45, 46, 47, 48, 49, 50, 51, 52, 53, 54, 55, 118, 119, 120, 121, 122, 123, 124, 125, 126, 127, 128, 129, 130, 131, 132, 133, 134] (by decide +kernel) (by decide +kernel)) (goodIn_sub (fun _ h => List.mem_cons_of_mem _ (List.mem_append_right _ h)) (by decide +kernel))
set_option maxRecDepth 20000 in
theorem gX4_digestRoom_X4_room : GoodIn wsX4_digestRoom (wsV RX4 251 RX4 yX4_room wsX4_room) := goodIn_app (goodIn_of _ (by decide +kernel)) ggX4_digestRoom_X4_room
set_option maxRecDepth 20000 in
theorem ggX4_digestRoom_X4_wins : GoodIn wsX4_digestRoom wsX4_wins := goodIn_ca (goodIn_r _ [59, 7, 8, 16, 17, 18, 5, 19, 9, 20, 21, 22, 23, 24, 25, 60, 61, 62, 63, 64, 65, 66, 26, 27, 28, 29, 30, 31, 32, 33, 34, 35, 36, 37, 38, 39, 40, 41, 42, 67, 68, 69, 70, 71, 10, 72, 73, 74, 75, 76, 77, 78, 79, 80, 81, 82, 83, 84, 85, 13, 86, 87, 88, 89, 90, 91, 92, 93, 118, 119, 120, 121, 122, 123, 124, 125, 132, 133, 134, 135, 136, 137, 138, 139, 140, 141, 126, 127, 128, 129, 130, 131] (by decide +kernel) (by decide +kernel)) (goodIn_sub (fun _ h => List.mem_cons_of_mem _ (List.mem_append_right _ h)) (by decide +kernel))
set_option maxRecDepth 20000 in
theorem gX4_digestRoom_X4_wins : GoodIn wsX4_digestRoom (wsV RX4 254 RX4 yX4_wins wsX4_wins) := goodIn_app (goodIn_of _ (by decide +kernel)) ggX4_digestRoom_X4_wins
set_option maxRecDepth 20000 in
theorem ggX4_digestRoom_X4_haunting : GoodIn wsX4_digestRoom wsX4_haunting := goodIn_ca (goodIn_r _ [97, 7, 8, 16, 17, 18, 5, 19, 9, 20, 21, 22, 23, 24, 25, 98, 99, 100, 101, 102, 103, 104, 105, 106, 107, 108, 109, 110, 111, 26, 27, 28, 29, 30, 31, 32, 33, 34, 35, 36, 37, 38, 39, 40, 41, 42, 112, 113, 114, 115, 116, 117, 118, 119, 120, 121, 122, 123, 124, 125, 132, 133, 134, 142, 143, 144, 145, 146] (by decide +kernel) (by decide +kernel)) (goodIn_sub (fun _ h => List.mem_cons_of_mem _ (List.mem_append_right _ h)) (by decide +kernel))
set_option maxRecDepth 20000 in
theorem gX4_digestRoom_X4_haunting : GoodIn wsX4_digestRoom (wsV RX4 257 RX4 yX4_haunting wsX4_haunting) := goodIn_app (goodIn_of _ (by decide +kernel)) ggX4_digestRoom_X4_haunting
theorem dX4_digestRoom_0 : decode cX4_digestRoom 0 = .ok (.lload_n 1, 1) := by decide +kernel
theorem dX4_digestRoom_1 : decode cX4_digestRoom 1 = .ok (.lstore 4, 2) := by decide +kernel
theorem dX4_digestRoom_3 : decode cX4_digestRoom 3 = .ok (.iconst 0, 1) := by decide +kernel
theorem dX4_digestRoom_4 : decode cX4_digestRoom 4 = .ok (.istore 6, 2) := by decide +kernel
theorem dX4_digestRoom_6 : decode cX4_digestRoom 6 = .ok (.iload 6, 2) := by decide +kernel
theorem dX4_digestRoom_8 : decode cX4_digestRoom 8 = .ok (.bipush 6, 2) := by decide +kernel
theorem dX4_digestRoom_10 : decode cX4_digestRoom 10 = .ok (.if_icmp .ge 26, 3) := by decide +kernel
theorem dX4_digestRoom_13 : decode cX4_digestRoom 13 = .ok (.lload 4, 2) := by decide +kernel
theorem dX4_digestRoom_15 : decode cX4_digestRoom 15 = .ok (.ldc2_w 236, 3) := by decide +kernel
theorem dX4_digestRoom_18 : decode cX4_digestRoom 18 = .ok (.lmul, 1) := by decide +kernel
theorem dX4_digestRoom_19 : decode cX4_digestRoom 19 = .ok (.aload_n 0, 1) := by decide +kernel
theorem dX4_digestRoom_20 : decode cX4_digestRoom 20 = .ok (.iload_n 3, 1) := by decide +kernel
theorem dX4_digestRoom_21 : decode cX4_digestRoom 21 = .ok (.iload 6, 2) := by decide +kernel
theorem dX4_digestRoom_23 : decode cX4_digestRoom 23 = .ok (.invokevirtual 251, 3) := by decide +kernel
theorem dX4_digestRoom_26 : decode cX4_digestRoom 26 = .ok (.i2l, 1) := by decide +kernel
theorem dX4_digestRoom_27 : decode cX4_digestRoom 27 = .ok (.ladd, 1) := by decide +kernel
theorem dX4_digestRoom_28 : decode cX4_digestRoom 28 = .ok (.lstore 4, 2) := by decide +kernel
theorem dX4_digestRoom_30 : decode cX4_digestRoom 30 = .ok (.iinc 6 1, 3) := by decide +kernel
theorem dX4_digestRoom_33 : decode cX4_digestRoom 33 = .ok (.goto (-27), 3) := by decide +kernel
theorem dX4_digestRoom_36 : decode cX4_digestRoom 36 = .ok (.iconst 0, 1) := by decide +kernel
theorem dX4_digestRoom_37 : decode cX4_digestRoom 37 = .ok (.istore 6, 2) := by decide +kernel
theorem dX4_digestRoom_39 : decode cX4_digestRoom 39 = .ok (.iload 6, 2) := by decide +kernel
theorem dX4_digestRoom_41 : decode cX4_digestRoom 41 = .ok (.iconst 3, 1) := by decide +kernel
theorem dX4_digestRoom_42 : decode cX4_digestRoom 42 = .ok (.if_icmp .ge 26, 3) := by decide +kernel
theorem dX4_digestRoom_45 : decode cX4_digestRoom 45 = .ok (.lload 4, 2) := by decide +kernel
theorem dX4_digestRoom_47 : decode cX4_digestRoom 47 = .ok (.ldc2_w 236, 3) := by decide +kernel
theorem dX4_digestRoom_50 : decode cX4_digestRoom 50 = .ok (.lmul, 1) := by decide +kernel
theorem dX4_digestRoom_51 : decode cX4_digestRoom 51 = .ok (.aload_n 0, 1) := by decide +kernel
theorem dX4_digestRoom_52 : decode cX4_digestRoom 52 = .ok (.iload_n 3, 1) := by decide +kernel
theorem dX4_digestRoom_53 : decode cX4_digestRoom 53 = .ok (.iload 6, 2) := by decide +kernel
theorem dX4_digestRoom_55 : decode cX4_digestRoom 55 = .ok (.invokevirtual 254, 3) := by decide +kernel
theorem dX4_digestRoom_58 : decode cX4_digestRoom 58 = .ok (.i2l, 1) := by decide +kernel
theorem dX4_digestRoom_59 : decode cX4_digestRoom 59 = .ok (.ladd, 1) := by decide +kernel
theorem dX4_digestRoom_60 : decode cX4_digestRoom 60 = .ok (.lstore 4, 2) := by decide +kernel
theorem dX4_digestRoom_62 : decode cX4_digestRoom 62 = .ok (.iinc 6 1, 3) := by decide +kernel
theorem dX4_digestRoom_65 : decode cX4_digestRoom 65 = .ok (.goto (-26), 3) := by decide +kernel
theorem dX4_digestRoom_68 : decode cX4_digestRoom 68 = .ok (.lload 4, 2) := by decide +kernel
theorem dX4_digestRoom_70 : decode cX4_digestRoom 70 = .ok (.ldc2_w 236, 3) := by decide +kernel
theorem dX4_digestRoom_73 : decode cX4_digestRoom 73 = .ok (.lmul, 1) := by decide +kernel
theorem dX4_digestRoom_74 : decode cX4_digestRoom 74 = .ok (.aload_n 0, 1) := by decide +kernel
theorem dX4_digestRoom_75 : decode cX4_digestRoom 75 = .ok (.iload_n 3, 1) := by decide +kernel
theorem dX4_digestRoom_76 : decode cX4_digestRoom 76 = .ok (.iconst (-1), 1) := by decide +kernel
theorem dX4_digestRoom_77 : decode cX4_digestRoom 77 = .ok (.invokevirtual 257, 3) := by decide +kernel
theorem dX4_digestRoom_80 : decode cX4_digestRoom 80 = .ok (.i2l, 1) := by decide +kernel
theorem dX4_digestRoom_81 : decode cX4_digestRoom 81 = .ok (.ladd, 1) := by decide +kernel
theorem dX4_digestRoom_82 : decode cX4_digestRoom 82 = .ok (.lreturn, 1) := by decide +kernel
theorem dX4_within_0 : decode cX4_within 0 = .ok (.iload_n 0, 1) := by decide +kernel
theorem dX4_within_1 : decode cX4_within 1 = .ok (.iload_n 1, 1) := by decide +kernel
theorem dX4_within_2 : decode cX4_within 2 = .ok (.if_icmp .lt 12, 3) := by decide +kernel
theorem dX4_within_5 : decode cX4_within 5 = .ok (.iload_n 0, 1) := by decide +kernel
theorem dX4_within_6 : decode cX4_within 6 = .ok (.iload_n 2, 1) := by decide +kernel
theorem dX4_within_7 : decode cX4_within 7 = .ok (.if_icmp .gt 7, 3) := by decide +kernel
theorem dX4_within_10 : decode cX4_within 10 = .ok (.iconst 1, 1) := by decide +kernel
theorem dX4_within_11 : decode cX4_within 11 = .ok (.goto 4, 3) := by decide +kernel
theorem dX4_within_14 : decode cX4_within 14 = .ok (.iconst 0, 1) := by decide +kernel
theorem dX4_within_15 : decode cX4_within 15 = .ok (.ireturn, 1) := by decide +kernel
set_option maxRecDepth 20000 in
theorem ggX4_isRoom_Jx4a65c_size_8abf5 : GoodIn wsX4_isRoom wsJx4a65c_size_8abf5 := goodIn_r _ [6, 7, 16, 17, 18] (by decide +kernel) (by decide +kernel)
set_option maxRecDepth 20000 in
theorem gX4_isRoom_Jx4a65c_size_8abf5 : GoodIn wsX4_isRoom (wsV RX4 40 RJx4a65c yJx4a65c_size_8abf5 wsJx4a65c_size_8abf5) := goodIn_app (goodIn_of _ (by decide +kernel)) ggX4_isRoom_Jx4a65c_size_8abf5
theorem dX4_isRoom_0 : decode cX4_isRoom 0 = .ok (.iload_n 1, 1) := by decide +kernel
theorem dX4_isRoom_1 : decode cX4_isRoom 1 = .ok (.ifCond .lt 18, 3) := by decide +kernel
theorem dX4_isRoom_4 : decode cX4_isRoom 4 = .ok (.iload_n 1, 1) := by decide +kernel
theorem dX4_isRoom_5 : decode cX4_isRoom 5 = .ok (.aload_n 0, 1) := by decide +kernel
theorem dX4_isRoom_6 : decode cX4_isRoom 6 = .ok (.getfield 10, 3) := by decide +kernel
theorem dX4_isRoom_9 : decode cX4_isRoom 9 = .ok (.invokevirtual 40, 3) := by decide +kernel
theorem dX4_isRoom_12 : decode cX4_isRoom 12 = .ok (.if_icmp .ge 7, 3) := by decide +kernel
theorem dX4_isRoom_15 : decode cX4_isRoom 15 = .ok (.iconst 1, 1) := by decide +kernel
theorem dX4_isRoom_16 : decode cX4_isRoom 16 = .ok (.goto 4, 3) := by decide +kernel
theorem dX4_isRoom_19 : decode cX4_isRoom 19 = .ok (.iconst 0, 1) := by decide +kernel
theorem dX4_isRoom_20 : decode cX4_isRoom 20 = .ok (.ireturn, 1) := by decide +kernel
set_option maxRecDepth 20000 in
theorem ggX4_isGhost_Jx4a65c_size_8abf5 : GoodIn wsX4_isGhost wsJx4a65c_size_8abf5 := goodIn_r _ [6, 7, 16, 17, 18] (by decide +kernel) (by decide +kernel)
set_option maxRecDepth 20000 in
theorem gX4_isGhost_Jx4a65c_size_8abf5 : GoodIn wsX4_isGhost (wsV RX4 40 RJx4a65c yJx4a65c_size_8abf5 wsJx4a65c_size_8abf5) := goodIn_app (goodIn_of _ (by decide +kernel)) ggX4_isGhost_Jx4a65c_size_8abf5
theorem dX4_isGhost_0 : decode cX4_isGhost 0 = .ok (.iload_n 1, 1) := by decide +kernel
theorem dX4_isGhost_1 : decode cX4_isGhost 1 = .ok (.ifCond .lt 18, 3) := by decide +kernel
theorem dX4_isGhost_4 : decode cX4_isGhost 4 = .ok (.iload_n 1, 1) := by decide +kernel
theorem dX4_isGhost_5 : decode cX4_isGhost 5 = .ok (.aload_n 0, 1) := by decide +kernel
theorem dX4_isGhost_6 : decode cX4_isGhost 6 = .ok (.getfield 16, 3) := by decide +kernel
theorem dX4_isGhost_9 : decode cX4_isGhost 9 = .ok (.invokevirtual 40, 3) := by decide +kernel
theorem dX4_isGhost_12 : decode cX4_isGhost 12 = .ok (.if_icmp .ge 7, 3) := by decide +kernel
theorem dX4_isGhost_15 : decode cX4_isGhost 15 = .ok (.iconst 1, 1) := by decide +kernel
theorem dX4_isGhost_16 : decode cX4_isGhost 16 = .ok (.goto 4, 3) := by decide +kernel
theorem dX4_isGhost_19 : decode cX4_isGhost 19 = .ok (.iconst 0, 1) := by decide +kernel
theorem dX4_isGhost_20 : decode cX4_isGhost 20 = .ok (.ireturn, 1) := by decide +kernel
set_option maxRecDepth 20000 in
theorem ggX4_isGuest_Jx4a65c_size_8abf5 : GoodIn wsX4_isGuest wsJx4a65c_size_8abf5 := goodIn_r _ [6, 7, 16, 17, 18] (by decide +kernel) (by decide +kernel)
set_option maxRecDepth 20000 in
theorem gX4_isGuest_Jx4a65c_size_8abf5 : GoodIn wsX4_isGuest (wsV RX4 40 RJx4a65c yJx4a65c_size_8abf5 wsJx4a65c_size_8abf5) := goodIn_app (goodIn_of _ (by decide +kernel)) ggX4_isGuest_Jx4a65c_size_8abf5
theorem dX4_isGuest_0 : decode cX4_isGuest 0 = .ok (.iload_n 1, 1) := by decide +kernel
theorem dX4_isGuest_1 : decode cX4_isGuest 1 = .ok (.ifCond .lt 18, 3) := by decide +kernel
theorem dX4_isGuest_4 : decode cX4_isGuest 4 = .ok (.iload_n 1, 1) := by decide +kernel
theorem dX4_isGuest_5 : decode cX4_isGuest 5 = .ok (.aload_n 0, 1) := by decide +kernel
theorem dX4_isGuest_6 : decode cX4_isGuest 6 = .ok (.getfield 19, 3) := by decide +kernel
theorem dX4_isGuest_9 : decode cX4_isGuest 9 = .ok (.invokevirtual 40, 3) := by decide +kernel
theorem dX4_isGuest_12 : decode cX4_isGuest 12 = .ok (.if_icmp .ge 7, 3) := by decide +kernel
theorem dX4_isGuest_15 : decode cX4_isGuest 15 = .ok (.iconst 1, 1) := by decide +kernel
theorem dX4_isGuest_16 : decode cX4_isGuest 16 = .ok (.goto 4, 3) := by decide +kernel
theorem dX4_isGuest_19 : decode cX4_isGuest 19 = .ok (.iconst 0, 1) := by decide +kernel
theorem dX4_isGuest_20 : decode cX4_isGuest 20 = .ok (.ireturn, 1) := by decide +kernel
set_option maxRecDepth 20000 in
theorem ggX4_planAllWays_Jx4a65c_size_8abf5 : GoodIn wsX4_planAllWays wsJx4a65c_size_8abf5 := goodIn_r _ [7, 8, 69, 70, 71] (by decide +kernel) (by decide +kernel)
set_option maxRecDepth 20000 in
theorem gX4_planAllWays_Jx4a65c_size_8abf5 : GoodIn wsX4_planAllWays (wsV RX4 40 RJx4a65c yJx4a65c_size_8abf5 wsJx4a65c_size_8abf5) := goodIn_app (goodIn_of _ (by decide +kernel)) ggX4_planAllWays_Jx4a65c_size_8abf5
set_option maxRecDepth 20000 in
theorem ggX4_planAllWays_Jx4a65c_get_915e3 : GoodIn wsX4_planAllWays wsJx4a65c_get_915e3 := goodIn_r _ [12, 8, 13, 14, 15, 16, 17, 18, 19, 20, 21, 22, 23, 6, 24, 25, 69, 70, 71] (by decide +kernel) (by decide +kernel)
set_option maxRecDepth 20000 in
theorem gX4_planAllWays_Jx4a65c_get_915e3 : GoodIn wsX4_planAllWays (wsV RX4 69 RJx4a65c yJx4a65c_get_915e3 wsJx4a65c_get_915e3) := goodIn_app (goodIn_of _ (by decide +kernel)) ggX4_planAllWays_Jx4a65c_get_915e3
set_option maxRecDepth 20000 in
theorem ggX4_planAllWays_X4_planWay : GoodIn wsX4_planAllWays wsX4_planWay := goodIn_r _ [30, 31, 32, 33, 34, 35, 29, 36, 37, 38, 39, 40, 41, 42, 3, 4, 5, 6, 7, 8, 9, 10, 11, 12, 13, 14, 15, 16, 17, 18, 19, 20, 21, 22, 23, 24, 25, 43, 44, 45, 46, 47, 48, 49, 50, 51, 52, 53, 54, 55, 56, 57, 58, 59, 60, 72, 73, 74, 75, 76, 61, 62, 63, 64, 65, 66, 67, 68, 69, 70, 71, 77, 78, 79, 80, 81, 82] (by decide +kernel) (by decide +kernel)
set_option maxRecDepth 20000 in
theorem gX4_planAllWays_X4_planWay : GoodIn wsX4_planAllWays (wsV RX4 98 RX4 yX4_planWay wsX4_planWay) := goodIn_app (goodIn_of _ (by decide +kernel)) ggX4_planAllWays_X4_planWay
theorem dX4_planAllWays_0 : decode cX4_planAllWays 0 = .ok (.iconst 0, 1) := by decide +kernel
theorem dX4_planAllWays_1 : decode cX4_planAllWays 1 = .ok (.istore_n 1, 1) := by decide +kernel
theorem dX4_planAllWays_2 : decode cX4_planAllWays 2 = .ok (.iload_n 1, 1) := by decide +kernel
theorem dX4_planAllWays_3 : decode cX4_planAllWays 3 = .ok (.aload_n 0, 1) := by decide +kernel
theorem dX4_planAllWays_4 : decode cX4_planAllWays 4 = .ok (.getfield 16, 3) := by decide +kernel
theorem dX4_planAllWays_7 : decode cX4_planAllWays 7 = .ok (.invokevirtual 40, 3) := by decide +kernel
theorem dX4_planAllWays_10 : decode cX4_planAllWays 10 = .ok (.if_icmp .ge 24, 3) := by decide +kernel
theorem dX4_planAllWays_13 : decode cX4_planAllWays 13 = .ok (.aload_n 0, 1) := by decide +kernel
theorem dX4_planAllWays_14 : decode cX4_planAllWays 14 = .ok (.aload_n 0, 1) := by decide +kernel
theorem dX4_planAllWays_15 : decode cX4_planAllWays 15 = .ok (.getfield 16, 3) := by decide +kernel
theorem dX4_planAllWays_18 : decode cX4_planAllWays 18 = .ok (.iload_n 1, 1) := by decide +kernel
theorem dX4_planAllWays_19 : decode cX4_planAllWays 19 = .ok (.invokevirtual 69, 3) := by decide +kernel
theorem dX4_planAllWays_22 : decode cX4_planAllWays 22 = .ok (.checkcast 93, 3) := by decide +kernel
theorem dX4_planAllWays_25 : decode cX4_planAllWays 25 = .ok (.invokevirtual 98, 3) := by decide +kernel
theorem dX4_planAllWays_28 : decode cX4_planAllWays 28 = .ok (.iinc 1 1, 3) := by decide +kernel
theorem dX4_planAllWays_31 : decode cX4_planAllWays 31 = .ok (.goto (-29), 3) := by decide +kernel
theorem dX4_planAllWays_34 : decode cX4_planAllWays 34 = .ok (.return_, 1) := by decide +kernel
set_option maxRecDepth 20000 in
theorem ggX4_planWay_X4_nextRoom : GoodIn wsX4_planWay wsX4_nextRoom := goodIn_r _ [7, 8, 9, 10, 11, 12, 6, 13, 14, 15, 16, 17, 18, 19, 20, 21, 22, 23, 24, 25, 26, 27, 28, 29, 30, 31, 32, 33, 34, 35, 36, 37, 38, 39, 40, 41, 42, 60, 61, 62, 63, 64, 65, 66, 67, 68, 69, 70, 71, 72, 73, 74, 75, 76] (by decide +kernel) (by decide +kernel)
set_option maxRecDepth 20000 in
theorem gX4_planWay_X4_nextRoom : GoodIn wsX4_planWay (wsV RX4 266 RX4 yX4_nextRoom wsX4_nextRoom) := goodIn_app (goodIn_of _ (by decide +kernel)) ggX4_planWay_X4_nextRoom
set_option maxRecDepth 20000 in
theorem ggX4_planWay_X0_isAwakeIn : GoodIn wsX4_planWay wsX0_isAwakeIn := goodIn_r _ [47, 48, 49, 55, 56, 57, 58, 59] (by decide +kernel) (by decide +kernel)
set_option maxRecDepth 20000 in
theorem gX4_planWay_X0_isAwakeIn : GoodIn wsX4_planWay (wsV RX4 269 RX0 yX0_isAwakeIn wsX0_isAwakeIn) := goodIn_app (goodIn_of _ (by decide +kernel)) ggX4_planWay_X0_isAwakeIn
set_option maxRecDepth 20000 in
theorem ggX4_planWay_X0_setPlace : GoodIn wsX4_planWay wsX0_setPlace := goodIn_r _ [53, 54, 55, 56, 57, 58, 59] (by decide +kernel) (by decide +kernel)
set_option maxRecDepth 20000 in
theorem gX4_planWay_X0_setPlace : GoodIn wsX4_planWay (wsV RX4 272 RX0 yX0_setPlace wsX0_setPlace) := goodIn_app (goodIn_of _ (by decide +kernel)) ggX4_planWay_X0_setPlace
theorem dX4_planWay_0 : decode cX4_planWay 0 = .ok (.aload_n 1, 1) := by decide +kernel
theorem dX4_planWay_1 : decode cX4_planWay 1 = .ok (.getfield 260, 3) := by decide +kernel
theorem dX4_planWay_4 : decode cX4_planWay 4 = .ok (.istore_n 2, 1) := by decide +kernel
theorem dX4_planWay_5 : decode cX4_planWay 5 = .ok (.iconst 0, 1) := by decide +kernel
theorem dX4_planWay_6 : decode cX4_planWay 6 = .ok (.istore_n 3, 1) := by decide +kernel
theorem dX4_planWay_7 : decode cX4_planWay 7 = .ok (.iload_n 3, 1) := by decide +kernel
theorem dX4_planWay_8 : decode cX4_planWay 8 = .ok (.bipush 12, 2) := by decide +kernel
theorem dX4_planWay_10 : decode cX4_planWay 10 = .ok (.if_icmp .ge 41, 3) := by decide +kernel
theorem dX4_planWay_13 : decode cX4_planWay 13 = .ok (.iload_n 3, 1) := by decide +kernel
theorem dX4_planWay_14 : decode cX4_planWay 14 = .ok (.aload_n 1, 1) := by decide +kernel
theorem dX4_planWay_15 : decode cX4_planWay 15 = .ok (.getfield 263, 3) := by decide +kernel
theorem dX4_planWay_18 : decode cX4_planWay 18 = .ok (.if_icmp .le 9, 3) := by decide +kernel
theorem dX4_planWay_21 : decode cX4_planWay 21 = .ok (.aload_n 0, 1) := by decide +kernel
theorem dX4_planWay_22 : decode cX4_planWay 22 = .ok (.iload_n 2, 1) := by decide +kernel
theorem dX4_planWay_23 : decode cX4_planWay 23 = .ok (.invokevirtual 266, 3) := by decide +kernel
theorem dX4_planWay_26 : decode cX4_planWay 26 = .ok (.istore_n 2, 1) := by decide +kernel
theorem dX4_planWay_27 : decode cX4_planWay 27 = .ok (.aload_n 1, 1) := by decide +kernel
theorem dX4_planWay_28 : decode cX4_planWay 28 = .ok (.iload_n 3, 1) := by decide +kernel
theorem dX4_planWay_29 : decode cX4_planWay 29 = .ok (.aload_n 1, 1) := by decide +kernel
theorem dX4_planWay_30 : decode cX4_planWay 30 = .ok (.iload_n 3, 1) := by decide +kernel
theorem dX4_planWay_31 : decode cX4_planWay 31 = .ok (.invokevirtual 269, 3) := by decide +kernel
theorem dX4_planWay_34 : decode cX4_planWay 34 = .ok (.ifCond .eq 7, 3) := by decide +kernel
theorem dX4_planWay_37 : decode cX4_planWay 37 = .ok (.iload_n 2, 1) := by decide +kernel
theorem dX4_planWay_38 : decode cX4_planWay 38 = .ok (.goto 4, 3) := by decide +kernel
theorem dX4_planWay_41 : decode cX4_planWay 41 = .ok (.iconst (-1), 1) := by decide +kernel
theorem dX4_planWay_42 : decode cX4_planWay 42 = .ok (.invokevirtual 272, 3) := by decide +kernel
theorem dX4_planWay_45 : decode cX4_planWay 45 = .ok (.iinc 3 1, 3) := by decide +kernel
theorem dX4_planWay_48 : decode cX4_planWay 48 = .ok (.goto (-41), 3) := by decide +kernel
theorem dX4_planWay_51 : decode cX4_planWay 51 = .ok (.return_, 1) := by decide +kernel
set_option maxRecDepth 20000 in
theorem ggX4_nextRoom_X4_isRoom : GoodIn wsX4_nextRoom wsX4_isRoom := goodIn_r _ [7, 1, 8, 9, 10, 11, 12, 13, 37, 38, 39, 40, 41, 42, 43, 44, 45, 46, 47] (by decide +kernel) (by decide +kernel)
set_option maxRecDepth 20000 in
theorem gX4_nextRoom_X4_isRoom : GoodIn wsX4_nextRoom (wsV RX4 58 RX4 yX4_isRoom wsX4_isRoom) := goodIn_app (goodIn_of _ (by decide +kernel)) ggX4_nextRoom_X4_isRoom
set_option maxRecDepth 20000 in
theorem ggX4_nextRoom_Jx4a65c_get_915e3 : GoodIn wsX4_nextRoom wsJx4a65c_get_915e3 := goodIn_r _ [17, 13, 18, 19, 20, 21, 22, 23, 24, 25, 26, 27, 28, 11, 29, 30, 45, 46, 47] (by decide +kernel) (by decide +kernel)
set_option maxRecDepth 20000 in
theorem gX4_nextRoom_Jx4a65c_get_915e3 : GoodIn wsX4_nextRoom (wsV RX4 69 RJx4a65c yJx4a65c_get_915e3 wsJx4a65c_get_915e3) := goodIn_app (goodIn_of _ (by decide +kernel)) ggX4_nextRoom_Jx4a65c_get_915e3
set_option maxRecDepth 20000 in
theorem ggX4_nextRoom_Jx4a65c_size_8abf5 : GoodIn wsX4_nextRoom wsJx4a65c_size_8abf5 := goodIn_r _ [12, 13, 45, 46, 47] (by decide +kernel) (by decide +kernel)
set_option maxRecDepth 20000 in
theorem gX4_nextRoom_Jx4a65c_size_8abf5 : GoodIn wsX4_nextRoom (wsV RX4 40 RJx4a65c yJx4a65c_size_8abf5 wsJx4a65c_size_8abf5) := goodIn_app (goodIn_of _ (by decide +kernel)) ggX4_nextRoom_Jx4a65c_size_8abf5
set_option maxRecDepth 20000 in
theorem ggX4_nextRoom_X2_leadsTo : GoodIn wsX4_nextRoom wsX2_leadsTo := goodIn_r _ [35, 36, 48, 49, 50, 51, 52, 53] (by decide +kernel) (by decide +kernel)
set_option maxRecDepth 20000 in
theorem gX4_nextRoom_X2_leadsTo : GoodIn wsX4_nextRoom (wsV RX4 73 RX2 yX2_leadsTo wsX2_leadsTo) := goodIn_app (goodIn_of _ (by decide +kernel)) ggX4_nextRoom_X2_leadsTo
theorem dX4_nextRoom_0 : decode cX4_nextRoom 0 = .ok (.aload_n 0, 1) := by decide +kernel
theorem dX4_nextRoom_1 : decode cX4_nextRoom 1 = .ok (.iload_n 1, 1) := by decide +kernel
theorem dX4_nextRoom_2 : decode cX4_nextRoom 2 = .ok (.invokevirtual 58, 3) := by decide +kernel
theorem dX4_nextRoom_5 : decode cX4_nextRoom 5 = .ok (.ifCond .ne 5, 3) := by decide +kernel
theorem dX4_nextRoom_8 : decode cX4_nextRoom 8 = .ok (.iload_n 1, 1) := by decide +kernel
theorem dX4_nextRoom_9 : decode cX4_nextRoom 9 = .ok (.ireturn, 1) := by decide +kernel
theorem dX4_nextRoom_10 : decode cX4_nextRoom 10 = .ok (.aload_n 0, 1) := by decide +kernel
theorem dX4_nextRoom_11 : decode cX4_nextRoom 11 = .ok (.getfield 10, 3) := by decide +kernel
theorem dX4_nextRoom_14 : decode cX4_nextRoom 14 = .ok (.iload_n 1, 1) := by decide +kernel
theorem dX4_nextRoom_15 : decode cX4_nextRoom 15 = .ok (.invokevirtual 69, 3) := by decide +kernel
theorem dX4_nextRoom_18 : decode cX4_nextRoom 18 = .ok (.checkcast 49, 3) := by decide +kernel
theorem dX4_nextRoom_21 : decode cX4_nextRoom 21 = .ok (.astore_n 2, 1) := by decide +kernel
theorem dX4_nextRoom_22 : decode cX4_nextRoom 22 = .ok (.iconst (-1), 1) := by decide +kernel
theorem dX4_nextRoom_23 : decode cX4_nextRoom 23 = .ok (.istore_n 3, 1) := by decide +kernel
theorem dX4_nextRoom_24 : decode cX4_nextRoom 24 = .ok (.iconst 0, 1) := by decide +kernel
theorem dX4_nextRoom_25 : decode cX4_nextRoom 25 = .ok (.istore 4, 2) := by decide +kernel
theorem dX4_nextRoom_27 : decode cX4_nextRoom 27 = .ok (.iload 4, 2) := by decide +kernel
theorem dX4_nextRoom_29 : decode cX4_nextRoom 29 = .ok (.aload_n 0, 1) := by decide +kernel
theorem dX4_nextRoom_30 : decode cX4_nextRoom 30 = .ok (.getfield 10, 3) := by decide +kernel
theorem dX4_nextRoom_33 : decode cX4_nextRoom 33 = .ok (.invokevirtual 40, 3) := by decide +kernel
theorem dX4_nextRoom_36 : decode cX4_nextRoom 36 = .ok (.if_icmp .ge 35, 3) := by decide +kernel
theorem dX4_nextRoom_39 : decode cX4_nextRoom 39 = .ok (.aload_n 2, 1) := by decide +kernel
theorem dX4_nextRoom_40 : decode cX4_nextRoom 40 = .ok (.iload 4, 2) := by decide +kernel
theorem dX4_nextRoom_42 : decode cX4_nextRoom 42 = .ok (.invokevirtual 73, 3) := by decide +kernel
theorem dX4_nextRoom_45 : decode cX4_nextRoom 45 = .ok (.ifCond .eq 20, 3) := by decide +kernel
theorem dX4_nextRoom_48 : decode cX4_nextRoom 48 = .ok (.iload 4, 2) := by decide +kernel
theorem dX4_nextRoom_50 : decode cX4_nextRoom 50 = .ok (.iload_n 1, 1) := by decide +kernel
theorem dX4_nextRoom_51 : decode cX4_nextRoom 51 = .ok (.if_icmp .le 6, 3) := by decide +kernel
theorem dX4_nextRoom_54 : decode cX4_nextRoom 54 = .ok (.iload 4, 2) := by decide +kernel
theorem dX4_nextRoom_56 : decode cX4_nextRoom 56 = .ok (.ireturn, 1) := by decide +kernel
theorem dX4_nextRoom_57 : decode cX4_nextRoom 57 = .ok (.iload_n 3, 1) := by decide +kernel
theorem dX4_nextRoom_58 : decode cX4_nextRoom 58 = .ok (.iconst (-1), 1) := by decide +kernel
theorem dX4_nextRoom_59 : decode cX4_nextRoom 59 = .ok (.if_icmp .ne 6, 3) := by decide +kernel
theorem dX4_nextRoom_62 : decode cX4_nextRoom 62 = .ok (.iload 4, 2) := by decide +kernel
theorem dX4_nextRoom_64 : decode cX4_nextRoom 64 = .ok (.istore_n 3, 1) := by decide +kernel
theorem dX4_nextRoom_65 : decode cX4_nextRoom 65 = .ok (.iinc 4 1, 3) := by decide +kernel
theorem dX4_nextRoom_68 : decode cX4_nextRoom 68 = .ok (.goto (-41), 3) := by decide +kernel
theorem dX4_nextRoom_71 : decode cX4_nextRoom 71 = .ok (.iload_n 3, 1) := by decide +kernel
theorem dX4_nextRoom_72 : decode cX4_nextRoom 72 = .ok (.iconst (-1), 1) := by decide +kernel
theorem dX4_nextRoom_73 : decode cX4_nextRoom 73 = .ok (.if_icmp .ne 7, 3) := by decide +kernel
theorem dX4_nextRoom_76 : decode cX4_nextRoom 76 = .ok (.iload_n 1, 1) := by decide +kernel
theorem dX4_nextRoom_77 : decode cX4_nextRoom 77 = .ok (.goto 4, 3) := by decide +kernel
theorem dX4_nextRoom_80 : decode cX4_nextRoom 80 = .ok (.iload_n 3, 1) := by decide +kernel
theorem dX4_nextRoom_81 : decode cX4_nextRoom 81 = .ok (.ireturn, 1) := by decide +kernel
set_option maxRecDepth 20000 in
theorem ggX4_hauntingInHour_Jx4a65c_size_8abf5 : GoodIn wsX4_hauntingInHour wsJx4a65c_size_8abf5 := goodIn_r _ [8, 9, 46, 47, 48] (by decide +kernel) (by decide +kernel)
set_option maxRecDepth 20000 in
theorem gX4_hauntingInHour_Jx4a65c_size_8abf5 : GoodIn wsX4_hauntingInHour (wsV RX4 40 RJx4a65c yJx4a65c_size_8abf5 wsJx4a65c_size_8abf5) := goodIn_app (goodIn_of _ (by decide +kernel)) ggX4_hauntingInHour_Jx4a65c_size_8abf5
set_option maxRecDepth 20000 in
theorem ggX4_hauntingInHour_Jx4a65c_get_915e3 : GoodIn wsX4_hauntingInHour wsJx4a65c_get_915e3 := goodIn_r _ [13, 9, 14, 15, 16, 17, 18, 19, 20, 21, 22, 23, 24, 7, 25, 26, 46, 47, 48] (by decide +kernel) (by decide +kernel)
set_option maxRecDepth 20000 in
theorem gX4_hauntingInHour_Jx4a65c_get_915e3 : GoodIn wsX4_hauntingInHour (wsV RX4 69 RJx4a65c yJx4a65c_get_915e3 wsJx4a65c_get_915e3) := goodIn_app (goodIn_of _ (by decide +kernel)) ggX4_hauntingInHour_Jx4a65c_get_915e3
set_option maxRecDepth 20000 in
theorem ggX4_hauntingInHour_X0_placeIn : GoodIn wsX4_hauntingInHour wsX0_placeIn := goodIn_r _ [31, 32, 41, 42, 43, 44, 45] (by decide +kernel) (by decide +kernel)
set_option maxRecDepth 20000 in
theorem gX4_hauntingInHour_X0_placeIn : GoodIn wsX4_hauntingInHour (wsV RX4 109 RX0 yX0_placeIn wsX0_placeIn) := goodIn_app (goodIn_of _ (by decide +kernel)) ggX4_hauntingInHour_X0_placeIn
theorem dX4_hauntingInHour_0 : decode cX4_hauntingInHour 0 = .ok (.iconst 0, 1) := by decide +kernel
theorem dX4_hauntingInHour_1 : decode cX4_hauntingInHour 1 = .ok (.istore 4, 2) := by decide +kernel
theorem dX4_hauntingInHour_3 : decode cX4_hauntingInHour 3 = .ok (.iconst 0, 1) := by decide +kernel
theorem dX4_hauntingInHour_4 : decode cX4_hauntingInHour 4 = .ok (.istore 5, 2) := by decide +kernel
theorem dX4_hauntingInHour_6 : decode cX4_hauntingInHour 6 = .ok (.iload 5, 2) := by decide +kernel
theorem dX4_hauntingInHour_8 : decode cX4_hauntingInHour 8 = .ok (.aload_n 0, 1) := by decide +kernel
theorem dX4_hauntingInHour_9 : decode cX4_hauntingInHour 9 = .ok (.getfield 16, 3) := by decide +kernel
theorem dX4_hauntingInHour_12 : decode cX4_hauntingInHour 12 = .ok (.invokevirtual 40, 3) := by decide +kernel
theorem dX4_hauntingInHour_15 : decode cX4_hauntingInHour 15 = .ok (.if_icmp .ge 49, 3) := by decide +kernel
theorem dX4_hauntingInHour_18 : decode cX4_hauntingInHour 18 = .ok (.aload_n 0, 1) := by decide +kernel
theorem dX4_hauntingInHour_19 : decode cX4_hauntingInHour 19 = .ok (.getfield 16, 3) := by decide +kernel
theorem dX4_hauntingInHour_22 : decode cX4_hauntingInHour 22 = .ok (.iload 5, 2) := by decide +kernel
theorem dX4_hauntingInHour_24 : decode cX4_hauntingInHour 24 = .ok (.invokevirtual 69, 3) := by decide +kernel
theorem dX4_hauntingInHour_27 : decode cX4_hauntingInHour 27 = .ok (.checkcast 93, 3) := by decide +kernel
theorem dX4_hauntingInHour_30 : decode cX4_hauntingInHour 30 = .ok (.astore 6, 2) := by decide +kernel
theorem dX4_hauntingInHour_32 : decode cX4_hauntingInHour 32 = .ok (.iload 5, 2) := by decide +kernel
theorem dX4_hauntingInHour_34 : decode cX4_hauntingInHour 34 = .ok (.iload_n 3, 1) := by decide +kernel
theorem dX4_hauntingInHour_35 : decode cX4_hauntingInHour 35 = .ok (.if_icmp .eq 23, 3) := by decide +kernel
theorem dX4_hauntingInHour_38 : decode cX4_hauntingInHour 38 = .ok (.aload 6, 2) := by decide +kernel
theorem dX4_hauntingInHour_40 : decode cX4_hauntingInHour 40 = .ok (.iload_n 2, 1) := by decide +kernel
theorem dX4_hauntingInHour_41 : decode cX4_hauntingInHour 41 = .ok (.invokevirtual 109, 3) := by decide +kernel
theorem dX4_hauntingInHour_44 : decode cX4_hauntingInHour 44 = .ok (.iload_n 1, 1) := by decide +kernel
theorem dX4_hauntingInHour_45 : decode cX4_hauntingInHour 45 = .ok (.if_icmp .ne 13, 3) := by decide +kernel
theorem dX4_hauntingInHour_48 : decode cX4_hauntingInHour 48 = .ok (.iload 4, 2) := by decide +kernel
theorem dX4_hauntingInHour_50 : decode cX4_hauntingInHour 50 = .ok (.aload 6, 2) := by decide +kernel
theorem dX4_hauntingInHour_52 : decode cX4_hauntingInHour 52 = .ok (.getfield 275, 3) := by decide +kernel
theorem dX4_hauntingInHour_55 : decode cX4_hauntingInHour 55 = .ok (.iadd, 1) := by decide +kernel
theorem dX4_hauntingInHour_56 : decode cX4_hauntingInHour 56 = .ok (.istore 4, 2) := by decide +kernel
theorem dX4_hauntingInHour_58 : decode cX4_hauntingInHour 58 = .ok (.iinc 5 1, 3) := by decide +kernel
theorem dX4_hauntingInHour_61 : decode cX4_hauntingInHour 61 = .ok (.goto (-55), 3) := by decide +kernel
theorem dX4_hauntingInHour_64 : decode cX4_hauntingInHour 64 = .ok (.iload 4, 2) := by decide +kernel
theorem dX4_hauntingInHour_66 : decode cX4_hauntingInHour 66 = .ok (.ireturn, 1) := by decide +kernel
set_option maxRecDepth 20000 in
theorem ggX4_hauntingOfNight_X4_hauntingInHour : GoodIn wsX4_hauntingOfNight wsX4_hauntingInHour := goodIn_r _ [5, 6, 7, 8, 9, 10, 11, 12, 13, 14, 15, 16, 17, 18, 19, 20, 21, 22, 23, 24, 25, 26, 27, 28, 29, 30, 31, 32, 33, 34, 35, 36, 37, 38, 39, 40, 41, 42, 43, 44, 45, 46, 47, 48, 49, 50, 51, 52, 53] (by decide +kernel) (by decide +kernel)
set_option maxRecDepth 20000 in
theorem gX4_hauntingOfNight_X4_hauntingInHour : GoodIn wsX4_hauntingOfNight (wsV RX4 117 RX4 yX4_hauntingInHour wsX4_hauntingInHour) := goodIn_app (goodIn_of _ (by decide +kernel)) ggX4_hauntingOfNight_X4_hauntingInHour
theorem dX4_hauntingOfNight_0 : decode cX4_hauntingOfNight 0 = .ok (.iconst 0, 1) := by decide +kernel
theorem dX4_hauntingOfNight_1 : decode cX4_hauntingOfNight 1 = .ok (.istore_n 3, 1) := by decide +kernel
theorem dX4_hauntingOfNight_2 : decode cX4_hauntingOfNight 2 = .ok (.iconst 0, 1) := by decide +kernel
theorem dX4_hauntingOfNight_3 : decode cX4_hauntingOfNight 3 = .ok (.istore 4, 2) := by decide +kernel
theorem dX4_hauntingOfNight_5 : decode cX4_hauntingOfNight 5 = .ok (.iload 4, 2) := by decide +kernel
theorem dX4_hauntingOfNight_7 : decode cX4_hauntingOfNight 7 = .ok (.bipush 12, 2) := by decide +kernel
theorem dX4_hauntingOfNight_9 : decode cX4_hauntingOfNight 9 = .ok (.if_icmp .ge 20, 3) := by decide +kernel
theorem dX4_hauntingOfNight_12 : decode cX4_hauntingOfNight 12 = .ok (.iload_n 3, 1) := by decide +kernel
theorem dX4_hauntingOfNight_13 : decode cX4_hauntingOfNight 13 = .ok (.aload_n 0, 1) := by decide +kernel
theorem dX4_hauntingOfNight_14 : decode cX4_hauntingOfNight 14 = .ok (.iload_n 1, 1) := by decide +kernel
theorem dX4_hauntingOfNight_15 : decode cX4_hauntingOfNight 15 = .ok (.iload 4, 2) := by decide +kernel
theorem dX4_hauntingOfNight_17 : decode cX4_hauntingOfNight 17 = .ok (.iload_n 2, 1) := by decide +kernel
theorem dX4_hauntingOfNight_18 : decode cX4_hauntingOfNight 18 = .ok (.invokevirtual 117, 3) := by decide +kernel
theorem dX4_hauntingOfNight_21 : decode cX4_hauntingOfNight 21 = .ok (.iadd, 1) := by decide +kernel
theorem dX4_hauntingOfNight_22 : decode cX4_hauntingOfNight 22 = .ok (.istore_n 3, 1) := by decide +kernel
theorem dX4_hauntingOfNight_23 : decode cX4_hauntingOfNight 23 = .ok (.iinc 4 1, 3) := by decide +kernel
theorem dX4_hauntingOfNight_26 : decode cX4_hauntingOfNight 26 = .ok (.goto (-21), 3) := by decide +kernel
theorem dX4_hauntingOfNight_29 : decode cX4_hauntingOfNight 29 = .ok (.iload_n 3, 1) := by decide +kernel
theorem dX4_hauntingOfNight_30 : decode cX4_hauntingOfNight 30 = .ok (.ireturn, 1) := by decide +kernel
set_option maxRecDepth 20000 in
theorem ggX4_countsFor_X4_isRoom : GoodIn wsX4_countsFor wsX4_isRoom := goodIn_r _ [8, 2, 9, 10, 11, 12, 13, 14, 49, 50, 51, 52, 53, 54, 55, 56, 57, 58, 59] (by decide +kernel) (by decide +kernel)
set_option maxRecDepth 20000 in
theorem gX4_countsFor_X4_isRoom : GoodIn wsX4_countsFor (wsV RX4 58 RX4 yX4_isRoom wsX4_isRoom) := goodIn_app (goodIn_of _ (by decide +kernel)) ggX4_countsFor_X4_isRoom
set_option maxRecDepth 20000 in
theorem ggX4_countsFor_Jx4a65c_get_915e3 : GoodIn wsX4_countsFor wsJx4a65c_get_915e3 := goodIn_r _ [18, 14, 19, 20, 21, 22, 23, 24, 25, 26, 27, 28, 29, 12, 30, 31, 57, 58, 59] (by decide +kernel) (by decide +kernel)
set_option maxRecDepth 20000 in
theorem gX4_countsFor_Jx4a65c_get_915e3 : GoodIn wsX4_countsFor (wsV RX4 69 RJx4a65c yJx4a65c_get_915e3 wsJx4a65c_get_915e3) := goodIn_app (goodIn_of _ (by decide +kernel)) ggX4_countsFor_Jx4a65c_get_915e3
set_option maxRecDepth 20000 in
theorem ggX4_countsFor_X1_couldBidFor : GoodIn wsX4_countsFor wsX1_couldBidFor := goodIn_r _ [36, 37, 38, 39, 40, 41, 42, 43, 44, 45, 46, 47, 48, 60, 61, 62, 63, 64, 65] (by decide +kernel) (by decide +kernel)
set_option maxRecDepth 20000 in
theorem gX4_countsFor_X1_couldBidFor : GoodIn wsX4_countsFor (wsV RX4 159 RX1 yX1_couldBidFor wsX1_couldBidFor) := goodIn_app (goodIn_of _ (by decide +kernel)) ggX4_countsFor_X1_couldBidFor
theorem dX4_countsFor_0 : decode cX4_countsFor 0 = .ok (.aload_n 0, 1) := by decide +kernel
theorem dX4_countsFor_1 : decode cX4_countsFor 1 = .ok (.iload_n 2, 1) := by decide +kernel
theorem dX4_countsFor_2 : decode cX4_countsFor 2 = .ok (.invokevirtual 58, 3) := by decide +kernel
theorem dX4_countsFor_5 : decode cX4_countsFor 5 = .ok (.ifCond .eq 33, 3) := by decide +kernel
theorem dX4_countsFor_8 : decode cX4_countsFor 8 = .ok (.aload_n 1, 1) := by decide +kernel
theorem dX4_countsFor_9 : decode cX4_countsFor 9 = .ok (.getfield 163, 3) := by decide +kernel
theorem dX4_countsFor_12 : decode cX4_countsFor 12 = .ok (.iload_n 2, 1) := by decide +kernel
theorem dX4_countsFor_13 : decode cX4_countsFor 13 = .ok (.if_icmp .ne 25, 3) := by decide +kernel
theorem dX4_countsFor_16 : decode cX4_countsFor 16 = .ok (.aload_n 1, 1) := by decide +kernel
theorem dX4_countsFor_17 : decode cX4_countsFor 17 = .ok (.aload_n 0, 1) := by decide +kernel
theorem dX4_countsFor_18 : decode cX4_countsFor 18 = .ok (.getfield 10, 3) := by decide +kernel
theorem dX4_countsFor_21 : decode cX4_countsFor 21 = .ok (.iload_n 2, 1) := by decide +kernel
theorem dX4_countsFor_22 : decode cX4_countsFor 22 = .ok (.invokevirtual 69, 3) := by decide +kernel
theorem dX4_countsFor_25 : decode cX4_countsFor 25 = .ok (.checkcast 49, 3) := by decide +kernel
theorem dX4_countsFor_28 : decode cX4_countsFor 28 = .ok (.invokevirtual 159, 3) := by decide +kernel
theorem dX4_countsFor_31 : decode cX4_countsFor 31 = .ok (.ifCond .eq 7, 3) := by decide +kernel
theorem dX4_countsFor_34 : decode cX4_countsFor 34 = .ok (.iconst 1, 1) := by decide +kernel
theorem dX4_countsFor_35 : decode cX4_countsFor 35 = .ok (.goto 4, 3) := by decide +kernel
theorem dX4_countsFor_38 : decode cX4_countsFor 38 = .ok (.iconst 0, 1) := by decide +kernel
theorem dX4_countsFor_39 : decode cX4_countsFor 39 = .ok (.ireturn, 1) := by decide +kernel
set_option maxRecDepth 20000 in
theorem ggX4_winnerOf_Jx4a65c_size_8abf5 : GoodIn wsX4_winnerOf wsJx4a65c_size_8abf5 := goodIn_r _ [8, 9, 64, 65, 66] (by decide +kernel) (by decide +kernel)
set_option maxRecDepth 20000 in
theorem gX4_winnerOf_Jx4a65c_size_8abf5 : GoodIn wsX4_winnerOf (wsV RX4 40 RJx4a65c yJx4a65c_size_8abf5 wsJx4a65c_size_8abf5) := goodIn_app (goodIn_of _ (by decide +kernel)) ggX4_winnerOf_Jx4a65c_size_8abf5
set_option maxRecDepth 20000 in
theorem ggX4_winnerOf_Jx4a65c_get_915e3 : GoodIn wsX4_winnerOf wsJx4a65c_get_915e3 := goodIn_r _ [13, 9, 14, 15, 16, 17, 18, 19, 20, 21, 22, 23, 24, 7, 25, 26, 64, 65, 66] (by decide +kernel) (by decide +kernel)
set_option maxRecDepth 20000 in
theorem gX4_winnerOf_Jx4a65c_get_915e3 : GoodIn wsX4_winnerOf (wsV RX4 69 RJx4a65c yJx4a65c_get_915e3 wsJx4a65c_get_915e3) := goodIn_app (goodIn_of _ (by decide +kernel)) ggX4_winnerOf_Jx4a65c_get_915e3
set_option maxRecDepth 20000 in
theorem ggX4_winnerOf_X4_countsFor : GoodIn wsX4_winnerOf wsX4_countsFor := goodIn_r _ [31, 32, 33, 34, 35, 36, 37, 30, 38, 4, 5, 6, 7, 8, 9, 10, 11, 12, 13, 14, 15, 16, 17, 18, 19, 20, 21, 22, 23, 24, 25, 26, 39, 40, 41, 42, 43, 44, 45, 46, 47, 48, 57, 58, 59, 60, 61, 62, 63, 49, 50, 51, 52, 53, 54, 55, 56, 64, 65, 66, 67, 68, 69, 70, 71, 72] (by decide +kernel) (by decide +kernel)
set_option maxRecDepth 20000 in
theorem gX4_winnerOf_X4_countsFor : GoodIn wsX4_winnerOf (wsV RX4 278 RX4 yX4_countsFor wsX4_countsFor) := goodIn_app (goodIn_of _ (by decide +kernel)) ggX4_winnerOf_X4_countsFor
theorem dX4_winnerOf_0 : decode cX4_winnerOf 0 = .ok (.iconst (-1), 1) := by decide +kernel
theorem dX4_winnerOf_1 : decode cX4_winnerOf 1 = .ok (.istore_n 2, 1) := by decide +kernel
theorem dX4_winnerOf_2 : decode cX4_winnerOf 2 = .ok (.iconst 0, 1) := by decide +kernel
theorem dX4_winnerOf_3 : decode cX4_winnerOf 3 = .ok (.istore_n 3, 1) := by decide +kernel
theorem dX4_winnerOf_4 : decode cX4_winnerOf 4 = .ok (.iconst 0, 1) := by decide +kernel
theorem dX4_winnerOf_5 : decode cX4_winnerOf 5 = .ok (.istore 4, 2) := by decide +kernel
theorem dX4_winnerOf_7 : decode cX4_winnerOf 7 = .ok (.iload 4, 2) := by decide +kernel
theorem dX4_winnerOf_9 : decode cX4_winnerOf 9 = .ok (.aload_n 0, 1) := by decide +kernel
theorem dX4_winnerOf_10 : decode cX4_winnerOf 10 = .ok (.getfield 19, 3) := by decide +kernel
theorem dX4_winnerOf_13 : decode cX4_winnerOf 13 = .ok (.invokevirtual 40, 3) := by decide +kernel
theorem dX4_winnerOf_16 : decode cX4_winnerOf 16 = .ok (.if_icmp .ge 51, 3) := by decide +kernel
theorem dX4_winnerOf_19 : decode cX4_winnerOf 19 = .ok (.aload_n 0, 1) := by decide +kernel
theorem dX4_winnerOf_20 : decode cX4_winnerOf 20 = .ok (.getfield 19, 3) := by decide +kernel
theorem dX4_winnerOf_23 : decode cX4_winnerOf 23 = .ok (.iload 4, 2) := by decide +kernel
theorem dX4_winnerOf_25 : decode cX4_winnerOf 25 = .ok (.invokevirtual 69, 3) := by decide +kernel
theorem dX4_winnerOf_28 : decode cX4_winnerOf 28 = .ok (.checkcast 145, 3) := by decide +kernel
theorem dX4_winnerOf_31 : decode cX4_winnerOf 31 = .ok (.astore 5, 2) := by decide +kernel
theorem dX4_winnerOf_33 : decode cX4_winnerOf 33 = .ok (.aload_n 0, 1) := by decide +kernel
theorem dX4_winnerOf_34 : decode cX4_winnerOf 34 = .ok (.aload 5, 2) := by decide +kernel
theorem dX4_winnerOf_36 : decode cX4_winnerOf 36 = .ok (.iload_n 1, 1) := by decide +kernel
theorem dX4_winnerOf_37 : decode cX4_winnerOf 37 = .ok (.invokevirtual 278, 3) := by decide +kernel
theorem dX4_winnerOf_40 : decode cX4_winnerOf 40 = .ok (.ifCond .eq 21, 3) := by decide +kernel
theorem dX4_winnerOf_43 : decode cX4_winnerOf 43 = .ok (.aload 5, 2) := by decide +kernel
theorem dX4_winnerOf_45 : decode cX4_winnerOf 45 = .ok (.getfield 176, 3) := by decide +kernel
theorem dX4_winnerOf_48 : decode cX4_winnerOf 48 = .ok (.iload_n 3, 1) := by decide +kernel
theorem dX4_winnerOf_49 : decode cX4_winnerOf 49 = .ok (.if_icmp .le 12, 3) := by decide +kernel
theorem dX4_winnerOf_52 : decode cX4_winnerOf 52 = .ok (.iload 4, 2) := by decide +kernel
theorem dX4_winnerOf_54 : decode cX4_winnerOf 54 = .ok (.istore_n 2, 1) := by decide +kernel
theorem dX4_winnerOf_55 : decode cX4_winnerOf 55 = .ok (.aload 5, 2) := by decide +kernel
theorem dX4_winnerOf_57 : decode cX4_winnerOf 57 = .ok (.getfield 176, 3) := by decide +kernel
theorem dX4_winnerOf_60 : decode cX4_winnerOf 60 = .ok (.istore_n 3, 1) := by decide +kernel
theorem dX4_winnerOf_61 : decode cX4_winnerOf 61 = .ok (.iinc 4 1, 3) := by decide +kernel
theorem dX4_winnerOf_64 : decode cX4_winnerOf 64 = .ok (.goto (-57), 3) := by decide +kernel
theorem dX4_winnerOf_67 : decode cX4_winnerOf 67 = .ok (.iload_n 2, 1) := by decide +kernel
theorem dX4_winnerOf_68 : decode cX4_winnerOf 68 = .ok (.ireturn, 1) := by decide +kernel
set_option maxRecDepth 20000 in
theorem ggX4_dueFor_X4_isRoom : GoodIn wsX4_dueFor wsX4_isRoom := goodIn_r _ [15, 1, 16, 17, 18, 19, 20, 21, 54, 55, 56, 57, 58, 59, 60, 61, 75, 76, 77] (by decide +kernel) (by decide +kernel)
set_option maxRecDepth 20000 in
theorem gX4_dueFor_X4_isRoom : GoodIn wsX4_dueFor (wsV RX4 58 RX4 yX4_isRoom wsX4_isRoom) := goodIn_app (goodIn_of _ (by decide +kernel)) ggX4_dueFor_X4_isRoom
set_option maxRecDepth 20000 in
theorem ggX4_dueFor_Jx4a65c_get_915e3 : GoodIn wsX4_dueFor wsJx4a65c_get_915e3 := goodIn_r _ [25, 21, 26, 27, 28, 29, 30, 31, 32, 33, 34, 35, 36, 19, 37, 38, 75, 76, 77] (by decide +kernel) (by decide +kernel)
set_option maxRecDepth 20000 in
theorem gX4_dueFor_Jx4a65c_get_915e3 : GoodIn wsX4_dueFor (wsV RX4 69 RJx4a65c yJx4a65c_get_915e3 wsJx4a65c_get_915e3) := goodIn_app (goodIn_of _ (by decide +kernel)) ggX4_dueFor_Jx4a65c_get_915e3
set_option maxRecDepth 20000 in
theorem ggX4_dueFor_Jx4a65c_size_8abf5 : GoodIn wsX4_dueFor wsJx4a65c_size_8abf5 := goodIn_r _ [20, 21, 75, 76, 77] (by decide +kernel) (by decide +kernel)
set_option maxRecDepth 20000 in
theorem gX4_dueFor_Jx4a65c_size_8abf5 : GoodIn wsX4_dueFor (wsV RX4 40 RJx4a65c yJx4a65c_size_8abf5 wsJx4a65c_size_8abf5) := goodIn_app (goodIn_of _ (by decide +kernel)) ggX4_dueFor_Jx4a65c_size_8abf5
set_option maxRecDepth 20000 in
theorem ggX4_dueFor_X4_countsFor : GoodIn wsX4_dueFor wsX4_countsFor := goodIn_r _ [42, 43, 1, 2, 11, 12, 13, 14, 15, 16, 17, 18, 19, 20, 21, 22, 23, 24, 25, 26, 27, 28, 29, 30, 31, 32, 33, 34, 35, 36, 37, 38, 44, 45, 46, 47, 48, 49, 50, 51, 52, 53, 68, 69, 70, 71, 72, 73, 74, 54, 55, 56, 57, 58, 59, 60, 61, 75, 76, 77, 62, 63, 64, 65, 66, 67] (by decide +kernel) (by decide +kernel)
set_option maxRecDepth 20000 in
theorem gX4_dueFor_X4_countsFor : GoodIn wsX4_dueFor (wsV RX4 278 RX4 yX4_countsFor wsX4_countsFor) := goodIn_app (goodIn_of _ (by decide +kernel)) ggX4_dueFor_X4_countsFor
theorem dX4_dueFor_0 : decode cX4_dueFor 0 = .ok (.aload_n 0, 1) := by decide +kernel
theorem dX4_dueFor_1 : decode cX4_dueFor 1 = .ok (.iload_n 1, 1) := by decide +kernel
theorem dX4_dueFor_2 : decode cX4_dueFor 2 = .ok (.invokevirtual 58, 3) := by decide +kernel
theorem dX4_dueFor_5 : decode cX4_dueFor 5 = .ok (.ifCond .eq 8, 3) := by decide +kernel
theorem dX4_dueFor_8 : decode cX4_dueFor 8 = .ok (.iload_n 2, 1) := by decide +kernel
theorem dX4_dueFor_9 : decode cX4_dueFor 9 = .ok (.iconst (-1), 1) := by decide +kernel
theorem dX4_dueFor_10 : decode cX4_dueFor 10 = .ok (.if_icmp .ne 5, 3) := by decide +kernel
theorem dX4_dueFor_13 : decode cX4_dueFor 13 = .ok (.iconst 0, 1) := by decide +kernel
theorem dX4_dueFor_14 : decode cX4_dueFor 14 = .ok (.ireturn, 1) := by decide +kernel
theorem dX4_dueFor_15 : decode cX4_dueFor 15 = .ok (.aload_n 0, 1) := by decide +kernel
theorem dX4_dueFor_16 : decode cX4_dueFor 16 = .ok (.getfield 10, 3) := by decide +kernel
theorem dX4_dueFor_19 : decode cX4_dueFor 19 = .ok (.iload_n 1, 1) := by decide +kernel
theorem dX4_dueFor_20 : decode cX4_dueFor 20 = .ok (.invokevirtual 69, 3) := by decide +kernel
theorem dX4_dueFor_23 : decode cX4_dueFor 23 = .ok (.checkcast 49, 3) := by decide +kernel
theorem dX4_dueFor_26 : decode cX4_dueFor 26 = .ok (.getfield 127, 3) := by decide +kernel
theorem dX4_dueFor_29 : decode cX4_dueFor 29 = .ok (.istore_n 3, 1) := by decide +kernel
theorem dX4_dueFor_30 : decode cX4_dueFor 30 = .ok (.iconst 0, 1) := by decide +kernel
theorem dX4_dueFor_31 : decode cX4_dueFor 31 = .ok (.istore 4, 2) := by decide +kernel
theorem dX4_dueFor_33 : decode cX4_dueFor 33 = .ok (.iload 4, 2) := by decide +kernel
theorem dX4_dueFor_35 : decode cX4_dueFor 35 = .ok (.aload_n 0, 1) := by decide +kernel
theorem dX4_dueFor_36 : decode cX4_dueFor 36 = .ok (.getfield 19, 3) := by decide +kernel
theorem dX4_dueFor_39 : decode cX4_dueFor 39 = .ok (.invokevirtual 40, 3) := by decide +kernel
theorem dX4_dueFor_42 : decode cX4_dueFor 42 = .ok (.if_icmp .ge 49, 3) := by decide +kernel
theorem dX4_dueFor_45 : decode cX4_dueFor 45 = .ok (.aload_n 0, 1) := by decide +kernel
theorem dX4_dueFor_46 : decode cX4_dueFor 46 = .ok (.getfield 19, 3) := by decide +kernel
theorem dX4_dueFor_49 : decode cX4_dueFor 49 = .ok (.iload 4, 2) := by decide +kernel
theorem dX4_dueFor_51 : decode cX4_dueFor 51 = .ok (.invokevirtual 69, 3) := by decide +kernel
theorem dX4_dueFor_54 : decode cX4_dueFor 54 = .ok (.checkcast 145, 3) := by decide +kernel
theorem dX4_dueFor_57 : decode cX4_dueFor 57 = .ok (.astore 5, 2) := by decide +kernel
theorem dX4_dueFor_59 : decode cX4_dueFor 59 = .ok (.iload 4, 2) := by decide +kernel
theorem dX4_dueFor_61 : decode cX4_dueFor 61 = .ok (.iload_n 2, 1) := by decide +kernel
theorem dX4_dueFor_62 : decode cX4_dueFor 62 = .ok (.if_icmp .eq 23, 3) := by decide +kernel
theorem dX4_dueFor_65 : decode cX4_dueFor 65 = .ok (.aload_n 0, 1) := by decide +kernel
theorem dX4_dueFor_66 : decode cX4_dueFor 66 = .ok (.aload 5, 2) := by decide +kernel
theorem dX4_dueFor_68 : decode cX4_dueFor 68 = .ok (.iload_n 1, 1) := by decide +kernel
theorem dX4_dueFor_69 : decode cX4_dueFor 69 = .ok (.invokevirtual 278, 3) := by decide +kernel
theorem dX4_dueFor_72 : decode cX4_dueFor 72 = .ok (.ifCond .eq 13, 3) := by decide +kernel
theorem dX4_dueFor_75 : decode cX4_dueFor 75 = .ok (.iload_n 3, 1) := by decide +kernel
theorem dX4_dueFor_76 : decode cX4_dueFor 76 = .ok (.aload 5, 2) := by decide +kernel
theorem dX4_dueFor_78 : decode cX4_dueFor 78 = .ok (.getfield 176, 3) := by decide +kernel
theorem dX4_dueFor_81 : decode cX4_dueFor 81 = .ok (.invokestatic 282, 3) := by decide +kernel
theorem dX4_dueFor_84 : decode cX4_dueFor 84 = .ok (.istore_n 3, 1) := by decide +kernel
theorem dX4_dueFor_85 : decode cX4_dueFor 85 = .ok (.iinc 4 1, 3) := by decide +kernel
theorem dX4_dueFor_88 : decode cX4_dueFor 88 = .ok (.goto (-55), 3) := by decide +kernel
theorem dX4_dueFor_91 : decode cX4_dueFor 91 = .ok (.iload_n 3, 1) := by decide +kernel
theorem dX4_dueFor_92 : decode cX4_dueFor 92 = .ok (.ireturn, 1) := by decide +kernel
set_option maxRecDepth 20000 in
theorem ggX4_bidsThatCount_Jx4a65c_size_8abf5 : GoodIn wsX4_bidsThatCount wsJx4a65c_size_8abf5 := goodIn_r _ [7, 8, 56, 57, 58] (by decide +kernel) (by decide +kernel)
set_option maxRecDepth 20000 in
theorem gX4_bidsThatCount_Jx4a65c_size_8abf5 : GoodIn wsX4_bidsThatCount (wsV RX4 40 RJx4a65c yJx4a65c_size_8abf5 wsJx4a65c_size_8abf5) := goodIn_app (goodIn_of _ (by decide +kernel)) ggX4_bidsThatCount_Jx4a65c_size_8abf5
set_option maxRecDepth 20000 in
theorem ggX4_bidsThatCount_Jx4a65c_get_915e3 : GoodIn wsX4_bidsThatCount wsJx4a65c_get_915e3 := goodIn_r _ [12, 8, 13, 14, 15, 16, 17, 18, 19, 20, 21, 22, 23, 6, 24, 25, 56, 57, 58] (by decide +kernel) (by decide +kernel)
set_option maxRecDepth 20000 in
theorem gX4_bidsThatCount_Jx4a65c_get_915e3 : GoodIn wsX4_bidsThatCount (wsV RX4 69 RJx4a65c yJx4a65c_get_915e3 wsJx4a65c_get_915e3) := goodIn_app (goodIn_of _ (by decide +kernel)) ggX4_bidsThatCount_Jx4a65c_get_915e3
set_option maxRecDepth 20000 in
theorem ggX4_bidsThatCount_X4_countsFor : GoodIn wsX4_bidsThatCount wsX4_countsFor := goodIn_r _ [30, 31, 32, 33, 34, 35, 36, 29, 37, 3, 4, 5, 6, 7, 8, 9, 10, 11, 12, 13, 14, 15, 16, 17, 18, 19, 20, 21, 22, 23, 24, 25, 38, 39, 40, 41, 42, 43, 44, 45, 46, 47, 59, 60, 61, 62, 63, 64, 65, 48, 49, 50, 51, 52, 53, 54, 55, 56, 57, 58, 66, 67, 68, 69, 70, 71] (by decide +kernel) (by decide +kernel)
set_option maxRecDepth 20000 in
theorem gX4_bidsThatCount_X4_countsFor : GoodIn wsX4_bidsThatCount (wsV RX4 278 RX4 yX4_countsFor wsX4_countsFor) := goodIn_app (goodIn_of _ (by decide +kernel)) ggX4_bidsThatCount_X4_countsFor
theorem dX4_bidsThatCount_0 : decode cX4_bidsThatCount 0 = .ok (.iconst 0, 1) := by decide +kernel
theorem dX4_bidsThatCount_1 : decode cX4_bidsThatCount 1 = .ok (.istore_n 2, 1) := by decide +kernel
theorem dX4_bidsThatCount_2 : decode cX4_bidsThatCount 2 = .ok (.iconst 0, 1) := by decide +kernel
theorem dX4_bidsThatCount_3 : decode cX4_bidsThatCount 3 = .ok (.istore_n 3, 1) := by decide +kernel
theorem dX4_bidsThatCount_4 : decode cX4_bidsThatCount 4 = .ok (.iload_n 3, 1) := by decide +kernel
theorem dX4_bidsThatCount_5 : decode cX4_bidsThatCount 5 = .ok (.aload_n 0, 1) := by decide +kernel
theorem dX4_bidsThatCount_6 : decode cX4_bidsThatCount 6 = .ok (.getfield 19, 3) := by decide +kernel
theorem dX4_bidsThatCount_9 : decode cX4_bidsThatCount 9 = .ok (.invokevirtual 40, 3) := by decide +kernel
theorem dX4_bidsThatCount_12 : decode cX4_bidsThatCount 12 = .ok (.if_icmp .ge 31, 3) := by decide +kernel
theorem dX4_bidsThatCount_15 : decode cX4_bidsThatCount 15 = .ok (.aload_n 0, 1) := by decide +kernel
theorem dX4_bidsThatCount_16 : decode cX4_bidsThatCount 16 = .ok (.aload_n 0, 1) := by decide +kernel
theorem dX4_bidsThatCount_17 : decode cX4_bidsThatCount 17 = .ok (.getfield 19, 3) := by decide +kernel
theorem dX4_bidsThatCount_20 : decode cX4_bidsThatCount 20 = .ok (.iload_n 3, 1) := by decide +kernel
theorem dX4_bidsThatCount_21 : decode cX4_bidsThatCount 21 = .ok (.invokevirtual 69, 3) := by decide +kernel
theorem dX4_bidsThatCount_24 : decode cX4_bidsThatCount 24 = .ok (.checkcast 145, 3) := by decide +kernel
theorem dX4_bidsThatCount_27 : decode cX4_bidsThatCount 27 = .ok (.iload_n 1, 1) := by decide +kernel
theorem dX4_bidsThatCount_28 : decode cX4_bidsThatCount 28 = .ok (.invokevirtual 278, 3) := by decide +kernel
theorem dX4_bidsThatCount_31 : decode cX4_bidsThatCount 31 = .ok (.ifCond .eq 6, 3) := by decide +kernel
theorem dX4_bidsThatCount_34 : decode cX4_bidsThatCount 34 = .ok (.iinc 2 1, 3) := by decide +kernel
theorem dX4_bidsThatCount_37 : decode cX4_bidsThatCount 37 = .ok (.iinc 3 1, 3) := by decide +kernel
theorem dX4_bidsThatCount_40 : decode cX4_bidsThatCount 40 = .ok (.goto (-36), 3) := by decide +kernel
theorem dX4_bidsThatCount_43 : decode cX4_bidsThatCount 43 = .ok (.iload_n 2, 1) := by decide +kernel
theorem dX4_bidsThatCount_44 : decode cX4_bidsThatCount 44 = .ok (.ireturn, 1) := by decide +kernel
set_option maxRecDepth 20000 in
theorem ggX4_bidsWritten_Jx4a65c_size_8abf5 : GoodIn wsX4_bidsWritten wsJx4a65c_size_8abf5 := goodIn_r _ [7, 8, 40, 41, 42] (by decide +kernel) (by decide +kernel)
set_option maxRecDepth 20000 in
theorem gX4_bidsWritten_Jx4a65c_size_8abf5 : GoodIn wsX4_bidsWritten (wsV RX4 40 RJx4a65c yJx4a65c_size_8abf5 wsJx4a65c_size_8abf5) := goodIn_app (goodIn_of _ (by decide +kernel)) ggX4_bidsWritten_Jx4a65c_size_8abf5
set_option maxRecDepth 20000 in
theorem ggX4_bidsWritten_Jx4a65c_get_915e3 : GoodIn wsX4_bidsWritten wsJx4a65c_get_915e3 := goodIn_r _ [12, 8, 13, 14, 15, 16, 17, 18, 19, 20, 21, 22, 23, 6, 24, 25, 40, 41, 42] (by decide +kernel) (by decide +kernel)
set_option maxRecDepth 20000 in
theorem gX4_bidsWritten_Jx4a65c_get_915e3 : GoodIn wsX4_bidsWritten (wsV RX4 69 RJx4a65c yJx4a65c_get_915e3 wsJx4a65c_get_915e3) := goodIn_app (goodIn_of _ (by decide +kernel)) ggX4_bidsWritten_Jx4a65c_get_915e3
set_option maxRecDepth 20000 in
theorem ggX4_bidsWritten_X1_hasBid : GoodIn wsX4_bidsWritten wsX1_hasBid := goodIn_r _ [30, 31, 43, 44, 45, 46, 47, 48, 49] (by decide +kernel) (by decide +kernel)
set_option maxRecDepth 20000 in
theorem gX4_bidsWritten_X1_hasBid : GoodIn wsX4_bidsWritten (wsV RX4 287 RX1 yX1_hasBid wsX1_hasBid) := goodIn_app (goodIn_of _ (by decide +kernel)) ggX4_bidsWritten_X1_hasBid
theorem dX4_bidsWritten_0 : decode cX4_bidsWritten 0 = .ok (.iconst 0, 1) := by decide +kernel
theorem dX4_bidsWritten_1 : decode cX4_bidsWritten 1 = .ok (.istore_n 1, 1) := by decide +kernel
theorem dX4_bidsWritten_2 : decode cX4_bidsWritten 2 = .ok (.iconst 0, 1) := by decide +kernel
theorem dX4_bidsWritten_3 : decode cX4_bidsWritten 3 = .ok (.istore_n 2, 1) := by decide +kernel
theorem dX4_bidsWritten_4 : decode cX4_bidsWritten 4 = .ok (.iload_n 2, 1) := by decide +kernel
theorem dX4_bidsWritten_5 : decode cX4_bidsWritten 5 = .ok (.aload_n 0, 1) := by decide +kernel
theorem dX4_bidsWritten_6 : decode cX4_bidsWritten 6 = .ok (.getfield 19, 3) := by decide +kernel
theorem dX4_bidsWritten_9 : decode cX4_bidsWritten 9 = .ok (.invokevirtual 40, 3) := by decide +kernel
theorem dX4_bidsWritten_12 : decode cX4_bidsWritten 12 = .ok (.if_icmp .ge 29, 3) := by decide +kernel
theorem dX4_bidsWritten_15 : decode cX4_bidsWritten 15 = .ok (.aload_n 0, 1) := by decide +kernel
theorem dX4_bidsWritten_16 : decode cX4_bidsWritten 16 = .ok (.getfield 19, 3) := by decide +kernel
theorem dX4_bidsWritten_19 : decode cX4_bidsWritten 19 = .ok (.iload_n 2, 1) := by decide +kernel
theorem dX4_bidsWritten_20 : decode cX4_bidsWritten 20 = .ok (.invokevirtual 69, 3) := by decide +kernel
theorem dX4_bidsWritten_23 : decode cX4_bidsWritten 23 = .ok (.checkcast 145, 3) := by decide +kernel
theorem dX4_bidsWritten_26 : decode cX4_bidsWritten 26 = .ok (.invokevirtual 287, 3) := by decide +kernel
theorem dX4_bidsWritten_29 : decode cX4_bidsWritten 29 = .ok (.ifCond .eq 6, 3) := by decide +kernel
theorem dX4_bidsWritten_32 : decode cX4_bidsWritten 32 = .ok (.iinc 1 1, 3) := by decide +kernel
theorem dX4_bidsWritten_35 : decode cX4_bidsWritten 35 = .ok (.iinc 2 1, 3) := by decide +kernel
theorem dX4_bidsWritten_38 : decode cX4_bidsWritten 38 = .ok (.goto (-34), 3) := by decide +kernel
theorem dX4_bidsWritten_41 : decode cX4_bidsWritten 41 = .ok (.iload_n 1, 1) := by decide +kernel
theorem dX4_bidsWritten_42 : decode cX4_bidsWritten 42 = .ok (.ireturn, 1) := by decide +kernel
set_option maxRecDepth 20000 in
theorem ggX4_roomsToLet_Jx4a65c_size_8abf5 : GoodIn wsX4_roomsToLet wsJx4a65c_size_8abf5 := goodIn_r _ [6, 7, 61, 62, 63] (by decide +kernel) (by decide +kernel)
set_option maxRecDepth 20000 in
theorem gX4_roomsToLet_Jx4a65c_size_8abf5 : GoodIn wsX4_roomsToLet (wsV RX4 40 RJx4a65c yJx4a65c_size_8abf5 wsJx4a65c_size_8abf5) := goodIn_app (goodIn_of _ (by decide +kernel)) ggX4_roomsToLet_Jx4a65c_size_8abf5
set_option maxRecDepth 20000 in
theorem ggX4_roomsToLet_X4_winnerOf : GoodIn wsX4_roomsToLet wsX4_winnerOf := goodIn_r _ [12, 13, 14, 15, 2, 3, 4, 5, 6, 7, 16, 17, 18, 19, 20, 21, 22, 23, 24, 25, 26, 27, 28, 29, 30, 31, 32, 33, 34, 35, 11, 36, 37, 1, 38, 39, 40, 41, 42, 43, 44, 45, 46, 47, 48, 49, 50, 51, 52, 53, 54, 55, 56, 57, 58, 59, 60, 64, 65, 66, 67, 68, 69, 70, 61, 62, 63, 71, 72, 73, 74, 75, 76] (by decide +kernel) (by decide +kernel)
set_option maxRecDepth 20000 in
theorem gX4_roomsToLet_X4_winnerOf : GoodIn wsX4_roomsToLet (wsV RX4 187 RX4 yX4_winnerOf wsX4_winnerOf) := goodIn_app (goodIn_of _ (by decide +kernel)) ggX4_roomsToLet_X4_winnerOf
theorem dX4_roomsToLet_0 : decode cX4_roomsToLet 0 = .ok (.iconst 0, 1) := by decide +kernel
theorem dX4_roomsToLet_1 : decode cX4_roomsToLet 1 = .ok (.istore_n 1, 1) := by decide +kernel
theorem dX4_roomsToLet_2 : decode cX4_roomsToLet 2 = .ok (.iconst 0, 1) := by decide +kernel
theorem dX4_roomsToLet_3 : decode cX4_roomsToLet 3 = .ok (.istore_n 2, 1) := by decide +kernel
theorem dX4_roomsToLet_4 : decode cX4_roomsToLet 4 = .ok (.iload_n 2, 1) := by decide +kernel
theorem dX4_roomsToLet_5 : decode cX4_roomsToLet 5 = .ok (.aload_n 0, 1) := by decide +kernel
theorem dX4_roomsToLet_6 : decode cX4_roomsToLet 6 = .ok (.getfield 10, 3) := by decide +kernel
theorem dX4_roomsToLet_9 : decode cX4_roomsToLet 9 = .ok (.invokevirtual 40, 3) := by decide +kernel
theorem dX4_roomsToLet_12 : decode cX4_roomsToLet 12 = .ok (.if_icmp .ge 21, 3) := by decide +kernel
theorem dX4_roomsToLet_15 : decode cX4_roomsToLet 15 = .ok (.aload_n 0, 1) := by decide +kernel
theorem dX4_roomsToLet_16 : decode cX4_roomsToLet 16 = .ok (.iload_n 2, 1) := by decide +kernel
theorem dX4_roomsToLet_17 : decode cX4_roomsToLet 17 = .ok (.invokevirtual 187, 3) := by decide +kernel
theorem dX4_roomsToLet_20 : decode cX4_roomsToLet 20 = .ok (.iconst (-1), 1) := by decide +kernel
theorem dX4_roomsToLet_21 : decode cX4_roomsToLet 21 = .ok (.if_icmp .eq 6, 3) := by decide +kernel
theorem dX4_roomsToLet_24 : decode cX4_roomsToLet 24 = .ok (.iinc 1 1, 3) := by decide +kernel
theorem dX4_roomsToLet_27 : decode cX4_roomsToLet 27 = .ok (.iinc 2 1, 3) := by decide +kernel
theorem dX4_roomsToLet_30 : decode cX4_roomsToLet 30 = .ok (.goto (-26), 3) := by decide +kernel
theorem dX4_roomsToLet_33 : decode cX4_roomsToLet 33 = .ok (.iload_n 1, 1) := by decide +kernel
theorem dX4_roomsToLet_34 : decode cX4_roomsToLet 34 = .ok (.ireturn, 1) := by decide +kernel
set_option maxRecDepth 20000 in
theorem ggX4_letRoom_X4_winnerOf : GoodIn wsX4_letRoom wsX4_winnerOf := goodIn_r _ [11, 3, 4, 12, 13, 14, 15, 16, 17, 18, 19, 20, 21, 22, 23, 24, 25, 26, 27, 28, 29, 30, 31, 32, 33, 34, 35, 36, 37, 38, 10, 39, 40, 1, 2, 41, 42, 43, 44, 45, 46, 47, 48, 49, 50, 51, 52, 53, 54, 115, 116, 117, 118, 119, 120, 121, 122, 123, 124, 125, 126, 127, 128, 129, 130, 131, 132, 133, 134, 135, 136, 137, 138] (by decide +kernel) (by decide +kernel)
set_option maxRecDepth 20000 in
theorem gX4_letRoom_X4_winnerOf : GoodIn wsX4_letRoom (wsV RX4 187 RX4 yX4_winnerOf wsX4_winnerOf) := goodIn_app (goodIn_of _ (by decide +kernel)) ggX4_letRoom_X4_winnerOf
set_option maxRecDepth 20000 in
theorem ggX4_letRoom_X4_isRoom : GoodIn wsX4_letRoom wsX4_isRoom := goodIn_r _ [44, 1, 13, 14, 15, 16, 17, 18, 115, 116, 117, 118, 119, 120, 121, 122, 130, 131, 132] (by decide +kernel) (by decide +kernel)
set_option maxRecDepth 20000 in
theorem gX4_letRoom_X4_isRoom : GoodIn wsX4_letRoom (wsV RX4 58 RX4 yX4_isRoom wsX4_isRoom) := goodIn_app (goodIn_of _ (by decide +kernel)) ggX4_letRoom_X4_isRoom
set_option maxRecDepth 20000 in
theorem ggX4_letRoom_X4_isGuest : GoodIn wsX4_letRoom wsX4_isGuest := goodIn_r _ [58, 3, 13, 14, 15, 16, 17, 18, 115, 116, 117, 118, 119, 120, 121, 122, 130, 131, 132] (by decide +kernel) (by decide +kernel)
set_option maxRecDepth 20000 in
theorem gX4_letRoom_X4_isGuest : GoodIn wsX4_letRoom (wsV RX4 148 RX4 yX4_isGuest wsX4_isGuest) := goodIn_app (goodIn_of _ (by decide +kernel)) ggX4_letRoom_X4_isGuest
set_option maxRecDepth 20000 in
theorem ggX4_letRoom_Jx4a65c_get_915e3 : GoodIn wsX4_letRoom wsJx4a65c_get_915e3 := goodIn_r _ [22, 18, 23, 24, 25, 26, 27, 28, 29, 30, 31, 32, 33, 16, 34, 35, 130, 131, 132] (by decide +kernel) (by decide +kernel)
set_option maxRecDepth 20000 in
theorem gX4_letRoom_Jx4a65c_get_915e3 : GoodIn wsX4_letRoom (wsV RX4 69 RJx4a65c yJx4a65c_get_915e3 wsJx4a65c_get_915e3) := goodIn_app (goodIn_of _ (by decide +kernel)) ggX4_letRoom_Jx4a65c_get_915e3
set_option maxRecDepth 20000 in
theorem ggX4_letRoom_X4_hauntingOfNight : GoodIn wsX4_letRoom wsX4_hauntingOfNight := goodIn_r _ [62, 63, 64, 65, 10, 66, 67, 68, 69, 13, 14, 15, 16, 17, 18, 19, 20, 21, 22, 23, 24, 25, 26, 27, 28, 29, 30, 31, 32, 33, 34, 35, 70, 71, 72, 73, 74, 75, 115, 116, 117, 118, 119, 120, 121, 122, 139, 140, 141, 142, 143, 130, 131, 132] (by decide +kernel) (by decide +kernel)
set_option maxRecDepth 20000 in
theorem gX4_letRoom_X4_hauntingOfNight : GoodIn wsX4_letRoom (wsV RX4 113 RX4 yX4_hauntingOfNight wsX4_hauntingOfNight) := goodIn_app (goodIn_of _ (by decide +kernel)) ggX4_letRoom_X4_hauntingOfNight
set_option maxRecDepth 20000 in
theorem ggX4_letRoom_X4_dueFor : GoodIn wsX4_letRoom wsX4_dueFor := goodIn_r _ [79, 1, 2, 80, 3, 4, 12, 81, 82, 83, 84, 41, 42, 43, 10, 44, 13, 14, 15, 16, 17, 18, 19, 20, 21, 22, 23, 24, 25, 26, 27, 28, 29, 30, 31, 32, 33, 34, 35, 36, 37, 38, 39, 40, 45, 46, 47, 48, 49, 50, 51, 52, 53, 54, 115, 116, 117, 118, 119, 120, 121, 122, 133, 134, 135, 136, 137, 138, 123, 124, 125, 126, 127, 128, 129, 130, 131, 132] (by decide +kernel) (by decide +kernel)
set_option maxRecDepth 20000 in
theorem gX4_letRoom_X4_dueFor : GoodIn wsX4_letRoom (wsV RX4 190 RX4 yX4_dueFor wsX4_dueFor) := goodIn_app (goodIn_of _ (by decide +kernel)) ggX4_letRoom_X4_dueFor
set_option maxRecDepth 20000 in
theorem ggX4_letRoom_X1_isUpsetBy : GoodIn wsX4_letRoom wsX1_isUpsetBy := goodIn_r _ [88, 89, 90, 91, 92, 48, 93, 123, 124, 125, 126, 127, 128, 129] (by decide +kernel) (by decide +kernel)
set_option maxRecDepth 20000 in
theorem gX4_letRoom_X1_isUpsetBy : GoodIn wsX4_letRoom (wsV RX4 216 RX1 yX1_isUpsetBy wsX1_isUpsetBy) := goodIn_app (goodIn_of _ (by decide +kernel)) ggX4_letRoom_X1_isUpsetBy
set_option maxRecDepth 20000 in
theorem ggX4_letRoom_X1_isFrightenedBy : GoodIn wsX4_letRoom wsX1_isFrightenedBy := goodIn_r _ [93, 89, 123, 124, 125, 126, 127, 128, 129] (by decide +kernel) (by decide +kernel)
set_option maxRecDepth 20000 in
theorem gX4_letRoom_X1_isFrightenedBy : GoodIn wsX4_letRoom (wsV RX4 291 RX1 yX1_isFrightenedBy wsX1_isFrightenedBy) := goodIn_app (goodIn_of _ (by decide +kernel)) ggX4_letRoom_X1_isFrightenedBy
set_option maxRecDepth 20000 in
theorem ggX4_letRoom_X2_wasLet : GoodIn wsX4_letRoom wsX2_wasLet := goodIn_r _ [99, 100, 101, 102, 103, 82, 83, 84, 133, 134, 135, 136, 137, 138] (by decide +kernel) (by decide +kernel)
set_option maxRecDepth 20000 in
theorem gX4_letRoom_X2_wasLet : GoodIn wsX4_letRoom (wsV RX4 294 RX2 yX2_wasLet wsX2_wasLet) := goodIn_app (goodIn_of _ (by decide +kernel)) ggX4_letRoom_X2_wasLet
set_option maxRecDepth 20000 in
theorem ggX4_letRoom_X1_stayed : GoodIn wsX4_letRoom wsX1_stayed := goodIn_r _ [107, 50, 108, 109, 89, 110, 82, 83, 84, 111, 112, 113, 114, 86, 87, 48, 88, 90, 91, 92, 93, 123, 124, 125, 126, 127, 128, 129] (by decide +kernel) (by decide +kernel)
set_option maxRecDepth 20000 in
theorem gX4_letRoom_X1_stayed : GoodIn wsX4_letRoom (wsV RX4 298 RX1 yX1_stayed wsX1_stayed) := goodIn_app (goodIn_of _ (by decide +kernel)) ggX4_letRoom_X1_stayed
theorem dX4_letRoom_0 : decode cX4_letRoom 0 = .ok (.aload_n 0, 1) := by decide +kernel
theorem dX4_letRoom_1 : decode cX4_letRoom 1 = .ok (.iload_n 1, 1) := by decide +kernel
theorem dX4_letRoom_2 : decode cX4_letRoom 2 = .ok (.invokevirtual 187, 3) := by decide +kernel
theorem dX4_letRoom_5 : decode cX4_letRoom 5 = .ok (.istore_n 2, 1) := by decide +kernel
theorem dX4_letRoom_6 : decode cX4_letRoom 6 = .ok (.aload_n 0, 1) := by decide +kernel
theorem dX4_letRoom_7 : decode cX4_letRoom 7 = .ok (.iload_n 1, 1) := by decide +kernel
theorem dX4_letRoom_8 : decode cX4_letRoom 8 = .ok (.invokevirtual 58, 3) := by decide +kernel
theorem dX4_letRoom_11 : decode cX4_letRoom 11 = .ok (.ifCond .eq 11, 3) := by decide +kernel
theorem dX4_letRoom_14 : decode cX4_letRoom 14 = .ok (.aload_n 0, 1) := by decide +kernel
theorem dX4_letRoom_15 : decode cX4_letRoom 15 = .ok (.iload_n 2, 1) := by decide +kernel
theorem dX4_letRoom_16 : decode cX4_letRoom 16 = .ok (.invokevirtual 148, 3) := by decide +kernel
theorem dX4_letRoom_19 : decode cX4_letRoom 19 = .ok (.ifCond .ne 4, 3) := by decide +kernel
theorem dX4_letRoom_22 : decode cX4_letRoom 22 = .ok (.return_, 1) := by decide +kernel
theorem dX4_letRoom_23 : decode cX4_letRoom 23 = .ok (.aload_n 0, 1) := by decide +kernel
theorem dX4_letRoom_24 : decode cX4_letRoom 24 = .ok (.getfield 10, 3) := by decide +kernel
theorem dX4_letRoom_27 : decode cX4_letRoom 27 = .ok (.iload_n 1, 1) := by decide +kernel
theorem dX4_letRoom_28 : decode cX4_letRoom 28 = .ok (.invokevirtual 69, 3) := by decide +kernel
theorem dX4_letRoom_31 : decode cX4_letRoom 31 = .ok (.checkcast 49, 3) := by decide +kernel
theorem dX4_letRoom_34 : decode cX4_letRoom 34 = .ok (.astore_n 3, 1) := by decide +kernel
theorem dX4_letRoom_35 : decode cX4_letRoom 35 = .ok (.aload_n 0, 1) := by decide +kernel
theorem dX4_letRoom_36 : decode cX4_letRoom 36 = .ok (.getfield 19, 3) := by decide +kernel
theorem dX4_letRoom_39 : decode cX4_letRoom 39 = .ok (.iload_n 2, 1) := by decide +kernel
theorem dX4_letRoom_40 : decode cX4_letRoom 40 = .ok (.invokevirtual 69, 3) := by decide +kernel
theorem dX4_letRoom_43 : decode cX4_letRoom 43 = .ok (.checkcast 145, 3) := by decide +kernel
theorem dX4_letRoom_46 : decode cX4_letRoom 46 = .ok (.astore 4, 2) := by decide +kernel
theorem dX4_letRoom_48 : decode cX4_letRoom 48 = .ok (.aload_n 0, 1) := by decide +kernel
theorem dX4_letRoom_49 : decode cX4_letRoom 49 = .ok (.iload_n 1, 1) := by decide +kernel
theorem dX4_letRoom_50 : decode cX4_letRoom 50 = .ok (.iconst (-1), 1) := by decide +kernel
theorem dX4_letRoom_51 : decode cX4_letRoom 51 = .ok (.invokevirtual 113, 3) := by decide +kernel
theorem dX4_letRoom_54 : decode cX4_letRoom 54 = .ok (.istore 5, 2) := by decide +kernel
theorem dX4_letRoom_56 : decode cX4_letRoom 56 = .ok (.aload_n 0, 1) := by decide +kernel
theorem dX4_letRoom_57 : decode cX4_letRoom 57 = .ok (.iload_n 1, 1) := by decide +kernel
theorem dX4_letRoom_58 : decode cX4_letRoom 58 = .ok (.iload_n 2, 1) := by decide +kernel
theorem dX4_letRoom_59 : decode cX4_letRoom 59 = .ok (.invokevirtual 190, 3) := by decide +kernel
theorem dX4_letRoom_62 : decode cX4_letRoom 62 = .ok (.istore 6, 2) := by decide +kernel
theorem dX4_letRoom_64 : decode cX4_letRoom 64 = .ok (.aload 4, 2) := by decide +kernel
theorem dX4_letRoom_66 : decode cX4_letRoom 66 = .ok (.iload 5, 2) := by decide +kernel
theorem dX4_letRoom_68 : decode cX4_letRoom 68 = .ok (.invokevirtual 216, 3) := by decide +kernel
theorem dX4_letRoom_71 : decode cX4_letRoom 71 = .ok (.ifCond .eq 10, 3) := by decide +kernel
theorem dX4_letRoom_74 : decode cX4_letRoom 74 = .ok (.iload 6, 2) := by decide +kernel
theorem dX4_letRoom_76 : decode cX4_letRoom 76 = .ok (.iconst 2, 1) := by decide +kernel
theorem dX4_letRoom_77 : decode cX4_letRoom 77 = .ok (.idiv, 1) := by decide +kernel
theorem dX4_letRoom_78 : decode cX4_letRoom 78 = .ok (.goto 4, 3) := by decide +kernel
theorem dX4_letRoom_81 : decode cX4_letRoom 81 = .ok (.iconst 0, 1) := by decide +kernel
theorem dX4_letRoom_82 : decode cX4_letRoom 82 = .ok (.istore 7, 2) := by decide +kernel
theorem dX4_letRoom_84 : decode cX4_letRoom 84 = .ok (.aload_n 3, 1) := by decide +kernel
theorem dX4_letRoom_85 : decode cX4_letRoom 85 = .ok (.iload 6, 2) := by decide +kernel
theorem dX4_letRoom_87 : decode cX4_letRoom 87 = .ok (.iload 7, 2) := by decide +kernel
theorem dX4_letRoom_89 : decode cX4_letRoom 89 = .ok (.isub, 1) := by decide +kernel
theorem dX4_letRoom_90 : decode cX4_letRoom 90 = .ok (.aload 4, 2) := by decide +kernel
theorem dX4_letRoom_92 : decode cX4_letRoom 92 = .ok (.iload 5, 2) := by decide +kernel
theorem dX4_letRoom_94 : decode cX4_letRoom 94 = .ok (.invokevirtual 291, 3) := by decide +kernel
theorem dX4_letRoom_97 : decode cX4_letRoom 97 = .ok (.invokevirtual 294, 3) := by decide +kernel
theorem dX4_letRoom_100 : decode cX4_letRoom 100 = .ok (.aload 4, 2) := by decide +kernel
theorem dX4_letRoom_102 : decode cX4_letRoom 102 = .ok (.iload 6, 2) := by decide +kernel
theorem dX4_letRoom_104 : decode cX4_letRoom 104 = .ok (.iload 7, 2) := by decide +kernel
theorem dX4_letRoom_106 : decode cX4_letRoom 106 = .ok (.isub, 1) := by decide +kernel
theorem dX4_letRoom_107 : decode cX4_letRoom 107 = .ok (.iload 5, 2) := by decide +kernel
theorem dX4_letRoom_109 : decode cX4_letRoom 109 = .ok (.invokevirtual 298, 3) := by decide +kernel
theorem dX4_letRoom_112 : decode cX4_letRoom 112 = .ok (.aload_n 0, 1) := by decide +kernel
theorem dX4_letRoom_113 : decode cX4_letRoom 113 = .ok (.dup, 1) := by decide +kernel
theorem dX4_letRoom_114 : decode cX4_letRoom 114 = .ok (.getfield 204, 3) := by decide +kernel
theorem dX4_letRoom_117 : decode cX4_letRoom 117 = .ok (.iload 6, 2) := by decide +kernel
theorem dX4_letRoom_119 : decode cX4_letRoom 119 = .ok (.iload 7, 2) := by decide +kernel
theorem dX4_letRoom_121 : decode cX4_letRoom 121 = .ok (.isub, 1) := by decide +kernel
theorem dX4_letRoom_122 : decode cX4_letRoom 122 = .ok (.iadd, 1) := by decide +kernel
theorem dX4_letRoom_123 : decode cX4_letRoom 123 = .ok (.putfield 204, 3) := by decide +kernel
theorem dX4_letRoom_126 : decode cX4_letRoom 126 = .ok (.aload_n 0, 1) := by decide +kernel
theorem dX4_letRoom_127 : decode cX4_letRoom 127 = .ok (.dup, 1) := by decide +kernel
theorem dX4_letRoom_128 : decode cX4_letRoom 128 = .ok (.getfield 208, 3) := by decide +kernel
theorem dX4_letRoom_131 : decode cX4_letRoom 131 = .ok (.iload 7, 2) := by decide +kernel
theorem dX4_letRoom_133 : decode cX4_letRoom 133 = .ok (.iadd, 1) := by decide +kernel
theorem dX4_letRoom_134 : decode cX4_letRoom 134 = .ok (.putfield 208, 3) := by decide +kernel
theorem dX4_letRoom_137 : decode cX4_letRoom 137 = .ok (.return_, 1) := by decide +kernel
set_option maxRecDepth 20000 in
theorem ggX4_backTonight_Jx4a65c_size_8abf5 : GoodIn wsX4_backTonight wsJx4a65c_size_8abf5 := goodIn_r _ [8, 9, 100, 101, 102] (by decide +kernel) (by decide +kernel)
set_option maxRecDepth 20000 in
theorem gX4_backTonight_Jx4a65c_size_8abf5 : GoodIn wsX4_backTonight (wsV RX4 40 RJx4a65c yJx4a65c_size_8abf5 wsJx4a65c_size_8abf5) := goodIn_app (goodIn_of _ (by decide +kernel)) ggX4_backTonight_Jx4a65c_size_8abf5
set_option maxRecDepth 20000 in
theorem ggX4_backTonight_X4_winnerOf : GoodIn wsX4_backTonight wsX4_winnerOf := goodIn_r _ [14, 2, 3, 15, 4, 5, 6, 7, 8, 9, 16, 17, 18, 19, 20, 21, 22, 23, 24, 25, 26, 27, 28, 29, 30, 31, 32, 33, 34, 35, 13, 36, 37, 1, 38, 39, 40, 41, 42, 43, 44, 45, 46, 47, 48, 49, 50, 51, 52, 92, 93, 94, 95, 96, 97, 98, 99, 103, 104, 105, 106, 107, 108, 109, 100, 101, 102, 110, 111, 112, 113, 114, 115] (by decide +kernel) (by decide +kernel)
set_option maxRecDepth 20000 in
theorem gX4_backTonight_X4_winnerOf : GoodIn wsX4_backTonight (wsV RX4 187 RX4 yX4_winnerOf wsX4_winnerOf) := goodIn_app (goodIn_of _ (by decide +kernel)) ggX4_backTonight_X4_winnerOf
set_option maxRecDepth 20000 in
theorem ggX4_backTonight_X4_isGuest : GoodIn wsX4_backTonight wsX4_isGuest := goodIn_r _ [56, 2, 4, 5, 6, 7, 8, 9, 92, 93, 94, 95, 96, 97, 98, 99, 100, 101, 102] (by decide +kernel) (by decide +kernel)
set_option maxRecDepth 20000 in
theorem gX4_backTonight_X4_isGuest : GoodIn wsX4_backTonight (wsV RX4 148 RX4 yX4_isGuest wsX4_isGuest) := goodIn_app (goodIn_of _ (by decide +kernel)) ggX4_backTonight_X4_isGuest
set_option maxRecDepth 20000 in
theorem ggX4_backTonight_Jx4a65c_get_915e3 : GoodIn wsX4_backTonight wsJx4a65c_get_915e3 := goodIn_r _ [19, 9, 20, 21, 22, 23, 24, 25, 26, 27, 28, 29, 30, 7, 31, 32, 100, 101, 102] (by decide +kernel) (by decide +kernel)
set_option maxRecDepth 20000 in
theorem gX4_backTonight_Jx4a65c_get_915e3 : GoodIn wsX4_backTonight (wsV RX4 69 RJx4a65c yJx4a65c_get_915e3 wsJx4a65c_get_915e3) := goodIn_app (goodIn_of _ (by decide +kernel)) ggX4_backTonight_Jx4a65c_get_915e3
set_option maxRecDepth 20000 in
theorem ggX4_backTonight_X4_hauntingOfNight : GoodIn wsX4_backTonight wsX4_hauntingOfNight := goodIn_r _ [60, 61, 62, 63, 13, 64, 65, 66, 67, 4, 5, 6, 7, 8, 9, 16, 17, 18, 19, 20, 21, 22, 23, 24, 25, 26, 27, 28, 29, 30, 31, 32, 68, 69, 70, 71, 72, 73, 92, 93, 94, 95, 96, 97, 98, 99, 116, 117, 118, 119, 120, 100, 101, 102] (by decide +kernel) (by decide +kernel)
set_option maxRecDepth 20000 in
theorem gX4_backTonight_X4_hauntingOfNight : GoodIn wsX4_backTonight (wsV RX4 113 RX4 yX4_hauntingOfNight wsX4_hauntingOfNight) := goodIn_app (goodIn_of _ (by decide +kernel)) ggX4_backTonight_X4_hauntingOfNight
set_option maxRecDepth 20000 in
theorem ggX4_backTonight_X1_isUpsetBy : GoodIn wsX4_backTonight wsX1_isUpsetBy := goodIn_r _ [77, 78, 79, 80, 81, 46, 82, 103, 104, 105, 106, 107, 108, 109] (by decide +kernel) (by decide +kernel)
set_option maxRecDepth 20000 in
theorem gX4_backTonight_X1_isUpsetBy : GoodIn wsX4_backTonight (wsV RX4 216 RX1 yX1_isUpsetBy wsX1_isUpsetBy) := goodIn_app (goodIn_of _ (by decide +kernel)) ggX4_backTonight_X1_isUpsetBy
set_option maxRecDepth 20000 in
theorem ggX4_backTonight_X4_dueFor : GoodIn wsX4_backTonight wsX4_dueFor := goodIn_r _ [86, 1, 38, 87, 2, 3, 15, 88, 89, 90, 91, 39, 40, 41, 13, 42, 4, 5, 6, 7, 8, 9, 16, 17, 18, 19, 20, 21, 22, 23, 24, 25, 26, 27, 28, 29, 30, 31, 32, 33, 34, 35, 36, 37, 43, 44, 45, 46, 47, 48, 49, 50, 51, 52, 92, 93, 94, 95, 96, 97, 98, 99, 110, 111, 112, 113, 114, 115, 103, 104, 105, 106, 107, 108, 109, 100, 101, 102] (by decide +kernel) (by decide +kernel)
set_option maxRecDepth 20000 in
theorem gX4_backTonight_X4_dueFor : GoodIn wsX4_backTonight (wsV RX4 190 RX4 yX4_dueFor wsX4_dueFor) := goodIn_app (goodIn_of _ (by decide +kernel)) ggX4_backTonight_X4_dueFor
theorem dX4_backTonight_0 : decode cX4_backTonight 0 = .ok (.iconst 0, 1) := by decide +kernel
theorem dX4_backTonight_1 : decode cX4_backTonight 1 = .ok (.istore_n 2, 1) := by decide +kernel
theorem dX4_backTonight_2 : decode cX4_backTonight 2 = .ok (.iconst 0, 1) := by decide +kernel
theorem dX4_backTonight_3 : decode cX4_backTonight 3 = .ok (.istore_n 3, 1) := by decide +kernel
theorem dX4_backTonight_4 : decode cX4_backTonight 4 = .ok (.iload_n 3, 1) := by decide +kernel
theorem dX4_backTonight_5 : decode cX4_backTonight 5 = .ok (.aload_n 0, 1) := by decide +kernel
theorem dX4_backTonight_6 : decode cX4_backTonight 6 = .ok (.getfield 10, 3) := by decide +kernel
theorem dX4_backTonight_9 : decode cX4_backTonight 9 = .ok (.invokevirtual 40, 3) := by decide +kernel
theorem dX4_backTonight_12 : decode cX4_backTonight 12 = .ok (.if_icmp .ge 61, 3) := by decide +kernel
theorem dX4_backTonight_15 : decode cX4_backTonight 15 = .ok (.aload_n 0, 1) := by decide +kernel
theorem dX4_backTonight_16 : decode cX4_backTonight 16 = .ok (.iload_n 3, 1) := by decide +kernel
theorem dX4_backTonight_17 : decode cX4_backTonight 17 = .ok (.invokevirtual 187, 3) := by decide +kernel
theorem dX4_backTonight_20 : decode cX4_backTonight 20 = .ok (.istore 4, 2) := by decide +kernel
theorem dX4_backTonight_22 : decode cX4_backTonight 22 = .ok (.aload_n 0, 1) := by decide +kernel
theorem dX4_backTonight_23 : decode cX4_backTonight 23 = .ok (.iload 4, 2) := by decide +kernel
theorem dX4_backTonight_25 : decode cX4_backTonight 25 = .ok (.invokevirtual 148, 3) := by decide +kernel
theorem dX4_backTonight_28 : decode cX4_backTonight 28 = .ok (.ifCond .eq 39, 3) := by decide +kernel
theorem dX4_backTonight_31 : decode cX4_backTonight 31 = .ok (.aload_n 0, 1) := by decide +kernel
theorem dX4_backTonight_32 : decode cX4_backTonight 32 = .ok (.getfield 19, 3) := by decide +kernel
theorem dX4_backTonight_35 : decode cX4_backTonight 35 = .ok (.iload 4, 2) := by decide +kernel
theorem dX4_backTonight_37 : decode cX4_backTonight 37 = .ok (.invokevirtual 69, 3) := by decide +kernel
theorem dX4_backTonight_40 : decode cX4_backTonight 40 = .ok (.checkcast 145, 3) := by decide +kernel
theorem dX4_backTonight_43 : decode cX4_backTonight 43 = .ok (.aload_n 0, 1) := by decide +kernel
theorem dX4_backTonight_44 : decode cX4_backTonight 44 = .ok (.iload_n 3, 1) := by decide +kernel
theorem dX4_backTonight_45 : decode cX4_backTonight 45 = .ok (.iload_n 1, 1) := by decide +kernel
theorem dX4_backTonight_46 : decode cX4_backTonight 46 = .ok (.invokevirtual 113, 3) := by decide +kernel
theorem dX4_backTonight_49 : decode cX4_backTonight 49 = .ok (.invokevirtual 216, 3) := by decide +kernel
theorem dX4_backTonight_52 : decode cX4_backTonight 52 = .ok (.ifCond .eq 15, 3) := by decide +kernel
theorem dX4_backTonight_55 : decode cX4_backTonight 55 = .ok (.iload_n 2, 1) := by decide +kernel
theorem dX4_backTonight_56 : decode cX4_backTonight 56 = .ok (.aload_n 0, 1) := by decide +kernel
theorem dX4_backTonight_57 : decode cX4_backTonight 57 = .ok (.iload_n 3, 1) := by decide +kernel
theorem dX4_backTonight_58 : decode cX4_backTonight 58 = .ok (.iload 4, 2) := by decide +kernel
theorem dX4_backTonight_60 : decode cX4_backTonight 60 = .ok (.invokevirtual 190, 3) := by decide +kernel
theorem dX4_backTonight_63 : decode cX4_backTonight 63 = .ok (.iconst 2, 1) := by decide +kernel
theorem dX4_backTonight_64 : decode cX4_backTonight 64 = .ok (.idiv, 1) := by decide +kernel
theorem dX4_backTonight_65 : decode cX4_backTonight 65 = .ok (.iadd, 1) := by decide +kernel
theorem dX4_backTonight_66 : decode cX4_backTonight 66 = .ok (.istore_n 2, 1) := by decide +kernel
theorem dX4_backTonight_67 : decode cX4_backTonight 67 = .ok (.iinc 3 1, 3) := by decide +kernel
theorem dX4_backTonight_70 : decode cX4_backTonight 70 = .ok (.goto (-66), 3) := by decide +kernel
theorem dX4_backTonight_73 : decode cX4_backTonight 73 = .ok (.iload_n 2, 1) := by decide +kernel
theorem dX4_backTonight_74 : decode cX4_backTonight 74 = .ok (.ireturn, 1) := by decide +kernel
set_option maxRecDepth 20000 in
theorem ggX4_allowSeats_Jx4a65c_size_8abf5 : GoodIn wsX4_allowSeats wsJx4a65c_size_8abf5 := goodIn_r _ [10, 11, 58, 59, 60] (by decide +kernel) (by decide +kernel)
set_option maxRecDepth 20000 in
theorem gX4_allowSeats_Jx4a65c_size_8abf5 : GoodIn wsX4_allowSeats (wsV RX4 40 RJx4a65c yJx4a65c_size_8abf5 wsJx4a65c_size_8abf5) := goodIn_app (goodIn_of _ (by decide +kernel)) ggX4_allowSeats_Jx4a65c_size_8abf5
set_option maxRecDepth 20000 in
theorem ggX4_allowSeats_Jx4a65c_get_915e3 : GoodIn wsX4_allowSeats wsJx4a65c_get_915e3 := goodIn_r _ [15, 11, 16, 17, 18, 19, 20, 21, 22, 23, 24, 25, 26, 9, 27, 28, 58, 59, 60] (by decide +kernel) (by decide +kernel)
set_option maxRecDepth 20000 in
theorem gX4_allowSeats_Jx4a65c_get_915e3 : GoodIn wsX4_allowSeats (wsV RX4 69 RJx4a65c yJx4a65c_get_915e3 wsJx4a65c_get_915e3) := goodIn_app (goodIn_of _ (by decide +kernel)) ggX4_allowSeats_Jx4a65c_get_915e3
set_option maxRecDepth 20000 in
theorem ggX4_allowSeats_X1_hasBid : GoodIn wsX4_allowSeats wsX1_hasBid := goodIn_r _ [33, 34, 61, 62, 63, 64, 65, 66, 67] (by decide +kernel) (by decide +kernel)
set_option maxRecDepth 20000 in
theorem gX4_allowSeats_X1_hasBid : GoodIn wsX4_allowSeats (wsV RX4 287 RX1 yX1_hasBid wsX1_hasBid) := goodIn_app (goodIn_of _ (by decide +kernel)) ggX4_allowSeats_X1_hasBid
set_option maxRecDepth 20000 in
theorem ggX4_allowSeats_X1_couldBidFor : GoodIn wsX4_allowSeats wsX1_couldBidFor := goodIn_r _ [38, 39, 40, 41, 42, 43, 61, 62, 63, 64, 65, 66, 67, 68, 69, 70, 71, 72, 73] (by decide +kernel) (by decide +kernel)
set_option maxRecDepth 20000 in
theorem gX4_allowSeats_X1_couldBidFor : GoodIn wsX4_allowSeats (wsV RX4 159 RX1 yX1_couldBidFor wsX1_couldBidFor) := goodIn_app (goodIn_of _ (by decide +kernel)) ggX4_allowSeats_X1_couldBidFor
set_option maxRecDepth 20000 in
theorem ggX4_allowSeats_X3_allow : GoodIn wsX4_allowSeats wsX3_allow := goodIn_r _ [48, 49, 74, 75, 76] (by decide +kernel) (by decide +kernel)
set_option maxRecDepth 20000 in
theorem gX4_allowSeats_X3_allow : GoodIn wsX4_allowSeats (wsV RX4 301 RX3 yX3_allow wsX3_allow) := goodIn_app (goodIn_of _ (by decide +kernel)) ggX4_allowSeats_X3_allow
theorem dX4_allowSeats_0 : decode cX4_allowSeats 0 = .ok (.iconst 0, 1) := by decide +kernel
theorem dX4_allowSeats_1 : decode cX4_allowSeats 1 = .ok (.istore_n 1, 1) := by decide +kernel
theorem dX4_allowSeats_2 : decode cX4_allowSeats 2 = .ok (.iload_n 1, 1) := by decide +kernel
theorem dX4_allowSeats_3 : decode cX4_allowSeats 3 = .ok (.aload_n 0, 1) := by decide +kernel
theorem dX4_allowSeats_4 : decode cX4_allowSeats 4 = .ok (.getfield 19, 3) := by decide +kernel
theorem dX4_allowSeats_7 : decode cX4_allowSeats 7 = .ok (.invokevirtual 40, 3) := by decide +kernel
theorem dX4_allowSeats_10 : decode cX4_allowSeats 10 = .ok (.if_icmp .ge 74, 3) := by decide +kernel
theorem dX4_allowSeats_13 : decode cX4_allowSeats 13 = .ok (.aload_n 0, 1) := by decide +kernel
theorem dX4_allowSeats_14 : decode cX4_allowSeats 14 = .ok (.getfield 19, 3) := by decide +kernel
theorem dX4_allowSeats_17 : decode cX4_allowSeats 17 = .ok (.iload_n 1, 1) := by decide +kernel
theorem dX4_allowSeats_18 : decode cX4_allowSeats 18 = .ok (.invokevirtual 69, 3) := by decide +kernel
theorem dX4_allowSeats_21 : decode cX4_allowSeats 21 = .ok (.checkcast 145, 3) := by decide +kernel
theorem dX4_allowSeats_24 : decode cX4_allowSeats 24 = .ok (.astore_n 2, 1) := by decide +kernel
theorem dX4_allowSeats_25 : decode cX4_allowSeats 25 = .ok (.iconst 0, 1) := by decide +kernel
theorem dX4_allowSeats_26 : decode cX4_allowSeats 26 = .ok (.istore_n 3, 1) := by decide +kernel
theorem dX4_allowSeats_27 : decode cX4_allowSeats 27 = .ok (.iload_n 3, 1) := by decide +kernel
theorem dX4_allowSeats_28 : decode cX4_allowSeats 28 = .ok (.aload_n 0, 1) := by decide +kernel
theorem dX4_allowSeats_29 : decode cX4_allowSeats 29 = .ok (.getfield 10, 3) := by decide +kernel
theorem dX4_allowSeats_32 : decode cX4_allowSeats 32 = .ok (.invokevirtual 40, 3) := by decide +kernel
theorem dX4_allowSeats_35 : decode cX4_allowSeats 35 = .ok (.if_icmp .ge 43, 3) := by decide +kernel
theorem dX4_allowSeats_38 : decode cX4_allowSeats 38 = .ok (.aload_n 2, 1) := by decide +kernel
theorem dX4_allowSeats_39 : decode cX4_allowSeats 39 = .ok (.invokevirtual 287, 3) := by decide +kernel
theorem dX4_allowSeats_42 : decode cX4_allowSeats 42 = .ok (.ifCond .eq 30, 3) := by decide +kernel
theorem dX4_allowSeats_45 : decode cX4_allowSeats 45 = .ok (.aload_n 2, 1) := by decide +kernel
theorem dX4_allowSeats_46 : decode cX4_allowSeats 46 = .ok (.aload_n 0, 1) := by decide +kernel
theorem dX4_allowSeats_47 : decode cX4_allowSeats 47 = .ok (.getfield 10, 3) := by decide +kernel
theorem dX4_allowSeats_50 : decode cX4_allowSeats 50 = .ok (.iload_n 3, 1) := by decide +kernel
theorem dX4_allowSeats_51 : decode cX4_allowSeats 51 = .ok (.invokevirtual 69, 3) := by decide +kernel
theorem dX4_allowSeats_54 : decode cX4_allowSeats 54 = .ok (.checkcast 49, 3) := by decide +kernel
theorem dX4_allowSeats_57 : decode cX4_allowSeats 57 = .ok (.invokevirtual 159, 3) := by decide +kernel
theorem dX4_allowSeats_60 : decode cX4_allowSeats 60 = .ok (.ifCond .eq 12, 3) := by decide +kernel
theorem dX4_allowSeats_63 : decode cX4_allowSeats 63 = .ok (.aload_n 0, 1) := by decide +kernel
theorem dX4_allowSeats_64 : decode cX4_allowSeats 64 = .ok (.getfield 25, 3) := by decide +kernel
theorem dX4_allowSeats_67 : decode cX4_allowSeats 67 = .ok (.iload_n 1, 1) := by decide +kernel
theorem dX4_allowSeats_68 : decode cX4_allowSeats 68 = .ok (.iload_n 3, 1) := by decide +kernel
theorem dX4_allowSeats_69 : decode cX4_allowSeats 69 = .ok (.invokevirtual 301, 3) := by decide +kernel
theorem dX4_allowSeats_72 : decode cX4_allowSeats 72 = .ok (.iinc 3 1, 3) := by decide +kernel
theorem dX4_allowSeats_75 : decode cX4_allowSeats 75 = .ok (.goto (-48), 3) := by decide +kernel
theorem dX4_allowSeats_78 : decode cX4_allowSeats 78 = .ok (.iinc 1 1, 3) := by decide +kernel
theorem dX4_allowSeats_81 : decode cX4_allowSeats 81 = .ok (.goto (-79), 3) := by decide +kernel
theorem dX4_allowSeats_84 : decode cX4_allowSeats 84 = .ok (.return_, 1) := by decide +kernel
set_option maxRecDepth 20000 in
theorem ggX4_nextDearest_Jx4a65c_size_8abf5 : GoodIn wsX4_nextDearest wsJx4a65c_size_8abf5 := goodIn_r _ [7, 8, 50, 51, 52] (by decide +kernel) (by decide +kernel)
set_option maxRecDepth 20000 in
theorem gX4_nextDearest_Jx4a65c_size_8abf5 : GoodIn wsX4_nextDearest (wsV RX4 40 RJx4a65c yJx4a65c_size_8abf5 wsJx4a65c_size_8abf5) := goodIn_app (goodIn_of _ (by decide +kernel)) ggX4_nextDearest_Jx4a65c_size_8abf5
set_option maxRecDepth 20000 in
theorem ggX4_nextDearest_X4_isDearer : GoodIn wsX4_nextDearest wsX4_isDearer := goodIn_r _ [13, 1, 2, 14, 15, 16, 17, 12, 18, 3, 4, 5, 6, 7, 8, 19, 20, 21, 22, 23, 24, 25, 26, 27, 28, 29, 30, 31, 32, 33, 34, 35, 42, 43, 44, 45, 46, 47, 48, 49, 53, 54, 55, 56, 57, 58, 59, 50, 51, 52] (by decide +kernel) (by decide +kernel)
set_option maxRecDepth 20000 in
theorem gX4_nextDearest_X4_isDearer : GoodIn wsX4_nextDearest (wsV RX4 304 RX4 yX4_isDearer wsX4_isDearer) := goodIn_app (goodIn_of _ (by decide +kernel)) ggX4_nextDearest_X4_isDearer
set_option maxRecDepth 20000 in
theorem ggX4_nextDearest_Jx4a65c_get_915e3 : GoodIn wsX4_nextDearest wsJx4a65c_get_915e3 := goodIn_r _ [22, 8, 23, 24, 25, 26, 27, 28, 29, 30, 31, 32, 33, 6, 34, 35, 50, 51, 52] (by decide +kernel) (by decide +kernel)
set_option maxRecDepth 20000 in
theorem gX4_nextDearest_Jx4a65c_get_915e3 : GoodIn wsX4_nextDearest (wsV RX4 69 RJx4a65c yJx4a65c_get_915e3 wsJx4a65c_get_915e3) := goodIn_app (goodIn_of _ (by decide +kernel)) ggX4_nextDearest_Jx4a65c_get_915e3
set_option maxRecDepth 20000 in
theorem ggX4_nextDearest_X1_hasBid : GoodIn wsX4_nextDearest wsX1_hasBid := goodIn_r _ [40, 41, 53, 54, 55, 56, 57, 58, 59] (by decide +kernel) (by decide +kernel)
set_option maxRecDepth 20000 in
theorem gX4_nextDearest_X1_hasBid : GoodIn wsX4_nextDearest (wsV RX4 287 RX1 yX1_hasBid wsX1_hasBid) := goodIn_app (goodIn_of _ (by decide +kernel)) ggX4_nextDearest_X1_hasBid
theorem dX4_nextDearest_0 : decode cX4_nextDearest 0 = .ok (.iconst (-1), 1) := by decide +kernel
theorem dX4_nextDearest_1 : decode cX4_nextDearest 1 = .ok (.istore_n 2, 1) := by decide +kernel
theorem dX4_nextDearest_2 : decode cX4_nextDearest 2 = .ok (.iconst 0, 1) := by decide +kernel
theorem dX4_nextDearest_3 : decode cX4_nextDearest 3 = .ok (.istore_n 3, 1) := by decide +kernel
theorem dX4_nextDearest_4 : decode cX4_nextDearest 4 = .ok (.iload_n 3, 1) := by decide +kernel
theorem dX4_nextDearest_5 : decode cX4_nextDearest 5 = .ok (.aload_n 0, 1) := by decide +kernel
theorem dX4_nextDearest_6 : decode cX4_nextDearest 6 = .ok (.getfield 19, 3) := by decide +kernel
theorem dX4_nextDearest_9 : decode cX4_nextDearest 9 = .ok (.invokevirtual 40, 3) := by decide +kernel
theorem dX4_nextDearest_12 : decode cX4_nextDearest 12 = .ok (.if_icmp .ge 68, 3) := by decide +kernel
theorem dX4_nextDearest_15 : decode cX4_nextDearest 15 = .ok (.iload_n 1, 1) := by decide +kernel
theorem dX4_nextDearest_16 : decode cX4_nextDearest 16 = .ok (.iconst (-1), 1) := by decide +kernel
theorem dX4_nextDearest_17 : decode cX4_nextDearest 17 = .ok (.if_icmp .eq 12, 3) := by decide +kernel
theorem dX4_nextDearest_20 : decode cX4_nextDearest 20 = .ok (.aload_n 0, 1) := by decide +kernel
theorem dX4_nextDearest_21 : decode cX4_nextDearest 21 = .ok (.iload_n 1, 1) := by decide +kernel
theorem dX4_nextDearest_22 : decode cX4_nextDearest 22 = .ok (.iload_n 3, 1) := by decide +kernel
theorem dX4_nextDearest_23 : decode cX4_nextDearest 23 = .ok (.invokevirtual 304, 3) := by decide +kernel
theorem dX4_nextDearest_26 : decode cX4_nextDearest 26 = .ok (.ifCond .eq 7, 3) := by decide +kernel
theorem dX4_nextDearest_29 : decode cX4_nextDearest 29 = .ok (.iconst 1, 1) := by decide +kernel
theorem dX4_nextDearest_30 : decode cX4_nextDearest 30 = .ok (.goto 4, 3) := by decide +kernel
theorem dX4_nextDearest_33 : decode cX4_nextDearest 33 = .ok (.iconst 0, 1) := by decide +kernel
theorem dX4_nextDearest_34 : decode cX4_nextDearest 34 = .ok (.istore 4, 2) := by decide +kernel
theorem dX4_nextDearest_36 : decode cX4_nextDearest 36 = .ok (.aload_n 0, 1) := by decide +kernel
theorem dX4_nextDearest_37 : decode cX4_nextDearest 37 = .ok (.getfield 19, 3) := by decide +kernel
theorem dX4_nextDearest_40 : decode cX4_nextDearest 40 = .ok (.iload_n 3, 1) := by decide +kernel
theorem dX4_nextDearest_41 : decode cX4_nextDearest 41 = .ok (.invokevirtual 69, 3) := by decide +kernel
theorem dX4_nextDearest_44 : decode cX4_nextDearest 44 = .ok (.checkcast 145, 3) := by decide +kernel
theorem dX4_nextDearest_47 : decode cX4_nextDearest 47 = .ok (.invokevirtual 287, 3) := by decide +kernel
theorem dX4_nextDearest_50 : decode cX4_nextDearest 50 = .ok (.ifCond .eq 24, 3) := by decide +kernel
theorem dX4_nextDearest_53 : decode cX4_nextDearest 53 = .ok (.iload 4, 2) := by decide +kernel
theorem dX4_nextDearest_55 : decode cX4_nextDearest 55 = .ok (.ifCond .eq 19, 3) := by decide +kernel
theorem dX4_nextDearest_58 : decode cX4_nextDearest 58 = .ok (.iload_n 2, 1) := by decide +kernel
theorem dX4_nextDearest_59 : decode cX4_nextDearest 59 = .ok (.iconst (-1), 1) := by decide +kernel
theorem dX4_nextDearest_60 : decode cX4_nextDearest 60 = .ok (.if_icmp .eq 12, 3) := by decide +kernel
theorem dX4_nextDearest_63 : decode cX4_nextDearest 63 = .ok (.aload_n 0, 1) := by decide +kernel
theorem dX4_nextDearest_64 : decode cX4_nextDearest 64 = .ok (.iload_n 3, 1) := by decide +kernel
theorem dX4_nextDearest_65 : decode cX4_nextDearest 65 = .ok (.iload_n 2, 1) := by decide +kernel
theorem dX4_nextDearest_66 : decode cX4_nextDearest 66 = .ok (.invokevirtual 304, 3) := by decide +kernel
theorem dX4_nextDearest_69 : decode cX4_nextDearest 69 = .ok (.ifCond .eq 5, 3) := by decide +kernel
theorem dX4_nextDearest_72 : decode cX4_nextDearest 72 = .ok (.iload_n 3, 1) := by decide +kernel
theorem dX4_nextDearest_73 : decode cX4_nextDearest 73 = .ok (.istore_n 2, 1) := by decide +kernel
theorem dX4_nextDearest_74 : decode cX4_nextDearest 74 = .ok (.iinc 3 1, 3) := by decide +kernel
theorem dX4_nextDearest_77 : decode cX4_nextDearest 77 = .ok (.goto (-73), 3) := by decide +kernel
theorem dX4_nextDearest_80 : decode cX4_nextDearest 80 = .ok (.iload_n 2, 1) := by decide +kernel
theorem dX4_nextDearest_81 : decode cX4_nextDearest 81 = .ok (.ireturn, 1) := by decide +kernel
set_option maxRecDepth 20000 in
theorem ggX4_isDearer_X4_isGuest : GoodIn wsX4_isDearer wsX4_isGuest := goodIn_r _ [8, 1, 9, 10, 11, 12, 13, 14, 32, 33, 34, 35, 36, 37, 38, 39, 47, 48, 49] (by decide +kernel) (by decide +kernel)
set_option maxRecDepth 20000 in
theorem gX4_isDearer_X4_isGuest : GoodIn wsX4_isDearer (wsV RX4 148 RX4 yX4_isGuest wsX4_isGuest) := goodIn_app (goodIn_of _ (by decide +kernel)) ggX4_isDearer_X4_isGuest
set_option maxRecDepth 20000 in
theorem ggX4_isDearer_Jx4a65c_get_915e3 : GoodIn wsX4_isDearer wsJx4a65c_get_915e3 := goodIn_r _ [18, 14, 19, 20, 21, 22, 23, 24, 25, 26, 27, 28, 29, 12, 30, 31, 47, 48, 49] (by decide +kernel) (by decide +kernel)
set_option maxRecDepth 20000 in
theorem gX4_isDearer_Jx4a65c_get_915e3 : GoodIn wsX4_isDearer (wsV RX4 69 RJx4a65c yJx4a65c_get_915e3 wsJx4a65c_get_915e3) := goodIn_app (goodIn_of _ (by decide +kernel)) ggX4_isDearer_Jx4a65c_get_915e3
theorem dX4_isDearer_0 : decode cX4_isDearer 0 = .ok (.aload_n 0, 1) := by decide +kernel
theorem dX4_isDearer_1 : decode cX4_isDearer 1 = .ok (.iload_n 1, 1) := by decide +kernel
theorem dX4_isDearer_2 : decode cX4_isDearer 2 = .ok (.invokevirtual 148, 3) := by decide +kernel
theorem dX4_isDearer_5 : decode cX4_isDearer 5 = .ok (.ifCond .eq 11, 3) := by decide +kernel
theorem dX4_isDearer_8 : decode cX4_isDearer 8 = .ok (.aload_n 0, 1) := by decide +kernel
theorem dX4_isDearer_9 : decode cX4_isDearer 9 = .ok (.iload_n 2, 1) := by decide +kernel
theorem dX4_isDearer_10 : decode cX4_isDearer 10 = .ok (.invokevirtual 148, 3) := by decide +kernel
theorem dX4_isDearer_13 : decode cX4_isDearer 13 = .ok (.ifCond .ne 5, 3) := by decide +kernel
theorem dX4_isDearer_16 : decode cX4_isDearer 16 = .ok (.iconst 0, 1) := by decide +kernel
theorem dX4_isDearer_17 : decode cX4_isDearer 17 = .ok (.ireturn, 1) := by decide +kernel
theorem dX4_isDearer_18 : decode cX4_isDearer 18 = .ok (.aload_n 0, 1) := by decide +kernel
theorem dX4_isDearer_19 : decode cX4_isDearer 19 = .ok (.getfield 19, 3) := by decide +kernel
theorem dX4_isDearer_22 : decode cX4_isDearer 22 = .ok (.iload_n 1, 1) := by decide +kernel
theorem dX4_isDearer_23 : decode cX4_isDearer 23 = .ok (.invokevirtual 69, 3) := by decide +kernel
theorem dX4_isDearer_26 : decode cX4_isDearer 26 = .ok (.checkcast 145, 3) := by decide +kernel
theorem dX4_isDearer_29 : decode cX4_isDearer 29 = .ok (.getfield 176, 3) := by decide +kernel
theorem dX4_isDearer_32 : decode cX4_isDearer 32 = .ok (.istore_n 3, 1) := by decide +kernel
theorem dX4_isDearer_33 : decode cX4_isDearer 33 = .ok (.aload_n 0, 1) := by decide +kernel
theorem dX4_isDearer_34 : decode cX4_isDearer 34 = .ok (.getfield 19, 3) := by decide +kernel
theorem dX4_isDearer_37 : decode cX4_isDearer 37 = .ok (.iload_n 2, 1) := by decide +kernel
theorem dX4_isDearer_38 : decode cX4_isDearer 38 = .ok (.invokevirtual 69, 3) := by decide +kernel
theorem dX4_isDearer_41 : decode cX4_isDearer 41 = .ok (.checkcast 145, 3) := by decide +kernel
theorem dX4_isDearer_44 : decode cX4_isDearer 44 = .ok (.getfield 176, 3) := by decide +kernel
theorem dX4_isDearer_47 : decode cX4_isDearer 47 = .ok (.istore 4, 2) := by decide +kernel
theorem dX4_isDearer_49 : decode cX4_isDearer 49 = .ok (.iload_n 3, 1) := by decide +kernel
theorem dX4_isDearer_50 : decode cX4_isDearer 50 = .ok (.iload 4, 2) := by decide +kernel
theorem dX4_isDearer_52 : decode cX4_isDearer 52 = .ok (.if_icmp .gt 14, 3) := by decide +kernel
theorem dX4_isDearer_55 : decode cX4_isDearer 55 = .ok (.iload_n 3, 1) := by decide +kernel
theorem dX4_isDearer_56 : decode cX4_isDearer 56 = .ok (.iload 4, 2) := by decide +kernel
theorem dX4_isDearer_58 : decode cX4_isDearer 58 = .ok (.if_icmp .ne 12, 3) := by decide +kernel
theorem dX4_isDearer_61 : decode cX4_isDearer 61 = .ok (.iload_n 1, 1) := by decide +kernel
theorem dX4_isDearer_62 : decode cX4_isDearer 62 = .ok (.iload_n 2, 1) := by decide +kernel
theorem dX4_isDearer_63 : decode cX4_isDearer 63 = .ok (.if_icmp .ge 7, 3) := by decide +kernel
theorem dX4_isDearer_66 : decode cX4_isDearer 66 = .ok (.iconst 1, 1) := by decide +kernel
theorem dX4_isDearer_67 : decode cX4_isDearer 67 = .ok (.goto 4, 3) := by decide +kernel
theorem dX4_isDearer_70 : decode cX4_isDearer 70 = .ok (.iconst 0, 1) := by decide +kernel
theorem dX4_isDearer_71 : decode cX4_isDearer 71 = .ok (.ireturn, 1) := by decide +kernel
