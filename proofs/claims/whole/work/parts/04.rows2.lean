theorem dX2_isKnown_1 : decode cX2_isKnown 1 = .ok (.iload_n 1, 1) := by decide +kernel
theorem dX2_isKnown_2 : decode cX2_isKnown 2 = .ok (.invokevirtual 40, 3) := by decide +kernel
theorem dX2_isKnown_5 : decode cX2_isKnown 5 = .ok (.ifCond .ne 26, 3) := by decide +kernel
theorem dX2_isKnown_8 : decode cX2_isKnown 8 = .ok (.aload_n 0, 1) := by decide +kernel
theorem dX2_isKnown_9 : decode cX2_isKnown 9 = .ok (.iload_n 1, 1) := by decide +kernel
theorem dX2_isKnown_10 : decode cX2_isKnown 10 = .ok (.iload_n 2, 1) := by decide +kernel
theorem dX2_isKnown_11 : decode cX2_isKnown 11 = .ok (.invokevirtual 44, 3) := by decide +kernel
theorem dX2_isKnown_14 : decode cX2_isKnown 14 = .ok (.ifCond .ne 17, 3) := by decide +kernel
theorem dX2_isKnown_17 : decode cX2_isKnown 17 = .ok (.aload_n 0, 1) := by decide +kernel
theorem dX2_isKnown_18 : decode cX2_isKnown 18 = .ok (.getfield 15, 3) := by decide +kernel
theorem dX2_isKnown_21 : decode cX2_isKnown 21 = .ok (.iload_n 1, 1) := by decide +kernel
theorem dX2_isKnown_22 : decode cX2_isKnown 22 = .ok (.iaload, 1) := by decide +kernel
theorem dX2_isKnown_23 : decode cX2_isKnown 23 = .ok (.iload_n 2, 1) := by decide +kernel
theorem dX2_isKnown_24 : decode cX2_isKnown 24 = .ok (.ishr, 1) := by decide +kernel
theorem dX2_isKnown_25 : decode cX2_isKnown 25 = .ok (.iconst 1, 1) := by decide +kernel
theorem dX2_isKnown_26 : decode cX2_isKnown 26 = .ok (.iand, 1) := by decide +kernel
theorem dX2_isKnown_27 : decode cX2_isKnown 27 = .ok (.iconst 1, 1) := by decide +kernel
theorem dX2_isKnown_28 : decode cX2_isKnown 28 = .ok (.if_icmp .ne 7, 3) := by decide +kernel
theorem dX2_isKnown_31 : decode cX2_isKnown 31 = .ok (.iconst 1, 1) := by decide +kernel
theorem dX2_isKnown_32 : decode cX2_isKnown 32 = .ok (.goto 4, 3) := by decide +kernel
theorem dX2_isKnown_35 : decode cX2_isKnown 35 = .ok (.iconst 0, 1) := by decide +kernel
theorem dX2_isKnown_36 : decode cX2_isKnown 36 = .ok (.ireturn, 1) := by decide +kernel
set_option maxRecDepth 20000 in
theorem ggX2_isSeen_X2_isAtSeenPlace : GoodIn wsX2_isSeen wsX2_isAtSeenPlace := goodIn_r _ [7, 1, 8, 9, 10, 11, 12, 13, 14, 15, 16, 17, 18, 19, 20, 21, 22, 23, 24, 25, 26, 27, 28, 29] (by decide +kernel) (by decide +kernel)
set_option maxRecDepth 20000 in
theorem gX2_isSeen_X2_isAtSeenPlace : GoodIn wsX2_isSeen (wsV RX2 44 RX2 yX2_isAtSeenPlace wsX2_isAtSeenPlace) := goodIn_app (goodIn_of _ (by decide +kernel)) ggX2_isSeen_X2_isAtSeenPlace
theorem dX2_isSeen_0 : decode cX2_isSeen 0 = .ok (.iconst 0, 1) := by decide +kernel
theorem dX2_isSeen_1 : decode cX2_isSeen 1 = .ok (.istore_n 2, 1) := by decide +kernel
theorem dX2_isSeen_2 : decode cX2_isSeen 2 = .ok (.iload_n 2, 1) := by decide +kernel
theorem dX2_isSeen_3 : decode cX2_isSeen 3 = .ok (.aload_n 0, 1) := by decide +kernel
theorem dX2_isSeen_4 : decode cX2_isSeen 4 = .ok (.getfield 24, 3) := by decide +kernel
theorem dX2_isSeen_7 : decode cX2_isSeen 7 = .ok (.getfield 48, 3) := by decide +kernel
theorem dX2_isSeen_10 : decode cX2_isSeen 10 = .ok (.if_icmp .ge 20, 3) := by decide +kernel
theorem dX2_isSeen_13 : decode cX2_isSeen 13 = .ok (.aload_n 0, 1) := by decide +kernel
theorem dX2_isSeen_14 : decode cX2_isSeen 14 = .ok (.iload_n 2, 1) := by decide +kernel
theorem dX2_isSeen_15 : decode cX2_isSeen 15 = .ok (.iload_n 1, 1) := by decide +kernel
theorem dX2_isSeen_16 : decode cX2_isSeen 16 = .ok (.invokevirtual 44, 3) := by decide +kernel
theorem dX2_isSeen_19 : decode cX2_isSeen 19 = .ok (.ifCond .eq 5, 3) := by decide +kernel
theorem dX2_isSeen_22 : decode cX2_isSeen 22 = .ok (.iconst 1, 1) := by decide +kernel
theorem dX2_isSeen_23 : decode cX2_isSeen 23 = .ok (.ireturn, 1) := by decide +kernel
theorem dX2_isSeen_24 : decode cX2_isSeen 24 = .ok (.iinc 2 1, 3) := by decide +kernel
theorem dX2_isSeen_27 : decode cX2_isSeen 27 = .ok (.goto (-25), 3) := by decide +kernel
theorem dX2_isSeen_30 : decode cX2_isSeen 30 = .ok (.iconst 0, 1) := by decide +kernel
theorem dX2_isSeen_31 : decode cX2_isSeen 31 = .ok (.ireturn, 1) := by decide +kernel
set_option maxRecDepth 20000 in
theorem ggX2_mayBeLookedUp_X2_isKnown : GoodIn wsX2_mayBeLookedUp wsX2_isKnown := goodIn_r _ [7, 8, 9, 10, 11, 6, 12, 13, 1, 14, 15, 16, 17, 18, 19, 20, 21, 22, 23, 24, 25, 26, 27, 28, 29, 30, 31, 32, 33, 34, 35, 36, 37, 38, 39] (by decide +kernel) (by decide +kernel)
set_option maxRecDepth 20000 in
theorem gX2_mayBeLookedUp_X2_isKnown : GoodIn wsX2_mayBeLookedUp (wsV RX2 55 RX2 yX2_isKnown wsX2_isKnown) := goodIn_app (goodIn_of _ (by decide +kernel)) ggX2_mayBeLookedUp_X2_isKnown
theorem dX2_mayBeLookedUp_0 : decode cX2_mayBeLookedUp 0 = .ok (.aload_n 0, 1) := by decide +kernel
theorem dX2_mayBeLookedUp_1 : decode cX2_mayBeLookedUp 1 = .ok (.getfield 24, 3) := by decide +kernel
theorem dX2_mayBeLookedUp_4 : decode cX2_mayBeLookedUp 4 = .ok (.getfield 52, 3) := by decide +kernel
theorem dX2_mayBeLookedUp_7 : decode cX2_mayBeLookedUp 7 = .ok (.iload_n 1, 1) := by decide +kernel
theorem dX2_mayBeLookedUp_8 : decode cX2_mayBeLookedUp 8 = .ok (.iaload, 1) := by decide +kernel
theorem dX2_mayBeLookedUp_9 : decode cX2_mayBeLookedUp 9 = .ok (.ifCond .le 16, 3) := by decide +kernel
theorem dX2_mayBeLookedUp_12 : decode cX2_mayBeLookedUp 12 = .ok (.aload_n 0, 1) := by decide +kernel
theorem dX2_mayBeLookedUp_13 : decode cX2_mayBeLookedUp 13 = .ok (.iload_n 1, 1) := by decide +kernel
theorem dX2_mayBeLookedUp_14 : decode cX2_mayBeLookedUp 14 = .ok (.iload_n 2, 1) := by decide +kernel
theorem dX2_mayBeLookedUp_15 : decode cX2_mayBeLookedUp 15 = .ok (.invokevirtual 55, 3) := by decide +kernel
theorem dX2_mayBeLookedUp_18 : decode cX2_mayBeLookedUp 18 = .ok (.ifCond .ne 7, 3) := by decide +kernel
theorem dX2_mayBeLookedUp_21 : decode cX2_mayBeLookedUp 21 = .ok (.iconst 1, 1) := by decide +kernel
theorem dX2_mayBeLookedUp_22 : decode cX2_mayBeLookedUp 22 = .ok (.goto 4, 3) := by decide +kernel
theorem dX2_mayBeLookedUp_25 : decode cX2_mayBeLookedUp 25 = .ok (.iconst 0, 1) := by decide +kernel
theorem dX2_mayBeLookedUp_26 : decode cX2_mayBeLookedUp 26 = .ok (.ireturn, 1) := by decide +kernel
theorem dX2_placesSeen_0 : decode cX2_placesSeen 0 = .ok (.iconst 0, 1) := by decide +kernel
theorem dX2_placesSeen_1 : decode cX2_placesSeen 1 = .ok (.istore_n 1, 1) := by decide +kernel
theorem dX2_placesSeen_2 : decode cX2_placesSeen 2 = .ok (.iconst 0, 1) := by decide +kernel
theorem dX2_placesSeen_3 : decode cX2_placesSeen 3 = .ok (.istore_n 2, 1) := by decide +kernel
theorem dX2_placesSeen_4 : decode cX2_placesSeen 4 = .ok (.iload_n 2, 1) := by decide +kernel
theorem dX2_placesSeen_5 : decode cX2_placesSeen 5 = .ok (.aload_n 0, 1) := by decide +kernel
theorem dX2_placesSeen_6 : decode cX2_placesSeen 6 = .ok (.getfield 24, 3) := by decide +kernel
theorem dX2_placesSeen_9 : decode cX2_placesSeen 9 = .ok (.getfield 48, 3) := by decide +kernel
theorem dX2_placesSeen_12 : decode cX2_placesSeen 12 = .ok (.if_icmp .ge 18, 3) := by decide +kernel
theorem dX2_placesSeen_15 : decode cX2_placesSeen 15 = .ok (.iload_n 1, 1) := by decide +kernel
theorem dX2_placesSeen_16 : decode cX2_placesSeen 16 = .ok (.aload_n 0, 1) := by decide +kernel
theorem dX2_placesSeen_17 : decode cX2_placesSeen 17 = .ok (.getfield 9, 3) := by decide +kernel
theorem dX2_placesSeen_20 : decode cX2_placesSeen 20 = .ok (.iload_n 2, 1) := by decide +kernel
theorem dX2_placesSeen_21 : decode cX2_placesSeen 21 = .ok (.iaload, 1) := by decide +kernel
theorem dX2_placesSeen_22 : decode cX2_placesSeen 22 = .ok (.iadd, 1) := by decide +kernel
theorem dX2_placesSeen_23 : decode cX2_placesSeen 23 = .ok (.istore_n 1, 1) := by decide +kernel
theorem dX2_placesSeen_24 : decode cX2_placesSeen 24 = .ok (.iinc 2 1, 3) := by decide +kernel
theorem dX2_placesSeen_27 : decode cX2_placesSeen 27 = .ok (.goto (-23), 3) := by decide +kernel
theorem dX2_placesSeen_30 : decode cX2_placesSeen 30 = .ok (.iload_n 1, 1) := by decide +kernel
theorem dX2_placesSeen_31 : decode cX2_placesSeen 31 = .ok (.ireturn, 1) := by decide +kernel
set_option maxRecDepth 20000 in
theorem ggX2_thingsSeen_X2_isSeen : GoodIn wsX2_thingsSeen wsX2_isSeen := goodIn_r _ [7, 1, 8, 9, 10, 11, 6, 12, 13, 14, 15, 19, 20, 21, 22, 23, 24, 25, 26, 27, 28, 29, 30, 31, 32, 33, 34, 35, 36, 37] (by decide +kernel) (by decide +kernel)
set_option maxRecDepth 20000 in
theorem gX2_thingsSeen_X2_isSeen : GoodIn wsX2_thingsSeen (wsV RX2 61 RX2 yX2_isSeen wsX2_isSeen) := goodIn_app (goodIn_of _ (by decide +kernel)) ggX2_thingsSeen_X2_isSeen
set_option maxRecDepth 20000 in
theorem ggX2_thingsSeen_X4_yes : GoodIn wsX2_thingsSeen wsX4_yes := goodIn_r _ [18] (by decide +kernel) (by decide +kernel)
set_option maxRecDepth 20000 in
theorem gX2_thingsSeen_X4_yes_n64 : GoodIn wsX2_thingsSeen (wsX4_yes) := ggX2_thingsSeen_X4_yes
theorem dX2_thingsSeen_0 : decode cX2_thingsSeen 0 = .ok (.iconst 0, 1) := by decide +kernel
theorem dX2_thingsSeen_1 : decode cX2_thingsSeen 1 = .ok (.istore_n 1, 1) := by decide +kernel
theorem dX2_thingsSeen_2 : decode cX2_thingsSeen 2 = .ok (.iconst 0, 1) := by decide +kernel
theorem dX2_thingsSeen_3 : decode cX2_thingsSeen 3 = .ok (.istore_n 2, 1) := by decide +kernel
theorem dX2_thingsSeen_4 : decode cX2_thingsSeen 4 = .ok (.iload_n 2, 1) := by decide +kernel
theorem dX2_thingsSeen_5 : decode cX2_thingsSeen 5 = .ok (.aload_n 0, 1) := by decide +kernel
theorem dX2_thingsSeen_6 : decode cX2_thingsSeen 6 = .ok (.getfield 24, 3) := by decide +kernel
theorem dX2_thingsSeen_9 : decode cX2_thingsSeen 9 = .ok (.getfield 58, 3) := by decide +kernel
theorem dX2_thingsSeen_12 : decode cX2_thingsSeen 12 = .ok (.if_icmp .ge 20, 3) := by decide +kernel
theorem dX2_thingsSeen_15 : decode cX2_thingsSeen 15 = .ok (.iload_n 1, 1) := by decide +kernel
theorem dX2_thingsSeen_16 : decode cX2_thingsSeen 16 = .ok (.aload_n 0, 1) := by decide +kernel
theorem dX2_thingsSeen_17 : decode cX2_thingsSeen 17 = .ok (.iload_n 2, 1) := by decide +kernel
theorem dX2_thingsSeen_18 : decode cX2_thingsSeen 18 = .ok (.invokevirtual 61, 3) := by decide +kernel
theorem dX2_thingsSeen_21 : decode cX2_thingsSeen 21 = .ok (.invokestatic 64, 3) := by decide +kernel
theorem dX2_thingsSeen_24 : decode cX2_thingsSeen 24 = .ok (.iadd, 1) := by decide +kernel
theorem dX2_thingsSeen_25 : decode cX2_thingsSeen 25 = .ok (.istore_n 1, 1) := by decide +kernel
theorem dX2_thingsSeen_26 : decode cX2_thingsSeen 26 = .ok (.iinc 2 1, 3) := by decide +kernel
theorem dX2_thingsSeen_29 : decode cX2_thingsSeen 29 = .ok (.goto (-25), 3) := by decide +kernel
theorem dX2_thingsSeen_32 : decode cX2_thingsSeen 32 = .ok (.iload_n 1, 1) := by decide +kernel
theorem dX2_thingsSeen_33 : decode cX2_thingsSeen 33 = .ok (.ireturn, 1) := by decide +kernel
set_option maxRecDepth 20000 in
theorem ggX2_topOf_X2_isWhole : GoodIn wsX2_topOf wsX2_isWhole := goodIn_r _ [9, 1, 2, 10, 11, 12, 13, 14, 15, 16, 17, 18, 19, 20, 21, 22, 23, 24, 25, 26, 27, 28, 29] (by decide +kernel) (by decide +kernel)
set_option maxRecDepth 20000 in
theorem gX2_topOf_X2_isWhole : GoodIn wsX2_topOf (wsV RX2 40 RX2 yX2_isWhole wsX2_isWhole) := goodIn_app (goodIn_of _ (by decide +kernel)) ggX2_topOf_X2_isWhole
theorem dX2_topOf_0 : decode cX2_topOf 0 = .ok (.aload_n 0, 1) := by decide +kernel
theorem dX2_topOf_1 : decode cX2_topOf 1 = .ok (.iload_n 1, 1) := by decide +kernel
theorem dX2_topOf_2 : decode cX2_topOf 2 = .ok (.invokevirtual 40, 3) := by decide +kernel
theorem dX2_topOf_5 : decode cX2_topOf 5 = .ok (.ifCond .eq 5, 3) := by decide +kernel
theorem dX2_topOf_8 : decode cX2_topOf 8 = .ok (.iconst 0, 1) := by decide +kernel
theorem dX2_topOf_9 : decode cX2_topOf 9 = .ok (.ireturn, 1) := by decide +kernel
theorem dX2_topOf_10 : decode cX2_topOf 10 = .ok (.aload_n 0, 1) := by decide +kernel
theorem dX2_topOf_11 : decode cX2_topOf 11 = .ok (.getfield 9, 3) := by decide +kernel
theorem dX2_topOf_14 : decode cX2_topOf 14 = .ok (.iload_n 1, 1) := by decide +kernel
theorem dX2_topOf_15 : decode cX2_topOf 15 = .ok (.iaload, 1) := by decide +kernel
theorem dX2_topOf_16 : decode cX2_topOf 16 = .ok (.istore_n 2, 1) := by decide +kernel
theorem dX2_topOf_17 : decode cX2_topOf 17 = .ok (.iload_n 2, 1) := by decide +kernel
theorem dX2_topOf_18 : decode cX2_topOf 18 = .ok (.ifCond .ne 9, 3) := by decide +kernel
theorem dX2_topOf_21 : decode cX2_topOf 21 = .ok (.sipush 1000, 3) := by decide +kernel
theorem dX2_topOf_24 : decode cX2_topOf 24 = .ok (.goto 26, 3) := by decide +kernel
theorem dX2_topOf_27 : decode cX2_topOf 27 = .ok (.aload_n 0, 1) := by decide +kernel
theorem dX2_topOf_28 : decode cX2_topOf 28 = .ok (.getfield 24, 3) := by decide +kernel
theorem dX2_topOf_31 : decode cX2_topOf 31 = .ok (.getfield 33, 3) := by decide +kernel
theorem dX2_topOf_34 : decode cX2_topOf 34 = .ok (.iload_n 1, 1) := by decide +kernel
theorem dX2_topOf_35 : decode cX2_topOf 35 = .ok (.aaload, 1) := by decide +kernel
theorem dX2_topOf_36 : decode cX2_topOf 36 = .ok (.aload_n 0, 1) := by decide +kernel
theorem dX2_topOf_37 : decode cX2_topOf 37 = .ok (.getfield 24, 3) := by decide +kernel
theorem dX2_topOf_40 : decode cX2_topOf 40 = .ok (.getfield 68, 3) := by decide +kernel
theorem dX2_topOf_43 : decode cX2_topOf 43 = .ok (.iload_n 1, 1) := by decide +kernel
theorem dX2_topOf_44 : decode cX2_topOf 44 = .ok (.aaload, 1) := by decide +kernel
theorem dX2_topOf_45 : decode cX2_topOf 45 = .ok (.iload_n 2, 1) := by decide +kernel
theorem dX2_topOf_46 : decode cX2_topOf 46 = .ok (.iconst 1, 1) := by decide +kernel
theorem dX2_topOf_47 : decode cX2_topOf 47 = .ok (.isub, 1) := by decide +kernel
theorem dX2_topOf_48 : decode cX2_topOf 48 = .ok (.iaload, 1) := by decide +kernel
theorem dX2_topOf_49 : decode cX2_topOf 49 = .ok (.iaload, 1) := by decide +kernel
theorem dX2_topOf_50 : decode cX2_topOf 50 = .ok (.ireturn, 1) := by decide +kernel
set_option maxRecDepth 20000 in
theorem ggX2_lowOf_X2_isKnown : GoodIn wsX2_lowOf wsX2_isKnown := goodIn_r _ [9, 10, 11, 12, 13, 8, 14, 15, 1, 16, 17, 18, 19, 20, 4, 21, 37, 38, 39, 40, 41, 42, 43, 44, 45, 46, 47, 48, 49, 50, 51, 52, 53, 54, 55] (by decide +kernel) (by decide +kernel)
set_option maxRecDepth 20000 in
theorem gX2_lowOf_X2_isKnown : GoodIn wsX2_lowOf (wsV RX2 55 RX2 yX2_isKnown wsX2_isKnown) := goodIn_app (goodIn_of _ (by decide +kernel)) ggX2_lowOf_X2_isKnown
set_option maxRecDepth 20000 in
theorem ggX2_lowOf_X0_combined : GoodIn wsX2_lowOf wsX0_combined := goodIn_r _ [26, 27, 28, 29, 30, 31, 32, 33, 34, 35, 36, 43, 44, 45, 46, 47, 48, 49, 50, 51, 52, 53, 54, 55] (by decide +kernel) (by decide +kernel)
set_option maxRecDepth 20000 in
theorem gX2_lowOf_X0_combined : GoodIn wsX2_lowOf (wsV RX2 71 RX0 yX0_combined wsX0_combined) := goodIn_app (goodIn_of _ (by decide +kernel)) ggX2_lowOf_X0_combined
theorem dX2_lowOf_0 : decode cX2_lowOf 0 = .ok (.iconst 0, 1) := by decide +kernel
theorem dX2_lowOf_1 : decode cX2_lowOf 1 = .ok (.istore_n 2, 1) := by decide +kernel
theorem dX2_lowOf_2 : decode cX2_lowOf 2 = .ok (.iload_n 2, 1) := by decide +kernel
theorem dX2_lowOf_3 : decode cX2_lowOf 3 = .ok (.aload_n 0, 1) := by decide +kernel
theorem dX2_lowOf_4 : decode cX2_lowOf 4 = .ok (.getfield 24, 3) := by decide +kernel
theorem dX2_lowOf_7 : decode cX2_lowOf 7 = .ok (.getfield 48, 3) := by decide +kernel
theorem dX2_lowOf_10 : decode cX2_lowOf 10 = .ok (.if_icmp .ge 39, 3) := by decide +kernel
theorem dX2_lowOf_13 : decode cX2_lowOf 13 = .ok (.aload_n 0, 1) := by decide +kernel
theorem dX2_lowOf_14 : decode cX2_lowOf 14 = .ok (.getfield 18, 3) := by decide +kernel
theorem dX2_lowOf_17 : decode cX2_lowOf 17 = .ok (.iload_n 2, 1) := by decide +kernel
theorem dX2_lowOf_18 : decode cX2_lowOf 18 = .ok (.aload_n 0, 1) := by decide +kernel
theorem dX2_lowOf_19 : decode cX2_lowOf 19 = .ok (.iload_n 2, 1) := by decide +kernel
theorem dX2_lowOf_20 : decode cX2_lowOf 20 = .ok (.iload_n 1, 1) := by decide +kernel
theorem dX2_lowOf_21 : decode cX2_lowOf 21 = .ok (.invokevirtual 55, 3) := by decide +kernel
theorem dX2_lowOf_24 : decode cX2_lowOf 24 = .ok (.ifCond .eq 17, 3) := by decide +kernel
theorem dX2_lowOf_27 : decode cX2_lowOf 27 = .ok (.aload_n 0, 1) := by decide +kernel
theorem dX2_lowOf_28 : decode cX2_lowOf 28 = .ok (.getfield 24, 3) := by decide +kernel
theorem dX2_lowOf_31 : decode cX2_lowOf 31 = .ok (.getfield 33, 3) := by decide +kernel
theorem dX2_lowOf_34 : decode cX2_lowOf 34 = .ok (.iload_n 2, 1) := by decide +kernel
theorem dX2_lowOf_35 : decode cX2_lowOf 35 = .ok (.aaload, 1) := by decide +kernel
theorem dX2_lowOf_36 : decode cX2_lowOf 36 = .ok (.iload_n 1, 1) := by decide +kernel
theorem dX2_lowOf_37 : decode cX2_lowOf 37 = .ok (.iaload, 1) := by decide +kernel
theorem dX2_lowOf_38 : decode cX2_lowOf 38 = .ok (.goto 4, 3) := by decide +kernel
theorem dX2_lowOf_41 : decode cX2_lowOf 41 = .ok (.iconst 0, 1) := by decide +kernel
theorem dX2_lowOf_42 : decode cX2_lowOf 42 = .ok (.iastore, 1) := by decide +kernel
theorem dX2_lowOf_43 : decode cX2_lowOf 43 = .ok (.iinc 2 1, 3) := by decide +kernel
theorem dX2_lowOf_46 : decode cX2_lowOf 46 = .ok (.goto (-44), 3) := by decide +kernel
theorem dX2_lowOf_49 : decode cX2_lowOf 49 = .ok (.aload_n 0, 1) := by decide +kernel
theorem dX2_lowOf_50 : decode cX2_lowOf 50 = .ok (.getfield 24, 3) := by decide +kernel
theorem dX2_lowOf_53 : decode cX2_lowOf 53 = .ok (.aload_n 0, 1) := by decide +kernel
theorem dX2_lowOf_54 : decode cX2_lowOf 54 = .ok (.getfield 18, 3) := by decide +kernel
theorem dX2_lowOf_57 : decode cX2_lowOf 57 = .ok (.invokevirtual 71, 3) := by decide +kernel
theorem dX2_lowOf_60 : decode cX2_lowOf 60 = .ok (.ireturn, 1) := by decide +kernel
set_option maxRecDepth 20000 in
theorem ggX2_highOf_X2_isKnown : GoodIn wsX2_highOf wsX2_isKnown := goodIn_r _ [9, 10, 11, 12, 13, 8, 14, 15, 1, 16, 17, 18, 19, 20, 4, 21, 42, 43, 44, 45, 46, 47, 48, 49, 50, 51, 52, 53, 54, 55, 56, 57, 58, 59, 60] (by decide +kernel) (by decide +kernel)
set_option maxRecDepth 20000 in
theorem gX2_highOf_X2_isKnown : GoodIn wsX2_highOf (wsV RX2 55 RX2 yX2_isKnown wsX2_isKnown) := goodIn_app (goodIn_of _ (by decide +kernel)) ggX2_highOf_X2_isKnown
set_option maxRecDepth 20000 in
theorem ggX2_highOf_X2_topOf : GoodIn wsX2_highOf wsX2_topOf := goodIn_r _ [25, 15, 1, 4, 26, 11, 12, 13, 8, 14, 16, 42, 43, 44, 45, 46, 47, 48, 49, 50, 51, 52, 53, 54, 55, 56, 57, 58, 59, 60] (by decide +kernel) (by decide +kernel)
set_option maxRecDepth 20000 in
theorem gX2_highOf_X2_topOf : GoodIn wsX2_highOf (wsV RX2 75 RX2 yX2_topOf wsX2_topOf) := goodIn_app (goodIn_of _ (by decide +kernel)) ggX2_highOf_X2_topOf
set_option maxRecDepth 20000 in
theorem ggX2_highOf_X0_combined : GoodIn wsX2_highOf wsX0_combined := goodIn_r _ [31, 32, 33, 34, 35, 36, 37, 38, 39, 40, 41, 48, 49, 50, 51, 52, 53, 54, 55, 56, 57, 58, 59, 60] (by decide +kernel) (by decide +kernel)
set_option maxRecDepth 20000 in
theorem gX2_highOf_X0_combined : GoodIn wsX2_highOf (wsV RX2 71 RX0 yX0_combined wsX0_combined) := goodIn_app (goodIn_of _ (by decide +kernel)) ggX2_highOf_X0_combined
theorem dX2_highOf_0 : decode cX2_highOf 0 = .ok (.iconst 0, 1) := by decide +kernel
theorem dX2_highOf_1 : decode cX2_highOf 1 = .ok (.istore_n 2, 1) := by decide +kernel
theorem dX2_highOf_2 : decode cX2_highOf 2 = .ok (.iload_n 2, 1) := by decide +kernel
theorem dX2_highOf_3 : decode cX2_highOf 3 = .ok (.aload_n 0, 1) := by decide +kernel
theorem dX2_highOf_4 : decode cX2_highOf 4 = .ok (.getfield 24, 3) := by decide +kernel
theorem dX2_highOf_7 : decode cX2_highOf 7 = .ok (.getfield 48, 3) := by decide +kernel
theorem dX2_highOf_10 : decode cX2_highOf 10 = .ok (.if_icmp .ge 43, 3) := by decide +kernel
theorem dX2_highOf_13 : decode cX2_highOf 13 = .ok (.aload_n 0, 1) := by decide +kernel
theorem dX2_highOf_14 : decode cX2_highOf 14 = .ok (.getfield 18, 3) := by decide +kernel
theorem dX2_highOf_17 : decode cX2_highOf 17 = .ok (.iload_n 2, 1) := by decide +kernel
theorem dX2_highOf_18 : decode cX2_highOf 18 = .ok (.aload_n 0, 1) := by decide +kernel
theorem dX2_highOf_19 : decode cX2_highOf 19 = .ok (.iload_n 2, 1) := by decide +kernel
theorem dX2_highOf_20 : decode cX2_highOf 20 = .ok (.iload_n 1, 1) := by decide +kernel
theorem dX2_highOf_21 : decode cX2_highOf 21 = .ok (.invokevirtual 55, 3) := by decide +kernel
theorem dX2_highOf_24 : decode cX2_highOf 24 = .ok (.ifCond .eq 17, 3) := by decide +kernel
theorem dX2_highOf_27 : decode cX2_highOf 27 = .ok (.aload_n 0, 1) := by decide +kernel
theorem dX2_highOf_28 : decode cX2_highOf 28 = .ok (.getfield 24, 3) := by decide +kernel
theorem dX2_highOf_31 : decode cX2_highOf 31 = .ok (.getfield 33, 3) := by decide +kernel
theorem dX2_highOf_34 : decode cX2_highOf 34 = .ok (.iload_n 2, 1) := by decide +kernel
theorem dX2_highOf_35 : decode cX2_highOf 35 = .ok (.aaload, 1) := by decide +kernel
theorem dX2_highOf_36 : decode cX2_highOf 36 = .ok (.iload_n 1, 1) := by decide +kernel
theorem dX2_highOf_37 : decode cX2_highOf 37 = .ok (.iaload, 1) := by decide +kernel
theorem dX2_highOf_38 : decode cX2_highOf 38 = .ok (.goto 8, 3) := by decide +kernel
theorem dX2_highOf_41 : decode cX2_highOf 41 = .ok (.aload_n 0, 1) := by decide +kernel
theorem dX2_highOf_42 : decode cX2_highOf 42 = .ok (.iload_n 2, 1) := by decide +kernel
theorem dX2_highOf_43 : decode cX2_highOf 43 = .ok (.invokevirtual 75, 3) := by decide +kernel
theorem dX2_highOf_46 : decode cX2_highOf 46 = .ok (.iastore, 1) := by decide +kernel
theorem dX2_highOf_47 : decode cX2_highOf 47 = .ok (.iinc 2 1, 3) := by decide +kernel
theorem dX2_highOf_50 : decode cX2_highOf 50 = .ok (.goto (-48), 3) := by decide +kernel
theorem dX2_highOf_53 : decode cX2_highOf 53 = .ok (.aload_n 0, 1) := by decide +kernel
theorem dX2_highOf_54 : decode cX2_highOf 54 = .ok (.getfield 24, 3) := by decide +kernel
theorem dX2_highOf_57 : decode cX2_highOf 57 = .ok (.aload_n 0, 1) := by decide +kernel
theorem dX2_highOf_58 : decode cX2_highOf 58 = .ok (.getfield 18, 3) := by decide +kernel
theorem dX2_highOf_61 : decode cX2_highOf 61 = .ok (.invokevirtual 71, 3) := by decide +kernel
theorem dX2_highOf_64 : decode cX2_highOf 64 = .ok (.ireturn, 1) := by decide +kernel
set_option maxRecDepth 20000 in
theorem ggX2_isSure_X2_lowOf : GoodIn wsX2_isSure wsX2_lowOf := goodIn_r _ [8, 1, 9, 10, 11, 12, 13, 14, 7, 15, 16, 17, 18, 19, 20, 21, 22, 23, 24, 25, 26, 27, 28, 29, 30, 31, 32, 33, 34, 35, 36, 37, 38, 39, 40, 41, 42, 69, 70, 71, 72, 73, 74, 75, 76, 77, 78, 79, 80, 81, 82, 83, 84, 85, 86, 87] (by decide +kernel) (by decide +kernel)
set_option maxRecDepth 20000 in
theorem gX2_isSure_X2_lowOf : GoodIn wsX2_isSure (wsV RX2 79 RX2 yX2_lowOf wsX2_lowOf) := goodIn_app (goodIn_of _ (by decide +kernel)) ggX2_isSure_X2_lowOf
set_option maxRecDepth 20000 in
theorem ggX2_isSure_X2_chooseByLow : GoodIn wsX2_isSure wsX2_chooseByLow := goodIn_r _ [46, 47, 1, 2, 48, 36, 37, 38, 49, 50, 51, 7, 52, 3, 53, 54, 55, 56, 69, 70, 71, 72, 73, 74, 75, 76, 77, 78, 79, 80, 81, 82, 83, 84, 85, 86, 87] (by decide +kernel) (by decide +kernel)
set_option maxRecDepth 20000 in
theorem gX2_isSure_X2_chooseByLow : GoodIn wsX2_isSure (wsV RX2 82 RX2 yX2_chooseByLow wsX2_chooseByLow) := goodIn_app (goodIn_of _ (by decide +kernel)) ggX2_isSure_X2_chooseByLow
set_option maxRecDepth 20000 in
theorem ggX2_isSure_X2_isFound : GoodIn wsX2_isSure wsX2_isFound := goodIn_r _ [56, 47, 69, 70, 71, 72, 73, 74] (by decide +kernel) (by decide +kernel)
set_option maxRecDepth 20000 in
theorem gX2_isSure_X2_isFound : GoodIn wsX2_isSure (wsV RX2 85 RX2 yX2_isFound wsX2_isFound) := goodIn_app (goodIn_of _ (by decide +kernel)) ggX2_isSure_X2_isFound
set_option maxRecDepth 20000 in
theorem ggX2_isSure_X2_highOf : GoodIn wsX2_isSure wsX2_highOf := goodIn_r _ [60, 1, 9, 10, 11, 12, 13, 14, 7, 15, 16, 17, 18, 19, 20, 21, 22, 23, 24, 25, 26, 27, 61, 62, 63, 64, 65, 28, 29, 30, 31, 32, 33, 34, 35, 36, 37, 38, 39, 40, 41, 42, 69, 70, 71, 72, 73, 74, 75, 76, 77, 78, 79, 80, 81, 82, 83, 84, 85, 86, 87] (by decide +kernel) (by decide +kernel)
set_option maxRecDepth 20000 in
theorem gX2_isSure_X2_highOf : GoodIn wsX2_isSure (wsV RX2 88 RX2 yX2_highOf wsX2_highOf) := goodIn_app (goodIn_of _ (by decide +kernel)) ggX2_isSure_X2_highOf
set_option maxRecDepth 20000 in
theorem ggX2_isSure_X4_comesFirst : GoodIn wsX2_isSure wsX4_comesFirst := goodIn_r _ [68] (by decide +kernel) (by decide +kernel)
set_option maxRecDepth 20000 in
theorem gX2_isSure_X4_comesFirst_n91 : GoodIn wsX2_isSure (wsX4_comesFirst) := ggX2_isSure_X4_comesFirst
theorem dX2_isSure_0 : decode cX2_isSure 0 = .ok (.iconst 0, 1) := by decide +kernel
theorem dX2_isSure_1 : decode cX2_isSure 1 = .ok (.istore_n 2, 1) := by decide +kernel
theorem dX2_isSure_2 : decode cX2_isSure 2 = .ok (.iload_n 2, 1) := by decide +kernel
theorem dX2_isSure_3 : decode cX2_isSure 3 = .ok (.aload_n 0, 1) := by decide +kernel
theorem dX2_isSure_4 : decode cX2_isSure 4 = .ok (.getfield 24, 3) := by decide +kernel
theorem dX2_isSure_7 : decode cX2_isSure 7 = .ok (.getfield 58, 3) := by decide +kernel
theorem dX2_isSure_10 : decode cX2_isSure 10 = .ok (.if_icmp .ge 20, 3) := by decide +kernel
theorem dX2_isSure_13 : decode cX2_isSure 13 = .ok (.aload_n 0, 1) := by decide +kernel
theorem dX2_isSure_14 : decode cX2_isSure 14 = .ok (.getfield 21, 3) := by decide +kernel
theorem dX2_isSure_17 : decode cX2_isSure 17 = .ok (.iload_n 2, 1) := by decide +kernel
theorem dX2_isSure_18 : decode cX2_isSure 18 = .ok (.aload_n 0, 1) := by decide +kernel
theorem dX2_isSure_19 : decode cX2_isSure 19 = .ok (.iload_n 2, 1) := by decide +kernel
theorem dX2_isSure_20 : decode cX2_isSure 20 = .ok (.invokevirtual 79, 3) := by decide +kernel
theorem dX2_isSure_23 : decode cX2_isSure 23 = .ok (.iastore, 1) := by decide +kernel
theorem dX2_isSure_24 : decode cX2_isSure 24 = .ok (.iinc 2 1, 3) := by decide +kernel
theorem dX2_isSure_27 : decode cX2_isSure 27 = .ok (.goto (-25), 3) := by decide +kernel
theorem dX2_isSure_30 : decode cX2_isSure 30 = .ok (.aload_n 0, 1) := by decide +kernel
theorem dX2_isSure_31 : decode cX2_isSure 31 = .ok (.iload_n 1, 1) := by decide +kernel
theorem dX2_isSure_32 : decode cX2_isSure 32 = .ok (.invokevirtual 82, 3) := by decide +kernel
theorem dX2_isSure_35 : decode cX2_isSure 35 = .ok (.istore_n 2, 1) := by decide +kernel
theorem dX2_isSure_36 : decode cX2_isSure 36 = .ok (.iload_n 2, 1) := by decide +kernel
theorem dX2_isSure_37 : decode cX2_isSure 37 = .ok (.iconst (-1), 1) := by decide +kernel
theorem dX2_isSure_38 : decode cX2_isSure 38 = .ok (.if_icmp .ne 5, 3) := by decide +kernel
theorem dX2_isSure_41 : decode cX2_isSure 41 = .ok (.iconst 0, 1) := by decide +kernel
theorem dX2_isSure_42 : decode cX2_isSure 42 = .ok (.ireturn, 1) := by decide +kernel
theorem dX2_isSure_43 : decode cX2_isSure 43 = .ok (.iconst 0, 1) := by decide +kernel
theorem dX2_isSure_44 : decode cX2_isSure 44 = .ok (.istore_n 3, 1) := by decide +kernel
theorem dX2_isSure_45 : decode cX2_isSure 45 = .ok (.iload_n 3, 1) := by decide +kernel
theorem dX2_isSure_46 : decode cX2_isSure 46 = .ok (.aload_n 0, 1) := by decide +kernel
theorem dX2_isSure_47 : decode cX2_isSure 47 = .ok (.getfield 24, 3) := by decide +kernel
theorem dX2_isSure_50 : decode cX2_isSure 50 = .ok (.getfield 58, 3) := by decide +kernel
theorem dX2_isSure_53 : decode cX2_isSure 53 = .ok (.if_icmp .ge 38, 3) := by decide +kernel
theorem dX2_isSure_56 : decode cX2_isSure 56 = .ok (.aload_n 0, 1) := by decide +kernel
theorem dX2_isSure_57 : decode cX2_isSure 57 = .ok (.iload_n 3, 1) := by decide +kernel
theorem dX2_isSure_58 : decode cX2_isSure 58 = .ok (.invokevirtual 85, 3) := by decide +kernel
theorem dX2_isSure_61 : decode cX2_isSure 61 = .ok (.ifCond .ne 24, 3) := by decide +kernel
theorem dX2_isSure_64 : decode cX2_isSure 64 = .ok (.iload_n 2, 1) := by decide +kernel
theorem dX2_isSure_65 : decode cX2_isSure 65 = .ok (.aload_n 0, 1) := by decide +kernel
theorem dX2_isSure_66 : decode cX2_isSure 66 = .ok (.getfield 21, 3) := by decide +kernel
theorem dX2_isSure_69 : decode cX2_isSure 69 = .ok (.iload_n 2, 1) := by decide +kernel
theorem dX2_isSure_70 : decode cX2_isSure 70 = .ok (.iaload, 1) := by decide +kernel
theorem dX2_isSure_71 : decode cX2_isSure 71 = .ok (.iload_n 3, 1) := by decide +kernel
theorem dX2_isSure_72 : decode cX2_isSure 72 = .ok (.aload_n 0, 1) := by decide +kernel
theorem dX2_isSure_73 : decode cX2_isSure 73 = .ok (.iload_n 3, 1) := by decide +kernel
theorem dX2_isSure_74 : decode cX2_isSure 74 = .ok (.invokevirtual 88, 3) := by decide +kernel
theorem dX2_isSure_77 : decode cX2_isSure 77 = .ok (.invokestatic 91, 3) := by decide +kernel
theorem dX2_isSure_80 : decode cX2_isSure 80 = .ok (.ifCond .ne 5, 3) := by decide +kernel
theorem dX2_isSure_83 : decode cX2_isSure 83 = .ok (.iconst 0, 1) := by decide +kernel
theorem dX2_isSure_84 : decode cX2_isSure 84 = .ok (.ireturn, 1) := by decide +kernel
theorem dX2_isSure_85 : decode cX2_isSure 85 = .ok (.iinc 3 1, 3) := by decide +kernel
theorem dX2_isSure_88 : decode cX2_isSure 88 = .ok (.goto (-43), 3) := by decide +kernel
theorem dX2_isSure_91 : decode cX2_isSure 91 = .ok (.iconst 1, 1) := by decide +kernel
theorem dX2_isSure_92 : decode cX2_isSure 92 = .ok (.ireturn, 1) := by decide +kernel
set_option maxRecDepth 20000 in
theorem ggX2_chooseByLow_X2_firstLeftByLow : GoodIn wsX2_chooseByLow wsX2_firstLeftByLow := goodIn_r _ [12, 2, 3, 13, 14, 15, 16, 11, 17, 1, 18, 19, 20, 21, 22, 23, 24, 25, 26, 27, 28, 29, 30, 31, 32, 33, 34, 35, 36] (by decide +kernel) (by decide +kernel)
set_option maxRecDepth 20000 in
theorem gX2_chooseByLow_X2_firstLeftByLow : GoodIn wsX2_chooseByLow (wsV RX2 104 RX2 yX2_firstLeftByLow wsX2_firstLeftByLow) := goodIn_app (goodIn_of _ (by decide +kernel)) ggX2_chooseByLow_X2_firstLeftByLow
theorem dX2_chooseByLow_0 : decode cX2_chooseByLow 0 = .ok (.aload_n 0, 1) := by decide +kernel
theorem dX2_chooseByLow_1 : decode cX2_chooseByLow 1 = .ok (.iconst 0, 1) := by decide +kernel
theorem dX2_chooseByLow_2 : decode cX2_chooseByLow 2 = .ok (.putfield 95, 3) := by decide +kernel
theorem dX2_chooseByLow_5 : decode cX2_chooseByLow 5 = .ok (.iconst (-1), 1) := by decide +kernel
theorem dX2_chooseByLow_6 : decode cX2_chooseByLow 6 = .ok (.istore_n 2, 1) := by decide +kernel
theorem dX2_chooseByLow_7 : decode cX2_chooseByLow 7 = .ok (.iconst 0, 1) := by decide +kernel
theorem dX2_chooseByLow_8 : decode cX2_chooseByLow 8 = .ok (.istore_n 3, 1) := by decide +kernel
theorem dX2_chooseByLow_9 : decode cX2_chooseByLow 9 = .ok (.iload_n 3, 1) := by decide +kernel
theorem dX2_chooseByLow_10 : decode cX2_chooseByLow 10 = .ok (.iload_n 1, 1) := by decide +kernel
theorem dX2_chooseByLow_11 : decode cX2_chooseByLow 11 = .ok (.aload_n 0, 1) := by decide +kernel
theorem dX2_chooseByLow_12 : decode cX2_chooseByLow 12 = .ok (.getfield 24, 3) := by decide +kernel
theorem dX2_chooseByLow_15 : decode cX2_chooseByLow 15 = .ok (.getfield 58, 3) := by decide +kernel
theorem dX2_chooseByLow_18 : decode cX2_chooseByLow 18 = .ok (.invokestatic 98, 3) := by decide +kernel
theorem dX2_chooseByLow_21 : decode cX2_chooseByLow 21 = .ok (.if_icmp .ge 26, 3) := by decide +kernel
theorem dX2_chooseByLow_24 : decode cX2_chooseByLow 24 = .ok (.aload_n 0, 1) := by decide +kernel
theorem dX2_chooseByLow_25 : decode cX2_chooseByLow 25 = .ok (.invokevirtual 104, 3) := by decide +kernel
theorem dX2_chooseByLow_28 : decode cX2_chooseByLow 28 = .ok (.istore_n 2, 1) := by decide +kernel
theorem dX2_chooseByLow_29 : decode cX2_chooseByLow 29 = .ok (.aload_n 0, 1) := by decide +kernel
theorem dX2_chooseByLow_30 : decode cX2_chooseByLow 30 = .ok (.dup, 1) := by decide +kernel
theorem dX2_chooseByLow_31 : decode cX2_chooseByLow 31 = .ok (.getfield 95, 3) := by decide +kernel
theorem dX2_chooseByLow_34 : decode cX2_chooseByLow 34 = .ok (.iconst 1, 1) := by decide +kernel
theorem dX2_chooseByLow_35 : decode cX2_chooseByLow 35 = .ok (.iload_n 2, 1) := by decide +kernel
theorem dX2_chooseByLow_36 : decode cX2_chooseByLow 36 = .ok (.ishl, 1) := by decide +kernel
theorem dX2_chooseByLow_37 : decode cX2_chooseByLow 37 = .ok (.ior, 1) := by decide +kernel
theorem dX2_chooseByLow_38 : decode cX2_chooseByLow 38 = .ok (.putfield 95, 3) := by decide +kernel
theorem dX2_chooseByLow_41 : decode cX2_chooseByLow 41 = .ok (.iinc 3 1, 3) := by decide +kernel
theorem dX2_chooseByLow_44 : decode cX2_chooseByLow 44 = .ok (.goto (-35), 3) := by decide +kernel
theorem dX2_chooseByLow_47 : decode cX2_chooseByLow 47 = .ok (.iload_n 2, 1) := by decide +kernel
theorem dX2_chooseByLow_48 : decode cX2_chooseByLow 48 = .ok (.ireturn, 1) := by decide +kernel
set_option maxRecDepth 20000 in
theorem ggX2_firstLeftByLow_X2_isFound : GoodIn wsX2_firstLeftByLow wsX2_isFound := goodIn_r _ [8, 9, 10, 11, 12, 13, 14, 15] (by decide +kernel) (by decide +kernel)
set_option maxRecDepth 20000 in
theorem gX2_firstLeftByLow_X2_isFound : GoodIn wsX2_firstLeftByLow (wsV RX2 85 RX2 yX2_isFound wsX2_isFound) := goodIn_app (goodIn_of _ (by decide +kernel)) ggX2_firstLeftByLow_X2_isFound
theorem dX2_firstLeftByLow_0 : decode cX2_firstLeftByLow 0 = .ok (.iconst (-1), 1) := by decide +kernel
theorem dX2_firstLeftByLow_1 : decode cX2_firstLeftByLow 1 = .ok (.istore_n 1, 1) := by decide +kernel
theorem dX2_firstLeftByLow_2 : decode cX2_firstLeftByLow 2 = .ok (.iconst 0, 1) := by decide +kernel
theorem dX2_firstLeftByLow_3 : decode cX2_firstLeftByLow 3 = .ok (.istore_n 2, 1) := by decide +kernel
theorem dX2_firstLeftByLow_4 : decode cX2_firstLeftByLow 4 = .ok (.iload_n 2, 1) := by decide +kernel
theorem dX2_firstLeftByLow_5 : decode cX2_firstLeftByLow 5 = .ok (.aload_n 0, 1) := by decide +kernel
theorem dX2_firstLeftByLow_6 : decode cX2_firstLeftByLow 6 = .ok (.getfield 24, 3) := by decide +kernel
theorem dX2_firstLeftByLow_9 : decode cX2_firstLeftByLow 9 = .ok (.getfield 58, 3) := by decide +kernel
theorem dX2_firstLeftByLow_12 : decode cX2_firstLeftByLow 12 = .ok (.if_icmp .ge 39, 3) := by decide +kernel
theorem dX2_firstLeftByLow_15 : decode cX2_firstLeftByLow 15 = .ok (.aload_n 0, 1) := by decide +kernel
theorem dX2_firstLeftByLow_16 : decode cX2_firstLeftByLow 16 = .ok (.iload_n 2, 1) := by decide +kernel
theorem dX2_firstLeftByLow_17 : decode cX2_firstLeftByLow 17 = .ok (.invokevirtual 85, 3) := by decide +kernel
theorem dX2_firstLeftByLow_20 : decode cX2_firstLeftByLow 20 = .ok (.ifCond .ne 25, 3) := by decide +kernel
theorem dX2_firstLeftByLow_23 : decode cX2_firstLeftByLow 23 = .ok (.iload_n 1, 1) := by decide +kernel
theorem dX2_firstLeftByLow_24 : decode cX2_firstLeftByLow 24 = .ok (.iconst (-1), 1) := by decide +kernel
theorem dX2_firstLeftByLow_25 : decode cX2_firstLeftByLow 25 = .ok (.if_icmp .eq 18, 3) := by decide +kernel
theorem dX2_firstLeftByLow_28 : decode cX2_firstLeftByLow 28 = .ok (.aload_n 0, 1) := by decide +kernel
theorem dX2_firstLeftByLow_29 : decode cX2_firstLeftByLow 29 = .ok (.getfield 21, 3) := by decide +kernel
theorem dX2_firstLeftByLow_32 : decode cX2_firstLeftByLow 32 = .ok (.iload_n 2, 1) := by decide +kernel
theorem dX2_firstLeftByLow_33 : decode cX2_firstLeftByLow 33 = .ok (.iaload, 1) := by decide +kernel
theorem dX2_firstLeftByLow_34 : decode cX2_firstLeftByLow 34 = .ok (.aload_n 0, 1) := by decide +kernel
theorem dX2_firstLeftByLow_35 : decode cX2_firstLeftByLow 35 = .ok (.getfield 21, 3) := by decide +kernel
theorem dX2_firstLeftByLow_38 : decode cX2_firstLeftByLow 38 = .ok (.iload_n 1, 1) := by decide +kernel
theorem dX2_firstLeftByLow_39 : decode cX2_firstLeftByLow 39 = .ok (.iaload, 1) := by decide +kernel
theorem dX2_firstLeftByLow_40 : decode cX2_firstLeftByLow 40 = .ok (.if_icmp .le 5, 3) := by decide +kernel
theorem dX2_firstLeftByLow_43 : decode cX2_firstLeftByLow 43 = .ok (.iload_n 2, 1) := by decide +kernel
theorem dX2_firstLeftByLow_44 : decode cX2_firstLeftByLow 44 = .ok (.istore_n 1, 1) := by decide +kernel
theorem dX2_firstLeftByLow_45 : decode cX2_firstLeftByLow 45 = .ok (.iinc 2 1, 3) := by decide +kernel
theorem dX2_firstLeftByLow_48 : decode cX2_firstLeftByLow 48 = .ok (.goto (-44), 3) := by decide +kernel
theorem dX2_firstLeftByLow_51 : decode cX2_firstLeftByLow 51 = .ok (.iload_n 1, 1) := by decide +kernel
theorem dX2_firstLeftByLow_52 : decode cX2_firstLeftByLow 52 = .ok (.ireturn, 1) := by decide +kernel
theorem dX2_isFound_0 : decode cX2_isFound 0 = .ok (.aload_n 0, 1) := by decide +kernel
theorem dX2_isFound_1 : decode cX2_isFound 1 = .ok (.getfield 95, 3) := by decide +kernel
theorem dX2_isFound_4 : decode cX2_isFound 4 = .ok (.iload_n 1, 1) := by decide +kernel
theorem dX2_isFound_5 : decode cX2_isFound 5 = .ok (.ishr, 1) := by decide +kernel
theorem dX2_isFound_6 : decode cX2_isFound 6 = .ok (.iconst 1, 1) := by decide +kernel
theorem dX2_isFound_7 : decode cX2_isFound 7 = .ok (.iand, 1) := by decide +kernel
theorem dX2_isFound_8 : decode cX2_isFound 8 = .ok (.iconst 1, 1) := by decide +kernel
theorem dX2_isFound_9 : decode cX2_isFound 9 = .ok (.if_icmp .ne 7, 3) := by decide +kernel
theorem dX2_isFound_12 : decode cX2_isFound 12 = .ok (.iconst 1, 1) := by decide +kernel
theorem dX2_isFound_13 : decode cX2_isFound 13 = .ok (.goto 4, 3) := by decide +kernel
theorem dX2_isFound_16 : decode cX2_isFound 16 = .ok (.iconst 0, 1) := by decide +kernel
theorem dX2_isFound_17 : decode cX2_isFound 17 = .ok (.ireturn, 1) := by decide +kernel
set_option maxRecDepth 20000 in
theorem ggX2_foundAt_X2_isFound : GoodIn wsX2_foundAt wsX2_isFound := goodIn_r _ [7, 8, 9, 10, 11, 12, 13, 14] (by decide +kernel) (by decide +kernel)
set_option maxRecDepth 20000 in
theorem gX2_foundAt_X2_isFound : GoodIn wsX2_foundAt (wsV RX2 85 RX2 yX2_isFound wsX2_isFound) := goodIn_app (goodIn_of _ (by decide +kernel)) ggX2_foundAt_X2_isFound
theorem dX2_foundAt_0 : decode cX2_foundAt 0 = .ok (.iconst 0, 1) := by decide +kernel
theorem dX2_foundAt_1 : decode cX2_foundAt 1 = .ok (.istore_n 2, 1) := by decide +kernel
theorem dX2_foundAt_2 : decode cX2_foundAt 2 = .ok (.iconst 0, 1) := by decide +kernel
theorem dX2_foundAt_3 : decode cX2_foundAt 3 = .ok (.istore_n 3, 1) := by decide +kernel
theorem dX2_foundAt_4 : decode cX2_foundAt 4 = .ok (.iload_n 3, 1) := by decide +kernel
theorem dX2_foundAt_5 : decode cX2_foundAt 5 = .ok (.aload_n 0, 1) := by decide +kernel
theorem dX2_foundAt_6 : decode cX2_foundAt 6 = .ok (.getfield 24, 3) := by decide +kernel
theorem dX2_foundAt_9 : decode cX2_foundAt 9 = .ok (.getfield 58, 3) := by decide +kernel
theorem dX2_foundAt_12 : decode cX2_foundAt 12 = .ok (.if_icmp .ge 27, 3) := by decide +kernel
theorem dX2_foundAt_15 : decode cX2_foundAt 15 = .ok (.aload_n 0, 1) := by decide +kernel
theorem dX2_foundAt_16 : decode cX2_foundAt 16 = .ok (.iload_n 3, 1) := by decide +kernel
theorem dX2_foundAt_17 : decode cX2_foundAt 17 = .ok (.invokevirtual 85, 3) := by decide +kernel
theorem dX2_foundAt_20 : decode cX2_foundAt 20 = .ok (.ifCond .eq 13, 3) := by decide +kernel
theorem dX2_foundAt_23 : decode cX2_foundAt 23 = .ok (.iload_n 2, 1) := by decide +kernel
theorem dX2_foundAt_24 : decode cX2_foundAt 24 = .ok (.iload_n 1, 1) := by decide +kernel
theorem dX2_foundAt_25 : decode cX2_foundAt 25 = .ok (.if_icmp .ne 5, 3) := by decide +kernel
theorem dX2_foundAt_28 : decode cX2_foundAt 28 = .ok (.iload_n 3, 1) := by decide +kernel
theorem dX2_foundAt_29 : decode cX2_foundAt 29 = .ok (.ireturn, 1) := by decide +kernel
theorem dX2_foundAt_30 : decode cX2_foundAt 30 = .ok (.iinc 2 1, 3) := by decide +kernel
theorem dX2_foundAt_33 : decode cX2_foundAt 33 = .ok (.iinc 3 1, 3) := by decide +kernel
theorem dX2_foundAt_36 : decode cX2_foundAt 36 = .ok (.goto (-32), 3) := by decide +kernel
theorem dX2_foundAt_39 : decode cX2_foundAt 39 = .ok (.iconst (-1), 1) := by decide +kernel
theorem dX2_foundAt_40 : decode cX2_foundAt 40 = .ok (.ireturn, 1) := by decide +kernel
set_option maxRecDepth 20000 in
theorem ggX3_init_X2_init : GoodIn wsX3_init wsX2_init := goodIn_r _ [13, 14, 2, 3, 4, 15, 16, 17, 18, 19, 23, 24, 25, 26, 27, 28] (by decide +kernel) (by decide +kernel)
set_option maxRecDepth 20000 in
theorem gX3_init_X2_init : GoodIn wsX3_init (wsX2_init) := ggX3_init_X2_init
theorem dX3_init_0 : decode cX3_init 0 = .ok (.aload_n 0, 1) := by decide +kernel
theorem dX3_init_1 : decode cX3_init 1 = .ok (.invokespecial 3, 3) := by decide +kernel
theorem dX3_init_4 : decode cX3_init 4 = .ok (.aload_n 0, 1) := by decide +kernel
theorem dX3_init_5 : decode cX3_init 5 = .ok (.iconst 4, 1) := by decide +kernel
theorem dX3_init_6 : decode cX3_init 6 = .ok (.newarray .int, 2) := by decide +kernel
theorem dX3_init_8 : decode cX3_init 8 = .ok (.putfield 9, 3) := by decide +kernel
theorem dX3_init_11 : decode cX3_init 11 = .ok (.aload_n 0, 1) := by decide +kernel
theorem dX3_init_12 : decode cX3_init 12 = .ok (.aload_n 1, 1) := by decide +kernel
theorem dX3_init_13 : decode cX3_init 13 = .ok (.putfield 15, 3) := by decide +kernel
theorem dX3_init_16 : decode cX3_init 16 = .ok (.aload_n 0, 1) := by decide +kernel
theorem dX3_init_17 : decode cX3_init 17 = .ok (.new 19, 3) := by decide +kernel
theorem dX3_init_20 : decode cX3_init 20 = .ok (.dup, 1) := by decide +kernel
theorem dX3_init_21 : decode cX3_init 21 = .ok (.aload_n 1, 1) := by decide +kernel
theorem dX3_init_22 : decode cX3_init 22 = .ok (.invokespecial 21, 3) := by decide +kernel
theorem dX3_init_25 : decode cX3_init 25 = .ok (.putfield 24, 3) := by decide +kernel
theorem dX3_init_28 : decode cX3_init 28 = .ok (.return_, 1) := by decide +kernel
set_option maxRecDepth 20000 in
theorem ggX3_isEnough_X2_isSure : GoodIn wsX3_isEnough wsX2_isSure := goodIn_r _ [7, 8, 9, 10, 11, 12, 13, 6, 14, 15, 16, 17, 18, 19, 20, 21, 22, 23, 24, 25, 26, 27, 28, 29, 30, 31, 32, 33, 34, 35, 36, 37, 38, 39, 40, 41, 42, 43, 44, 45, 46, 47, 48, 49, 50, 51, 52, 53, 54, 55, 56, 57, 58, 59, 60, 61, 62, 63, 64, 65, 66, 67, 68, 69, 70, 71, 72, 73, 74, 78, 79, 80, 81, 82, 83, 84, 85, 86, 87, 88, 89, 90, 91, 92, 93, 94, 95, 96] (by decide +kernel) (by decide +kernel)
set_option maxRecDepth 20000 in
theorem gX3_isEnough_X2_isSure : GoodIn wsX3_isEnough (wsV RX3 31 RX2 yX2_isSure wsX2_isSure) := goodIn_app (goodIn_of _ (by decide +kernel)) ggX3_isEnough_X2_isSure
theorem dX3_isEnough_0 : decode cX3_isEnough 0 = .ok (.aload_n 0, 1) := by decide +kernel
theorem dX3_isEnough_1 : decode cX3_isEnough 1 = .ok (.getfield 24, 3) := by decide +kernel
theorem dX3_isEnough_4 : decode cX3_isEnough 4 = .ok (.getfield 28, 3) := by decide +kernel
theorem dX3_isEnough_7 : decode cX3_isEnough 7 = .ok (.iconst 0, 1) := by decide +kernel
theorem dX3_isEnough_8 : decode cX3_isEnough 8 = .ok (.iload_n 2, 1) := by decide +kernel
theorem dX3_isEnough_9 : decode cX3_isEnough 9 = .ok (.iastore, 1) := by decide +kernel
theorem dX3_isEnough_10 : decode cX3_isEnough 10 = .ok (.aload_n 0, 1) := by decide +kernel
theorem dX3_isEnough_11 : decode cX3_isEnough 11 = .ok (.getfield 24, 3) := by decide +kernel
theorem dX3_isEnough_14 : decode cX3_isEnough 14 = .ok (.getfield 28, 3) := by decide +kernel
theorem dX3_isEnough_17 : decode cX3_isEnough 17 = .ok (.iconst 1, 1) := by decide +kernel
theorem dX3_isEnough_18 : decode cX3_isEnough 18 = .ok (.iload_n 3, 1) := by decide +kernel
theorem dX3_isEnough_19 : decode cX3_isEnough 19 = .ok (.iastore, 1) := by decide +kernel
theorem dX3_isEnough_20 : decode cX3_isEnough 20 = .ok (.aload_n 0, 1) := by decide +kernel
theorem dX3_isEnough_21 : decode cX3_isEnough 21 = .ok (.getfield 24, 3) := by decide +kernel
theorem dX3_isEnough_24 : decode cX3_isEnough 24 = .ok (.getfield 28, 3) := by decide +kernel
theorem dX3_isEnough_27 : decode cX3_isEnough 27 = .ok (.iconst 2, 1) := by decide +kernel
theorem dX3_isEnough_28 : decode cX3_isEnough 28 = .ok (.iload 4, 2) := by decide +kernel
theorem dX3_isEnough_30 : decode cX3_isEnough 30 = .ok (.iastore, 1) := by decide +kernel
theorem dX3_isEnough_31 : decode cX3_isEnough 31 = .ok (.aload_n 0, 1) := by decide +kernel
theorem dX3_isEnough_32 : decode cX3_isEnough 32 = .ok (.getfield 24, 3) := by decide +kernel
theorem dX3_isEnough_35 : decode cX3_isEnough 35 = .ok (.getfield 28, 3) := by decide +kernel
theorem dX3_isEnough_38 : decode cX3_isEnough 38 = .ok (.iconst 3, 1) := by decide +kernel
theorem dX3_isEnough_39 : decode cX3_isEnough 39 = .ok (.iload 5, 2) := by decide +kernel
theorem dX3_isEnough_41 : decode cX3_isEnough 41 = .ok (.iastore, 1) := by decide +kernel
theorem dX3_isEnough_42 : decode cX3_isEnough 42 = .ok (.aload_n 0, 1) := by decide +kernel
theorem dX3_isEnough_43 : decode cX3_isEnough 43 = .ok (.getfield 24, 3) := by decide +kernel
theorem dX3_isEnough_46 : decode cX3_isEnough 46 = .ok (.iload_n 1, 1) := by decide +kernel
theorem dX3_isEnough_47 : decode cX3_isEnough 47 = .ok (.invokevirtual 31, 3) := by decide +kernel
theorem dX3_isEnough_50 : decode cX3_isEnough 50 = .ok (.ireturn, 1) := by decide +kernel
set_option maxRecDepth 20000 in
theorem ggX3_cheapest_X2_forget : GoodIn wsX3_cheapest wsX2_forget := goodIn_r _ [13, 14, 15, 105, 106, 107, 108, 109, 110] (by decide +kernel) (by decide +kernel)
set_option maxRecDepth 20000 in
theorem gX3_cheapest_X2_forget : GoodIn wsX3_cheapest (wsV RX3 35 RX2 yX2_forget wsX2_forget) := goodIn_app (goodIn_of _ (by decide +kernel)) ggX3_cheapest_X2_forget
set_option maxRecDepth 20000 in
theorem ggX3_cheapest_X0_depthRows : GoodIn wsX3_cheapest wsX0_depthRows := goodIn_r _ [20, 21, 22, 111, 112, 113, 114, 115, 116, 117, 118, 119, 120, 121, 122, 123] (by decide +kernel) (by decide +kernel)
set_option maxRecDepth 20000 in
theorem gX3_cheapest_X0_depthRows : GoodIn wsX3_cheapest (wsV RX3 38 RX0 yX0_depthRows wsX0_depthRows) := goodIn_app (goodIn_of _ (by decide +kernel)) ggX3_cheapest_X0_depthRows
set_option maxRecDepth 20000 in
theorem ggX3_cheapest_X3_costOfDepths : GoodIn wsX3_cheapest wsX3_costOfDepths := goodIn_r _ [27, 2, 28, 29, 1, 3, 102, 103, 104, 111, 112, 113, 114, 115, 116, 117, 118, 119, 120, 121, 122, 123, 105, 106, 107, 108, 109, 110] (by decide +kernel) (by decide +kernel)
set_option maxRecDepth 20000 in
theorem gX3_cheapest_X3_costOfDepths : GoodIn wsX3_cheapest (wsV RX3 44 RX3 yX3_costOfDepths wsX3_costOfDepths) := goodIn_app (goodIn_of _ (by decide +kernel)) ggX3_cheapest_X3_costOfDepths
set_option maxRecDepth 20000 in
theorem ggX3_cheapest_X2_isSure : GoodIn wsX3_cheapest wsX2_isSure := goodIn_r _ [33, 34, 35, 36, 37, 38, 39, 12, 40, 41, 42, 43, 44, 45, 46, 47, 15, 48, 49, 50, 51, 14, 52, 53, 54, 55, 56, 57, 58, 59, 60, 19, 61, 21, 62, 63, 64, 65, 66, 67, 68, 69, 70, 71, 72, 73, 74, 75, 76, 77, 78, 79, 80, 81, 82, 83, 84, 85, 86, 87, 88, 89, 90, 91, 92, 93, 94, 95, 96, 105, 106, 107, 108, 109, 110, 111, 112, 113, 114, 115, 116, 117, 118, 119, 120, 121, 122, 123] (by decide +kernel) (by decide +kernel)
set_option maxRecDepth 20000 in
theorem gX3_cheapest_X2_isSure : GoodIn wsX3_cheapest (wsV RX3 31 RX2 yX2_isSure wsX2_isSure) := goodIn_app (goodIn_of _ (by decide +kernel)) ggX3_cheapest_X2_isSure
set_option maxRecDepth 20000 in
theorem ggX3_cheapest_X3_goToNextDepths : GoodIn wsX3_cheapest wsX3_goToNextDepths := goodIn_r _ [100, 2, 28, 1, 3, 101, 49, 50, 12, 51, 14, 34, 52, 102, 103, 104, 111, 112, 113, 114, 115, 116, 117, 118, 119, 120, 121, 122, 123, 105, 106, 107, 108, 109, 110] (by decide +kernel) (by decide +kernel)
set_option maxRecDepth 20000 in
theorem gX3_cheapest_X3_goToNextDepths : GoodIn wsX3_cheapest (wsV RX3 53 RX3 yX3_goToNextDepths wsX3_goToNextDepths) := goodIn_app (goodIn_of _ (by decide +kernel)) ggX3_cheapest_X3_goToNextDepths
theorem dX3_cheapest_0 : decode cX3_cheapest 0 = .ok (.aload_n 0, 1) := by decide +kernel
theorem dX3_cheapest_1 : decode cX3_cheapest 1 = .ok (.getfield 24, 3) := by decide +kernel
theorem dX3_cheapest_4 : decode cX3_cheapest 4 = .ok (.invokevirtual 35, 3) := by decide +kernel
theorem dX3_cheapest_7 : decode cX3_cheapest 7 = .ok (.aload_n 0, 1) := by decide +kernel
theorem dX3_cheapest_8 : decode cX3_cheapest 8 = .ok (.getfield 15, 3) := by decide +kernel
theorem dX3_cheapest_11 : decode cX3_cheapest 11 = .ok (.invokevirtual 38, 3) := by decide +kernel
theorem dX3_cheapest_14 : decode cX3_cheapest 14 = .ok (.istore_n 2, 1) := by decide +kernel
theorem dX3_cheapest_15 : decode cX3_cheapest 15 = .ok (.iconst (-1), 1) := by decide +kernel
theorem dX3_cheapest_16 : decode cX3_cheapest 16 = .ok (.istore_n 3, 1) := by decide +kernel
theorem dX3_cheapest_17 : decode cX3_cheapest 17 = .ok (.iconst 0, 1) := by decide +kernel
theorem dX3_cheapest_18 : decode cX3_cheapest 18 = .ok (.istore 4, 2) := by decide +kernel
theorem dX3_cheapest_20 : decode cX3_cheapest 20 = .ok (.iload 4, 2) := by decide +kernel
theorem dX3_cheapest_22 : decode cX3_cheapest 22 = .ok (.iload_n 2, 1) := by decide +kernel
theorem dX3_cheapest_23 : decode cX3_cheapest 23 = .ok (.if_icmp .ge 61, 3) := by decide +kernel
theorem dX3_cheapest_26 : decode cX3_cheapest 26 = .ok (.aload_n 0, 1) := by decide +kernel
theorem dX3_cheapest_27 : decode cX3_cheapest 27 = .ok (.invokevirtual 44, 3) := by decide +kernel
theorem dX3_cheapest_30 : decode cX3_cheapest 30 = .ok (.istore 5, 2) := by decide +kernel
theorem dX3_cheapest_32 : decode cX3_cheapest 32 = .ok (.iload_n 3, 1) := by decide +kernel
theorem dX3_cheapest_33 : decode cX3_cheapest 33 = .ok (.iconst (-1), 1) := by decide +kernel
theorem dX3_cheapest_34 : decode cX3_cheapest 34 = .ok (.if_icmp .eq 9, 3) := by decide +kernel
theorem dX3_cheapest_37 : decode cX3_cheapest 37 = .ok (.iload 5, 2) := by decide +kernel
theorem dX3_cheapest_39 : decode cX3_cheapest 39 = .ok (.iload_n 3, 1) := by decide +kernel
theorem dX3_cheapest_40 : decode cX3_cheapest 40 = .ok (.if_icmp .ge 34, 3) := by decide +kernel
theorem dX3_cheapest_43 : decode cX3_cheapest 43 = .ok (.aload_n 0, 1) := by decide +kernel
theorem dX3_cheapest_44 : decode cX3_cheapest 44 = .ok (.getfield 24, 3) := by decide +kernel
theorem dX3_cheapest_47 : decode cX3_cheapest 47 = .ok (.iload_n 1, 1) := by decide +kernel
theorem dX3_cheapest_48 : decode cX3_cheapest 48 = .ok (.invokevirtual 31, 3) := by decide +kernel
theorem dX3_cheapest_51 : decode cX3_cheapest 51 = .ok (.ifCond .eq 23, 3) := by decide +kernel
theorem dX3_cheapest_54 : decode cX3_cheapest 54 = .ok (.iload 5, 2) := by decide +kernel
theorem dX3_cheapest_56 : decode cX3_cheapest 56 = .ok (.istore_n 3, 1) := by decide +kernel
theorem dX3_cheapest_57 : decode cX3_cheapest 57 = .ok (.aload_n 0, 1) := by decide +kernel
theorem dX3_cheapest_58 : decode cX3_cheapest 58 = .ok (.getfield 24, 3) := by decide +kernel
theorem dX3_cheapest_61 : decode cX3_cheapest 61 = .ok (.getfield 28, 3) := by decide +kernel
theorem dX3_cheapest_64 : decode cX3_cheapest 64 = .ok (.iconst 0, 1) := by decide +kernel
theorem dX3_cheapest_65 : decode cX3_cheapest 65 = .ok (.aload_n 0, 1) := by decide +kernel
theorem dX3_cheapest_66 : decode cX3_cheapest 66 = .ok (.getfield 9, 3) := by decide +kernel
theorem dX3_cheapest_69 : decode cX3_cheapest 69 = .ok (.iconst 0, 1) := by decide +kernel
theorem dX3_cheapest_70 : decode cX3_cheapest 70 = .ok (.iconst 4, 1) := by decide +kernel
theorem dX3_cheapest_71 : decode cX3_cheapest 71 = .ok (.invokestatic 47, 3) := by decide +kernel
theorem dX3_cheapest_74 : decode cX3_cheapest 74 = .ok (.aload_n 0, 1) := by decide +kernel
theorem dX3_cheapest_75 : decode cX3_cheapest 75 = .ok (.invokevirtual 53, 3) := by decide +kernel
theorem dX3_cheapest_78 : decode cX3_cheapest 78 = .ok (.iinc 4 1, 3) := by decide +kernel
theorem dX3_cheapest_81 : decode cX3_cheapest 81 = .ok (.goto (-61), 3) := by decide +kernel
theorem dX3_cheapest_84 : decode cX3_cheapest 84 = .ok (.iload_n 3, 1) := by decide +kernel
theorem dX3_cheapest_85 : decode cX3_cheapest 85 = .ok (.ireturn, 1) := by decide +kernel
theorem dX3_costOfDepths_0 : decode cX3_costOfDepths 0 = .ok (.iconst 0, 1) := by decide +kernel
theorem dX3_costOfDepths_1 : decode cX3_costOfDepths 1 = .ok (.istore_n 1, 1) := by decide +kernel
theorem dX3_costOfDepths_2 : decode cX3_costOfDepths 2 = .ok (.iconst 0, 1) := by decide +kernel
theorem dX3_costOfDepths_3 : decode cX3_costOfDepths 3 = .ok (.istore_n 2, 1) := by decide +kernel
theorem dX3_costOfDepths_4 : decode cX3_costOfDepths 4 = .ok (.iload_n 2, 1) := by decide +kernel
theorem dX3_costOfDepths_5 : decode cX3_costOfDepths 5 = .ok (.aload_n 0, 1) := by decide +kernel
theorem dX3_costOfDepths_6 : decode cX3_costOfDepths 6 = .ok (.getfield 15, 3) := by decide +kernel
theorem dX3_costOfDepths_9 : decode cX3_costOfDepths 9 = .ok (.getfield 56, 3) := by decide +kernel
theorem dX3_costOfDepths_12 : decode cX3_costOfDepths 12 = .ok (.if_icmp .ge 31, 3) := by decide +kernel
theorem dX3_costOfDepths_15 : decode cX3_costOfDepths 15 = .ok (.iload_n 1, 1) := by decide +kernel
theorem dX3_costOfDepths_16 : decode cX3_costOfDepths 16 = .ok (.aload_n 0, 1) := by decide +kernel
theorem dX3_costOfDepths_17 : decode cX3_costOfDepths 17 = .ok (.getfield 15, 3) := by decide +kernel
theorem dX3_costOfDepths_20 : decode cX3_costOfDepths 20 = .ok (.getfield 60, 3) := by decide +kernel
theorem dX3_costOfDepths_23 : decode cX3_costOfDepths 23 = .ok (.iload_n 2, 1) := by decide +kernel
theorem dX3_costOfDepths_24 : decode cX3_costOfDepths 24 = .ok (.iaload, 1) := by decide +kernel
theorem dX3_costOfDepths_25 : decode cX3_costOfDepths 25 = .ok (.aload_n 0, 1) := by decide +kernel
theorem dX3_costOfDepths_26 : decode cX3_costOfDepths 26 = .ok (.getfield 24, 3) := by decide +kernel
theorem dX3_costOfDepths_29 : decode cX3_costOfDepths 29 = .ok (.getfield 28, 3) := by decide +kernel
theorem dX3_costOfDepths_32 : decode cX3_costOfDepths 32 = .ok (.iload_n 2, 1) := by decide +kernel
theorem dX3_costOfDepths_33 : decode cX3_costOfDepths 33 = .ok (.iaload, 1) := by decide +kernel
theorem dX3_costOfDepths_34 : decode cX3_costOfDepths 34 = .ok (.imul, 1) := by decide +kernel
theorem dX3_costOfDepths_35 : decode cX3_costOfDepths 35 = .ok (.iadd, 1) := by decide +kernel
theorem dX3_costOfDepths_36 : decode cX3_costOfDepths 36 = .ok (.istore_n 1, 1) := by decide +kernel
theorem dX3_costOfDepths_37 : decode cX3_costOfDepths 37 = .ok (.iinc 2 1, 3) := by decide +kernel
theorem dX3_costOfDepths_40 : decode cX3_costOfDepths 40 = .ok (.goto (-36), 3) := by decide +kernel
theorem dX3_costOfDepths_43 : decode cX3_costOfDepths 43 = .ok (.iload_n 1, 1) := by decide +kernel
theorem dX3_costOfDepths_44 : decode cX3_costOfDepths 44 = .ok (.ireturn, 1) := by decide +kernel
set_option maxRecDepth 20000 in
theorem ggX3_goToNextDepths_X2_isWhole : GoodIn wsX3_goToNextDepths wsX2_isWhole := goodIn_r _ [9, 10, 11, 12, 29, 30, 31, 32, 33, 34, 16, 17, 18, 19, 20, 21, 22, 23, 24, 25, 26, 27, 28] (by decide +kernel) (by decide +kernel)
set_option maxRecDepth 20000 in
theorem gX3_goToNextDepths_X2_isWhole : GoodIn wsX3_goToNextDepths (wsV RX3 63 RX2 yX2_isWhole wsX2_isWhole) := goodIn_app (goodIn_of _ (by decide +kernel)) ggX3_goToNextDepths_X2_isWhole
theorem dX3_goToNextDepths_0 : decode cX3_goToNextDepths 0 = .ok (.aload_n 0, 1) := by decide +kernel
theorem dX3_goToNextDepths_1 : decode cX3_goToNextDepths 1 = .ok (.getfield 15, 3) := by decide +kernel
theorem dX3_goToNextDepths_4 : decode cX3_goToNextDepths 4 = .ok (.getfield 56, 3) := by decide +kernel
theorem dX3_goToNextDepths_7 : decode cX3_goToNextDepths 7 = .ok (.iconst 1, 1) := by decide +kernel
theorem dX3_goToNextDepths_8 : decode cX3_goToNextDepths 8 = .ok (.isub, 1) := by decide +kernel
theorem dX3_goToNextDepths_9 : decode cX3_goToNextDepths 9 = .ok (.istore_n 1, 1) := by decide +kernel
theorem dX3_goToNextDepths_10 : decode cX3_goToNextDepths 10 = .ok (.iload_n 1, 1) := by decide +kernel
theorem dX3_goToNextDepths_11 : decode cX3_goToNextDepths 11 = .ok (.ifCond .lt 44, 3) := by decide +kernel
theorem dX3_goToNextDepths_14 : decode cX3_goToNextDepths 14 = .ok (.aload_n 0, 1) := by decide +kernel
theorem dX3_goToNextDepths_15 : decode cX3_goToNextDepths 15 = .ok (.getfield 24, 3) := by decide +kernel
theorem dX3_goToNextDepths_18 : decode cX3_goToNextDepths 18 = .ok (.iload_n 1, 1) := by decide +kernel
theorem dX3_goToNextDepths_19 : decode cX3_goToNextDepths 19 = .ok (.invokevirtual 63, 3) := by decide +kernel
theorem dX3_goToNextDepths_22 : decode cX3_goToNextDepths 22 = .ok (.ifCond .ne 17, 3) := by decide +kernel
theorem dX3_goToNextDepths_25 : decode cX3_goToNextDepths 25 = .ok (.aload_n 0, 1) := by decide +kernel
theorem dX3_goToNextDepths_26 : decode cX3_goToNextDepths 26 = .ok (.getfield 24, 3) := by decide +kernel
theorem dX3_goToNextDepths_29 : decode cX3_goToNextDepths 29 = .ok (.getfield 28, 3) := by decide +kernel
theorem dX3_goToNextDepths_32 : decode cX3_goToNextDepths 32 = .ok (.iload_n 1, 1) := by decide +kernel
theorem dX3_goToNextDepths_33 : decode cX3_goToNextDepths 33 = .ok (.dup2, 1) := by decide +kernel
theorem dX3_goToNextDepths_34 : decode cX3_goToNextDepths 34 = .ok (.iaload, 1) := by decide +kernel
theorem dX3_goToNextDepths_35 : decode cX3_goToNextDepths 35 = .ok (.iconst 1, 1) := by decide +kernel
theorem dX3_goToNextDepths_36 : decode cX3_goToNextDepths 36 = .ok (.iadd, 1) := by decide +kernel
theorem dX3_goToNextDepths_37 : decode cX3_goToNextDepths 37 = .ok (.iastore, 1) := by decide +kernel
theorem dX3_goToNextDepths_38 : decode cX3_goToNextDepths 38 = .ok (.return_, 1) := by decide +kernel
theorem dX3_goToNextDepths_39 : decode cX3_goToNextDepths 39 = .ok (.aload_n 0, 1) := by decide +kernel
theorem dX3_goToNextDepths_40 : decode cX3_goToNextDepths 40 = .ok (.getfield 24, 3) := by decide +kernel
theorem dX3_goToNextDepths_43 : decode cX3_goToNextDepths 43 = .ok (.getfield 28, 3) := by decide +kernel
theorem dX3_goToNextDepths_46 : decode cX3_goToNextDepths 46 = .ok (.iload_n 1, 1) := by decide +kernel
theorem dX3_goToNextDepths_47 : decode cX3_goToNextDepths 47 = .ok (.iconst 0, 1) := by decide +kernel
theorem dX3_goToNextDepths_48 : decode cX3_goToNextDepths 48 = .ok (.iastore, 1) := by decide +kernel
theorem dX3_goToNextDepths_49 : decode cX3_goToNextDepths 49 = .ok (.iinc 1 (-1), 3) := by decide +kernel
theorem dX3_goToNextDepths_52 : decode cX3_goToNextDepths 52 = .ok (.goto (-42), 3) := by decide +kernel
theorem dX3_goToNextDepths_55 : decode cX3_goToNextDepths 55 = .ok (.return_, 1) := by decide +kernel
set_option maxRecDepth 20000 in
theorem ggX4_init_X0_init : GoodIn wsX4_init wsX0_init := goodIn_r _ [17, 18, 2, 3, 19, 20, 21, 22, 23, 24, 25, 26, 27, 28, 29, 30, 58, 59, 60, 61, 62, 63, 64, 65, 66, 67, 68, 69, 70] (by decide +kernel) (by decide +kernel)
set_option maxRecDepth 20000 in
theorem gX4_init_X0_init_n9 : GoodIn wsX4_init (wsX0_init) := ggX4_init_X0_init
set_option maxRecDepth 20000 in
theorem ggX4_init_X1_init : GoodIn wsX4_init wsX1_init := goodIn_r _ [33, 34, 2, 3, 35, 36, 37, 38, 39, 40, 41, 42, 43, 20, 44, 45, 46, 47, 48, 74, 75, 76, 77, 78, 79, 80, 81, 82, 83, 87, 88, 89, 90, 91, 92] (by decide +kernel) (by decide +kernel)
set_option maxRecDepth 20000 in
theorem gX4_init_X1_init : GoodIn wsX4_init (wsX1_init) := ggX4_init_X1_init
set_option maxRecDepth 20000 in
theorem ggX4_init_X3_init : GoodIn wsX4_init wsX3_init := goodIn_r _ [51, 52, 2, 3, 20, 53, 54, 55, 37, 38, 56, 57, 41, 42, 43, 44, 45, 46, 47, 48, 84, 85, 86, 87, 88, 89, 90, 91, 92] (by decide +kernel) (by decide +kernel)
set_option maxRecDepth 20000 in
theorem gX4_init_X3_init : GoodIn wsX4_init (wsX3_init) := ggX4_init_X3_init
theorem dX4_init_0 : decode cX4_init 0 = .ok (.aload_n 0, 1) := by decide +kernel
theorem dX4_init_1 : decode cX4_init 1 = .ok (.invokespecial 1, 3) := by decide +kernel
theorem dX4_init_4 : decode cX4_init 4 = .ok (.aload_n 0, 1) := by decide +kernel
theorem dX4_init_5 : decode cX4_init 5 = .ok (.new 7, 3) := by decide +kernel
theorem dX4_init_8 : decode cX4_init 8 = .ok (.dup, 1) := by decide +kernel
theorem dX4_init_9 : decode cX4_init 9 = .ok (.invokespecial 9, 3) := by decide +kernel
theorem dX4_init_12 : decode cX4_init 12 = .ok (.putfield 10, 3) := by decide +kernel
theorem dX4_init_15 : decode cX4_init 15 = .ok (.aload_n 0, 1) := by decide +kernel
theorem dX4_init_16 : decode cX4_init 16 = .ok (.new 16, 3) := by decide +kernel
theorem dX4_init_19 : decode cX4_init 19 = .ok (.dup, 1) := by decide +kernel
theorem dX4_init_20 : decode cX4_init 20 = .ok (.aload_n 0, 1) := by decide +kernel
theorem dX4_init_21 : decode cX4_init 21 = .ok (.getfield 10, 3) := by decide +kernel
theorem dX4_init_24 : decode cX4_init 24 = .ok (.invokespecial 18, 3) := by decide +kernel
theorem dX4_init_27 : decode cX4_init 27 = .ok (.putfield 21, 3) := by decide +kernel
theorem dX4_init_30 : decode cX4_init 30 = .ok (.aload_n 0, 1) := by decide +kernel
theorem dX4_init_31 : decode cX4_init 31 = .ok (.new 25, 3) := by decide +kernel
theorem dX4_init_34 : decode cX4_init 34 = .ok (.dup, 1) := by decide +kernel
theorem dX4_init_35 : decode cX4_init 35 = .ok (.aload_n 0, 1) := by decide +kernel
theorem dX4_init_36 : decode cX4_init 36 = .ok (.getfield 10, 3) := by decide +kernel
theorem dX4_init_39 : decode cX4_init 39 = .ok (.invokespecial 27, 3) := by decide +kernel
theorem dX4_init_42 : decode cX4_init 42 = .ok (.putfield 28, 3) := by decide +kernel
theorem dX4_init_45 : decode cX4_init 45 = .ok (.return_, 1) := by decide +kernel
theorem dX4_thing_0 : decode cX4_thing 0 = .ok (.aload_n 0, 1) := by decide +kernel
theorem dX4_thing_1 : decode cX4_thing 1 = .ok (.getfield 10, 3) := by decide +kernel
theorem dX4_thing_4 : decode cX4_thing 4 = .ok (.getfield 32, 3) := by decide +kernel
theorem dX4_thing_7 : decode cX4_thing 7 = .ok (.bipush 20, 2) := by decide +kernel
theorem dX4_thing_9 : decode cX4_thing 9 = .ok (.if_icmp .lt 6, 3) := by decide +kernel
theorem dX4_thing_12 : decode cX4_thing 12 = .ok (.bipush (-4), 2) := by decide +kernel
theorem dX4_thing_14 : decode cX4_thing 14 = .ok (.ireturn, 1) := by decide +kernel
theorem dX4_thing_15 : decode cX4_thing 15 = .ok (.aload_n 0, 1) := by decide +kernel
theorem dX4_thing_16 : decode cX4_thing 16 = .ok (.getfield 21, 3) := by decide +kernel
theorem dX4_thing_19 : decode cX4_thing 19 = .ok (.iconst 0, 1) := by decide +kernel
theorem dX4_thing_20 : decode cX4_thing 20 = .ok (.putfield 36, 3) := by decide +kernel
theorem dX4_thing_23 : decode cX4_thing 23 = .ok (.aload_n 0, 1) := by decide +kernel
theorem dX4_thing_24 : decode cX4_thing 24 = .ok (.getfield 10, 3) := by decide +kernel
theorem dX4_thing_27 : decode cX4_thing 27 = .ok (.dup, 1) := by decide +kernel
theorem dX4_thing_28 : decode cX4_thing 28 = .ok (.getfield 32, 3) := by decide +kernel
theorem dX4_thing_31 : decode cX4_thing 31 = .ok (.iconst 1, 1) := by decide +kernel
theorem dX4_thing_32 : decode cX4_thing 32 = .ok (.iadd, 1) := by decide +kernel
theorem dX4_thing_33 : decode cX4_thing 33 = .ok (.putfield 32, 3) := by decide +kernel
theorem dX4_thing_36 : decode cX4_thing 36 = .ok (.aload_n 0, 1) := by decide +kernel
theorem dX4_thing_37 : decode cX4_thing 37 = .ok (.getfield 10, 3) := by decide +kernel
theorem dX4_thing_40 : decode cX4_thing 40 = .ok (.getfield 32, 3) := by decide +kernel
theorem dX4_thing_43 : decode cX4_thing 43 = .ok (.iconst 1, 1) := by decide +kernel
theorem dX4_thing_44 : decode cX4_thing 44 = .ok (.isub, 1) := by decide +kernel
theorem dX4_thing_45 : decode cX4_thing 45 = .ok (.ireturn, 1) := by decide +kernel
set_option maxRecDepth 20000 in
theorem ggX4_list_X4_within : GoodIn wsX4_list wsX4_within := goodIn_r _ [8] (by decide +kernel) (by decide +kernel)
set_option maxRecDepth 20000 in
theorem gX4_list_X4_within : GoodIn wsX4_list (va_wsS RX4 40 yX4_within wsX4_within) := goodIn_app (goodIn_of _ (by decide +kernel)) ggX4_list_X4_within
set_option maxRecDepth 20000 in
theorem ggX4_list_X0_addList : GoodIn wsX4_list wsX0_addList := goodIn_r _ [13, 14, 15, 16, 17, 21, 22, 23, 24, 25, 26, 27, 28, 29, 30, 31, 32, 33] (by decide +kernel) (by decide +kernel)
set_option maxRecDepth 20000 in
theorem gX4_list_X0_addList : GoodIn wsX4_list (wsV RX4 47 RX0 yX0_addList wsX0_addList) := goodIn_app (goodIn_of _ (by decide +kernel)) ggX4_list_X0_addList
theorem dX4_list_0 : decode cX4_list 0 = .ok (.iload_n 1, 1) := by decide +kernel
theorem dX4_list_1 : decode cX4_list 1 = .ok (.iconst 0, 1) := by decide +kernel
theorem dX4_list_2 : decode cX4_list 2 = .ok (.bipush 10, 2) := by decide +kernel
theorem dX4_list_4 : decode cX4_list 4 = .ok (.invokestatic 40, 3) := by decide +kernel
theorem dX4_list_7 : decode cX4_list 7 = .ok (.ifCond .eq 23, 3) := by decide +kernel
theorem dX4_list_10 : decode cX4_list 10 = .ok (.iload_n 2, 1) := by decide +kernel
theorem dX4_list_11 : decode cX4_list 11 = .ok (.iconst 1, 1) := by decide +kernel
theorem dX4_list_12 : decode cX4_list 12 = .ok (.bipush 100, 2) := by decide +kernel
theorem dX4_list_14 : decode cX4_list 14 = .ok (.invokestatic 40, 3) := by decide +kernel
theorem dX4_list_17 : decode cX4_list 17 = .ok (.ifCond .eq 13, 3) := by decide +kernel
theorem dX4_list_20 : decode cX4_list 20 = .ok (.iload_n 3, 1) := by decide +kernel
theorem dX4_list_21 : decode cX4_list 21 = .ok (.iconst 0, 1) := by decide +kernel
theorem dX4_list_22 : decode cX4_list 22 = .ok (.bipush 100, 2) := by decide +kernel
theorem dX4_list_24 : decode cX4_list 24 = .ok (.invokestatic 40, 3) := by decide +kernel
theorem dX4_list_27 : decode cX4_list 27 = .ok (.ifCond .ne 6, 3) := by decide +kernel
theorem dX4_list_30 : decode cX4_list 30 = .ok (.bipush (-2), 2) := by decide +kernel
theorem dX4_list_32 : decode cX4_list 32 = .ok (.ireturn, 1) := by decide +kernel
theorem dX4_list_33 : decode cX4_list 33 = .ok (.aload_n 0, 1) := by decide +kernel
theorem dX4_list_34 : decode cX4_list 34 = .ok (.getfield 10, 3) := by decide +kernel
theorem dX4_list_37 : decode cX4_list 37 = .ok (.getfield 44, 3) := by decide +kernel
theorem dX4_list_40 : decode cX4_list 40 = .ok (.iconst 4, 1) := by decide +kernel
theorem dX4_list_41 : decode cX4_list 41 = .ok (.if_icmp .lt 6, 3) := by decide +kernel
theorem dX4_list_44 : decode cX4_list 44 = .ok (.bipush (-4), 2) := by decide +kernel
theorem dX4_list_46 : decode cX4_list 46 = .ok (.ireturn, 1) := by decide +kernel
theorem dX4_list_47 : decode cX4_list 47 = .ok (.aload_n 0, 1) := by decide +kernel
theorem dX4_list_48 : decode cX4_list 48 = .ok (.getfield 21, 3) := by decide +kernel
theorem dX4_list_51 : decode cX4_list 51 = .ok (.iconst 0, 1) := by decide +kernel
theorem dX4_list_52 : decode cX4_list 52 = .ok (.putfield 36, 3) := by decide +kernel
theorem dX4_list_55 : decode cX4_list 55 = .ok (.aload_n 0, 1) := by decide +kernel
theorem dX4_list_56 : decode cX4_list 56 = .ok (.getfield 10, 3) := by decide +kernel
theorem dX4_list_59 : decode cX4_list 59 = .ok (.iload_n 1, 1) := by decide +kernel
theorem dX4_list_60 : decode cX4_list 60 = .ok (.iload_n 2, 1) := by decide +kernel
theorem dX4_list_61 : decode cX4_list 61 = .ok (.iload_n 3, 1) := by decide +kernel
theorem dX4_list_62 : decode cX4_list 62 = .ok (.invokevirtual 47, 3) := by decide +kernel
theorem dX4_list_65 : decode cX4_list 65 = .ok (.ireturn, 1) := by decide +kernel
set_option maxRecDepth 20000 in
theorem ggX4_mark_X0_hasList : GoodIn wsX4_mark wsX0_hasList := goodIn_r _ [6, 7, 8, 9, 10, 48, 49, 50, 51, 52, 53, 54, 55, 56, 57, 58, 59, 60] (by decide +kernel) (by decide +kernel)
set_option maxRecDepth 20000 in
theorem gX4_mark_X0_hasList : GoodIn wsX4_mark (wsV RX4 51 RX0 yX0_hasList wsX0_hasList) := goodIn_app (goodIn_of _ (by decide +kernel)) ggX4_mark_X0_hasList
set_option maxRecDepth 20000 in
theorem ggX4_mark_X0_hasThing : GoodIn wsX4_mark wsX0_hasThing := goodIn_r _ [14, 15, 8, 9, 10, 48, 49, 50, 51, 52, 53, 54, 55, 56, 57, 58, 59, 60] (by decide +kernel) (by decide +kernel)
set_option maxRecDepth 20000 in
theorem gX4_mark_X0_hasThing : GoodIn wsX4_mark (wsV RX4 55 RX0 yX0_hasThing wsX0_hasThing) := goodIn_app (goodIn_of _ (by decide +kernel)) ggX4_mark_X0_hasThing
set_option maxRecDepth 20000 in
theorem ggX4_mark_X4_within : GoodIn wsX4_mark wsX4_within := goodIn_r _ [10] (by decide +kernel) (by decide +kernel)
set_option maxRecDepth 20000 in
theorem gX4_mark_X4_within : GoodIn wsX4_mark (va_wsS RX4 40 yX4_within wsX4_within) := goodIn_app (goodIn_of _ (by decide +kernel)) ggX4_mark_X4_within
set_option maxRecDepth 20000 in
theorem ggX4_mark_X4_changeMark : GoodIn wsX4_mark wsX4_changeMark := goodIn_r _ [20, 1, 21, 22, 23, 24, 25, 26, 5, 27, 28, 29, 30, 31, 9, 32, 33, 34, 35, 36, 15, 37, 38, 39, 40, 41, 42, 43, 44, 45, 46, 47, 48, 49, 50, 51, 52, 53, 54, 55, 56, 57, 58, 59, 60, 61, 62, 63, 64, 65, 66, 67, 68, 69, 70] (by decide +kernel) (by decide +kernel)
set_option maxRecDepth 20000 in
theorem gX4_mark_X4_changeMark : GoodIn wsX4_mark (wsV RX4 58 RX4 yX4_changeMark wsX4_changeMark) := goodIn_app (goodIn_of _ (by decide +kernel)) ggX4_mark_X4_changeMark
theorem dX4_mark_0 : decode cX4_mark 0 = .ok (.aload_n 0, 1) := by decide +kernel
theorem dX4_mark_1 : decode cX4_mark 1 = .ok (.getfield 10, 3) := by decide +kernel
theorem dX4_mark_4 : decode cX4_mark 4 = .ok (.iload_n 1, 1) := by decide +kernel
theorem dX4_mark_5 : decode cX4_mark 5 = .ok (.invokevirtual 51, 3) := by decide +kernel
theorem dX4_mark_8 : decode cX4_mark 8 = .ok (.ifCond .eq 14, 3) := by decide +kernel
theorem dX4_mark_11 : decode cX4_mark 11 = .ok (.aload_n 0, 1) := by decide +kernel
theorem dX4_mark_12 : decode cX4_mark 12 = .ok (.getfield 10, 3) := by decide +kernel
theorem dX4_mark_15 : decode cX4_mark 15 = .ok (.iload_n 2, 1) := by decide +kernel
theorem dX4_mark_16 : decode cX4_mark 16 = .ok (.invokevirtual 55, 3) := by decide +kernel
theorem dX4_mark_19 : decode cX4_mark 19 = .ok (.ifCond .ne 5, 3) := by decide +kernel
theorem dX4_mark_22 : decode cX4_mark 22 = .ok (.iconst (-1), 1) := by decide +kernel
theorem dX4_mark_23 : decode cX4_mark 23 = .ok (.ireturn, 1) := by decide +kernel
theorem dX4_mark_24 : decode cX4_mark 24 = .ok (.iload_n 3, 1) := by decide +kernel
theorem dX4_mark_25 : decode cX4_mark 25 = .ok (.iconst 1, 1) := by decide +kernel
theorem dX4_mark_26 : decode cX4_mark 26 = .ok (.sipush 1000, 3) := by decide +kernel
theorem dX4_mark_29 : decode cX4_mark 29 = .ok (.invokestatic 40, 3) := by decide +kernel
theorem dX4_mark_32 : decode cX4_mark 32 = .ok (.ifCond .ne 6, 3) := by decide +kernel
theorem dX4_mark_35 : decode cX4_mark 35 = .ok (.bipush (-2), 2) := by decide +kernel
theorem dX4_mark_37 : decode cX4_mark 37 = .ok (.ireturn, 1) := by decide +kernel
theorem dX4_mark_38 : decode cX4_mark 38 = .ok (.aload_n 0, 1) := by decide +kernel
theorem dX4_mark_39 : decode cX4_mark 39 = .ok (.iload_n 1, 1) := by decide +kernel
theorem dX4_mark_40 : decode cX4_mark 40 = .ok (.iload_n 2, 1) := by decide +kernel
theorem dX4_mark_41 : decode cX4_mark 41 = .ok (.iload_n 3, 1) := by decide +kernel
theorem dX4_mark_42 : decode cX4_mark 42 = .ok (.invokevirtual 58, 3) := by decide +kernel
theorem dX4_mark_45 : decode cX4_mark 45 = .ok (.ireturn, 1) := by decide +kernel
set_option maxRecDepth 20000 in
theorem ggX4_unmark_X0_hasList : GoodIn wsX4_unmark wsX0_hasList := goodIn_r _ [6, 7, 8, 9, 10, 47, 48, 49, 50, 51, 52, 53, 54, 55, 56, 57, 58, 59] (by decide +kernel) (by decide +kernel)
set_option maxRecDepth 20000 in
theorem gX4_unmark_X0_hasList : GoodIn wsX4_unmark (wsV RX4 51 RX0 yX0_hasList wsX0_hasList) := goodIn_app (goodIn_of _ (by decide +kernel)) ggX4_unmark_X0_hasList
set_option maxRecDepth 20000 in
theorem ggX4_unmark_X0_hasThing : GoodIn wsX4_unmark wsX0_hasThing := goodIn_r _ [14, 15, 8, 9, 10, 47, 48, 49, 50, 51, 52, 53, 54, 55, 56, 57, 58, 59] (by decide +kernel) (by decide +kernel)
set_option maxRecDepth 20000 in
theorem gX4_unmark_X0_hasThing : GoodIn wsX4_unmark (wsV RX4 55 RX0 yX0_hasThing wsX0_hasThing) := goodIn_app (goodIn_of _ (by decide +kernel)) ggX4_unmark_X0_hasThing
set_option maxRecDepth 20000 in
theorem ggX4_unmark_X4_changeMark : GoodIn wsX4_unmark wsX4_changeMark := goodIn_r _ [19, 1, 20, 21, 22, 23, 24, 25, 5, 26, 27, 28, 29, 30, 9, 31, 32, 33, 34, 35, 15, 36, 37, 38, 39, 40, 41, 42, 43, 44, 45, 46, 47, 48, 49, 50, 51, 52, 53, 54, 55, 56, 57, 58, 59, 60, 61, 62, 63, 64, 65, 66, 67, 68, 69] (by decide +kernel) (by decide +kernel)
set_option maxRecDepth 20000 in
theorem gX4_unmark_X4_changeMark : GoodIn wsX4_unmark (wsV RX4 58 RX4 yX4_changeMark wsX4_changeMark) := goodIn_app (goodIn_of _ (by decide +kernel)) ggX4_unmark_X4_changeMark
theorem dX4_unmark_0 : decode cX4_unmark 0 = .ok (.aload_n 0, 1) := by decide +kernel
theorem dX4_unmark_1 : decode cX4_unmark 1 = .ok (.getfield 10, 3) := by decide +kernel
theorem dX4_unmark_4 : decode cX4_unmark 4 = .ok (.iload_n 1, 1) := by decide +kernel
theorem dX4_unmark_5 : decode cX4_unmark 5 = .ok (.invokevirtual 51, 3) := by decide +kernel
theorem dX4_unmark_8 : decode cX4_unmark 8 = .ok (.ifCond .eq 14, 3) := by decide +kernel
theorem dX4_unmark_11 : decode cX4_unmark 11 = .ok (.aload_n 0, 1) := by decide +kernel
theorem dX4_unmark_12 : decode cX4_unmark 12 = .ok (.getfield 10, 3) := by decide +kernel
theorem dX4_unmark_15 : decode cX4_unmark 15 = .ok (.iload_n 2, 1) := by decide +kernel
theorem dX4_unmark_16 : decode cX4_unmark 16 = .ok (.invokevirtual 55, 3) := by decide +kernel
theorem dX4_unmark_19 : decode cX4_unmark 19 = .ok (.ifCond .ne 5, 3) := by decide +kernel
theorem dX4_unmark_22 : decode cX4_unmark 22 = .ok (.iconst (-1), 1) := by decide +kernel
theorem dX4_unmark_23 : decode cX4_unmark 23 = .ok (.ireturn, 1) := by decide +kernel
theorem dX4_unmark_24 : decode cX4_unmark 24 = .ok (.aload_n 0, 1) := by decide +kernel
theorem dX4_unmark_25 : decode cX4_unmark 25 = .ok (.iload_n 1, 1) := by decide +kernel
theorem dX4_unmark_26 : decode cX4_unmark 26 = .ok (.iload_n 2, 1) := by decide +kernel
theorem dX4_unmark_27 : decode cX4_unmark 27 = .ok (.iconst 0, 1) := by decide +kernel
theorem dX4_unmark_28 : decode cX4_unmark 28 = .ok (.invokevirtual 58, 3) := by decide +kernel
theorem dX4_unmark_31 : decode cX4_unmark 31 = .ok (.ireturn, 1) := by decide +kernel
set_option maxRecDepth 20000 in
theorem ggX4_weigh_X0_hasList : GoodIn wsX4_weigh wsX0_hasList := goodIn_r _ [9, 10, 11, 12, 13, 18, 19, 20, 21, 22, 23, 24, 25, 26, 27, 28, 29, 30] (by decide +kernel) (by decide +kernel)
set_option maxRecDepth 20000 in
theorem gX4_weigh_X0_hasList : GoodIn wsX4_weigh (wsV RX4 51 RX0 yX0_hasList wsX0_hasList) := goodIn_app (goodIn_of _ (by decide +kernel)) ggX4_weigh_X0_hasList
set_option maxRecDepth 20000 in
theorem ggX4_weigh_X4_within : GoodIn wsX4_weigh wsX4_within := goodIn_r _ [13] (by decide +kernel) (by decide +kernel)
set_option maxRecDepth 20000 in
theorem gX4_weigh_X4_within : GoodIn wsX4_weigh (va_wsS RX4 40 yX4_within wsX4_within) := goodIn_app (goodIn_of _ (by decide +kernel)) ggX4_weigh_X4_within
theorem dX4_weigh_0 : decode cX4_weigh 0 = .ok (.aload_n 0, 1) := by decide +kernel
theorem dX4_weigh_1 : decode cX4_weigh 1 = .ok (.getfield 10, 3) := by decide +kernel
theorem dX4_weigh_4 : decode cX4_weigh 4 = .ok (.iload_n 1, 1) := by decide +kernel
theorem dX4_weigh_5 : decode cX4_weigh 5 = .ok (.invokevirtual 51, 3) := by decide +kernel
theorem dX4_weigh_8 : decode cX4_weigh 8 = .ok (.ifCond .ne 5, 3) := by decide +kernel
theorem dX4_weigh_11 : decode cX4_weigh 11 = .ok (.iconst (-1), 1) := by decide +kernel
theorem dX4_weigh_12 : decode cX4_weigh 12 = .ok (.ireturn, 1) := by decide +kernel
theorem dX4_weigh_13 : decode cX4_weigh 13 = .ok (.iload_n 2, 1) := by decide +kernel
theorem dX4_weigh_14 : decode cX4_weigh 14 = .ok (.iconst 0, 1) := by decide +kernel
theorem dX4_weigh_15 : decode cX4_weigh 15 = .ok (.bipush 10, 2) := by decide +kernel
theorem dX4_weigh_17 : decode cX4_weigh 17 = .ok (.invokestatic 40, 3) := by decide +kernel
theorem dX4_weigh_20 : decode cX4_weigh 20 = .ok (.ifCond .ne 6, 3) := by decide +kernel
theorem dX4_weigh_23 : decode cX4_weigh 23 = .ok (.bipush (-2), 2) := by decide +kernel
theorem dX4_weigh_25 : decode cX4_weigh 25 = .ok (.ireturn, 1) := by decide +kernel
theorem dX4_weigh_26 : decode cX4_weigh 26 = .ok (.aload_n 0, 1) := by decide +kernel
theorem dX4_weigh_27 : decode cX4_weigh 27 = .ok (.getfield 10, 3) := by decide +kernel
theorem dX4_weigh_30 : decode cX4_weigh 30 = .ok (.getfield 61, 3) := by decide +kernel
theorem dX4_weigh_33 : decode cX4_weigh 33 = .ok (.iload_n 1, 1) := by decide +kernel
theorem dX4_weigh_34 : decode cX4_weigh 34 = .ok (.iaload, 1) := by decide +kernel
theorem dX4_weigh_35 : decode cX4_weigh 35 = .ok (.istore_n 3, 1) := by decide +kernel
theorem dX4_weigh_36 : decode cX4_weigh 36 = .ok (.iload_n 3, 1) := by decide +kernel
theorem dX4_weigh_37 : decode cX4_weigh 37 = .ok (.iload_n 2, 1) := by decide +kernel
theorem dX4_weigh_38 : decode cX4_weigh 38 = .ok (.if_icmp .eq 11, 3) := by decide +kernel
theorem dX4_weigh_41 : decode cX4_weigh 41 = .ok (.aload_n 0, 1) := by decide +kernel
theorem dX4_weigh_42 : decode cX4_weigh 42 = .ok (.getfield 21, 3) := by decide +kernel
theorem dX4_weigh_45 : decode cX4_weigh 45 = .ok (.iconst 0, 1) := by decide +kernel
theorem dX4_weigh_46 : decode cX4_weigh 46 = .ok (.putfield 36, 3) := by decide +kernel
theorem dX4_weigh_49 : decode cX4_weigh 49 = .ok (.aload_n 0, 1) := by decide +kernel
theorem dX4_weigh_50 : decode cX4_weigh 50 = .ok (.getfield 10, 3) := by decide +kernel
theorem dX4_weigh_53 : decode cX4_weigh 53 = .ok (.getfield 61, 3) := by decide +kernel
theorem dX4_weigh_56 : decode cX4_weigh 56 = .ok (.iload_n 1, 1) := by decide +kernel
theorem dX4_weigh_57 : decode cX4_weigh 57 = .ok (.iload_n 2, 1) := by decide +kernel
theorem dX4_weigh_58 : decode cX4_weigh 58 = .ok (.iastore, 1) := by decide +kernel
theorem dX4_weigh_59 : decode cX4_weigh 59 = .ok (.iload_n 3, 1) := by decide +kernel
theorem dX4_weigh_60 : decode cX4_weigh 60 = .ok (.ireturn, 1) := by decide +kernel
set_option maxRecDepth 20000 in
theorem ggX4_rule_X4_within : GoodIn wsX4_rule wsX4_within := goodIn_r _ [8] (by decide +kernel) (by decide +kernel)
set_option maxRecDepth 20000 in
theorem gX4_rule_X4_within : GoodIn wsX4_rule (va_wsS RX4 40 yX4_within wsX4_within) := goodIn_app (goodIn_of _ (by decide +kernel)) ggX4_rule_X4_within
theorem dX4_rule_0 : decode cX4_rule 0 = .ok (.iload_n 1, 1) := by decide +kernel
theorem dX4_rule_1 : decode cX4_rule 1 = .ok (.iconst 0, 1) := by decide +kernel
theorem dX4_rule_2 : decode cX4_rule 2 = .ok (.iconst 2, 1) := by decide +kernel
theorem dX4_rule_3 : decode cX4_rule 3 = .ok (.invokestatic 40, 3) := by decide +kernel
theorem dX4_rule_6 : decode cX4_rule 6 = .ok (.ifCond .ne 6, 3) := by decide +kernel
theorem dX4_rule_9 : decode cX4_rule 9 = .ok (.bipush (-2), 2) := by decide +kernel
theorem dX4_rule_11 : decode cX4_rule 11 = .ok (.ireturn, 1) := by decide +kernel
theorem dX4_rule_12 : decode cX4_rule 12 = .ok (.aload_n 0, 1) := by decide +kernel
theorem dX4_rule_13 : decode cX4_rule 13 = .ok (.getfield 10, 3) := by decide +kernel
theorem dX4_rule_16 : decode cX4_rule 16 = .ok (.getfield 65, 3) := by decide +kernel
theorem dX4_rule_19 : decode cX4_rule 19 = .ok (.istore_n 2, 1) := by decide +kernel
theorem dX4_rule_20 : decode cX4_rule 20 = .ok (.iload_n 2, 1) := by decide +kernel
theorem dX4_rule_21 : decode cX4_rule 21 = .ok (.iload_n 1, 1) := by decide +kernel
theorem dX4_rule_22 : decode cX4_rule 22 = .ok (.if_icmp .eq 11, 3) := by decide +kernel
theorem dX4_rule_25 : decode cX4_rule 25 = .ok (.aload_n 0, 1) := by decide +kernel
theorem dX4_rule_26 : decode cX4_rule 26 = .ok (.getfield 21, 3) := by decide +kernel
theorem dX4_rule_29 : decode cX4_rule 29 = .ok (.iconst 0, 1) := by decide +kernel
theorem dX4_rule_30 : decode cX4_rule 30 = .ok (.putfield 36, 3) := by decide +kernel
