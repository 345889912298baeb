theorem dX0_init_0 : decode cX0_init 0 = .ok (.aload_n 0, 1) := by decide +kernel
theorem dX0_init_1 : decode cX0_init 1 = .ok (.invokespecial 3, 3) := by decide +kernel
theorem dX0_init_4 : decode cX0_init 4 = .ok (.aload_n 0, 1) := by decide +kernel
theorem dX0_init_5 : decode cX0_init 5 = .ok (.iconst 0, 1) := by decide +kernel
theorem dX0_init_6 : decode cX0_init 6 = .ok (.putfield 9, 3) := by decide +kernel
theorem dX0_init_9 : decode cX0_init 9 = .ok (.aload_n 0, 1) := by decide +kernel
theorem dX0_init_10 : decode cX0_init 10 = .ok (.iconst 4, 1) := by decide +kernel
theorem dX0_init_11 : decode cX0_init 11 = .ok (.newarray .int, 2) := by decide +kernel
theorem dX0_init_13 : decode cX0_init 13 = .ok (.putfield 15, 3) := by decide +kernel
theorem dX0_init_16 : decode cX0_init 16 = .ok (.aload_n 0, 1) := by decide +kernel
theorem dX0_init_17 : decode cX0_init 17 = .ok (.iconst 4, 1) := by decide +kernel
theorem dX0_init_18 : decode cX0_init 18 = .ok (.newarray .int, 2) := by decide +kernel
theorem dX0_init_20 : decode cX0_init 20 = .ok (.putfield 19, 3) := by decide +kernel
theorem dX0_init_23 : decode cX0_init 23 = .ok (.aload_n 0, 1) := by decide +kernel
theorem dX0_init_24 : decode cX0_init 24 = .ok (.iconst 4, 1) := by decide +kernel
theorem dX0_init_25 : decode cX0_init 25 = .ok (.newarray .int, 2) := by decide +kernel
theorem dX0_init_27 : decode cX0_init 27 = .ok (.putfield 22, 3) := by decide +kernel
theorem dX0_init_30 : decode cX0_init 30 = .ok (.aload_n 0, 1) := by decide +kernel
theorem dX0_init_31 : decode cX0_init 31 = .ok (.iconst 4, 1) := by decide +kernel
theorem dX0_init_32 : decode cX0_init 32 = .ok (.newarray .int, 2) := by decide +kernel
theorem dX0_init_34 : decode cX0_init 34 = .ok (.putfield 25, 3) := by decide +kernel
theorem dX0_init_37 : decode cX0_init 37 = .ok (.aload_n 0, 1) := by decide +kernel
theorem dX0_init_38 : decode cX0_init 38 = .ok (.iconst 4, 1) := by decide +kernel
theorem dX0_init_39 : decode cX0_init 39 = .ok (.bipush 20, 2) := by decide +kernel
theorem dX0_init_41 : decode cX0_init 41 = .ok (.multianewarray 28 2, 4) := by decide +kernel
theorem dX0_init_45 : decode cX0_init 45 = .ok (.putfield 30, 3) := by decide +kernel
theorem dX0_init_48 : decode cX0_init 48 = .ok (.aload_n 0, 1) := by decide +kernel
theorem dX0_init_49 : decode cX0_init 49 = .ok (.iconst 4, 1) := by decide +kernel
theorem dX0_init_50 : decode cX0_init 50 = .ok (.bipush 20, 2) := by decide +kernel
theorem dX0_init_52 : decode cX0_init 52 = .ok (.multianewarray 28 2, 4) := by decide +kernel
theorem dX0_init_56 : decode cX0_init 56 = .ok (.putfield 33, 3) := by decide +kernel
theorem dX0_init_59 : decode cX0_init 59 = .ok (.aload_n 0, 1) := by decide +kernel
theorem dX0_init_60 : decode cX0_init 60 = .ok (.iconst 4, 1) := by decide +kernel
theorem dX0_init_61 : decode cX0_init 61 = .ok (.bipush 20, 2) := by decide +kernel
theorem dX0_init_63 : decode cX0_init 63 = .ok (.multianewarray 28 2, 4) := by decide +kernel
theorem dX0_init_67 : decode cX0_init 67 = .ok (.putfield 36, 3) := by decide +kernel
theorem dX0_init_70 : decode cX0_init 70 = .ok (.aload_n 0, 1) := by decide +kernel
theorem dX0_init_71 : decode cX0_init 71 = .ok (.iconst 4, 1) := by decide +kernel
theorem dX0_init_72 : decode cX0_init 72 = .ok (.newarray .int, 2) := by decide +kernel
theorem dX0_init_74 : decode cX0_init 74 = .ok (.putfield 39, 3) := by decide +kernel
theorem dX0_init_77 : decode cX0_init 77 = .ok (.aload_n 0, 1) := by decide +kernel
theorem dX0_init_78 : decode cX0_init 78 = .ok (.bipush 20, 2) := by decide +kernel
theorem dX0_init_80 : decode cX0_init 80 = .ok (.newarray .int, 2) := by decide +kernel
theorem dX0_init_82 : decode cX0_init 82 = .ok (.putfield 42, 3) := by decide +kernel
theorem dX0_init_85 : decode cX0_init 85 = .ok (.return_, 1) := by decide +kernel
set_option maxRecDepth 20000 in
theorem ggX0_hasThing_X4_within : GoodIn wsX0_hasThing wsX4_within := goodIn_r _ [4] (by decide +kernel) (by decide +kernel)
set_option maxRecDepth 20000 in
theorem gX0_hasThing_X4_within_n48 : GoodIn wsX0_hasThing (wsX4_within) := ggX0_hasThing_X4_within
theorem dX0_hasThing_0 : decode cX0_hasThing 0 = .ok (.iload_n 1, 1) := by decide +kernel
theorem dX0_hasThing_1 : decode cX0_hasThing 1 = .ok (.iconst 0, 1) := by decide +kernel
theorem dX0_hasThing_2 : decode cX0_hasThing 2 = .ok (.aload_n 0, 1) := by decide +kernel
theorem dX0_hasThing_3 : decode cX0_hasThing 3 = .ok (.getfield 45, 3) := by decide +kernel
theorem dX0_hasThing_6 : decode cX0_hasThing 6 = .ok (.iconst 1, 1) := by decide +kernel
theorem dX0_hasThing_7 : decode cX0_hasThing 7 = .ok (.isub, 1) := by decide +kernel
theorem dX0_hasThing_8 : decode cX0_hasThing 8 = .ok (.invokestatic 48, 3) := by decide +kernel
theorem dX0_hasThing_11 : decode cX0_hasThing 11 = .ok (.ireturn, 1) := by decide +kernel
set_option maxRecDepth 20000 in
theorem ggX0_hasList_X4_within : GoodIn wsX0_hasList wsX4_within := goodIn_r _ [4] (by decide +kernel) (by decide +kernel)
set_option maxRecDepth 20000 in
theorem gX0_hasList_X4_within_n48 : GoodIn wsX0_hasList (wsX4_within) := ggX0_hasList_X4_within
theorem dX0_hasList_0 : decode cX0_hasList 0 = .ok (.iload_n 1, 1) := by decide +kernel
theorem dX0_hasList_1 : decode cX0_hasList 1 = .ok (.iconst 0, 1) := by decide +kernel
theorem dX0_hasList_2 : decode cX0_hasList 2 = .ok (.aload_n 0, 1) := by decide +kernel
theorem dX0_hasList_3 : decode cX0_hasList 3 = .ok (.getfield 52, 3) := by decide +kernel
theorem dX0_hasList_6 : decode cX0_hasList 6 = .ok (.iconst 1, 1) := by decide +kernel
theorem dX0_hasList_7 : decode cX0_hasList 7 = .ok (.isub, 1) := by decide +kernel
theorem dX0_hasList_8 : decode cX0_hasList 8 = .ok (.invokestatic 48, 3) := by decide +kernel
theorem dX0_hasList_11 : decode cX0_hasList 11 = .ok (.ireturn, 1) := by decide +kernel
set_option maxRecDepth 20000 in
theorem ggX0_mayAskFor_X4_within : GoodIn wsX0_mayAskFor wsX4_within := goodIn_r _ [4] (by decide +kernel) (by decide +kernel)
set_option maxRecDepth 20000 in
theorem gX0_mayAskFor_X4_within_n48 : GoodIn wsX0_mayAskFor (wsX4_within) := ggX0_mayAskFor_X4_within
theorem dX0_mayAskFor_0 : decode cX0_mayAskFor 0 = .ok (.iload_n 1, 1) := by decide +kernel
theorem dX0_mayAskFor_1 : decode cX0_mayAskFor 1 = .ok (.iconst 1, 1) := by decide +kernel
theorem dX0_mayAskFor_2 : decode cX0_mayAskFor 2 = .ok (.aload_n 0, 1) := by decide +kernel
theorem dX0_mayAskFor_3 : decode cX0_mayAskFor 3 = .ok (.getfield 45, 3) := by decide +kernel
theorem dX0_mayAskFor_6 : decode cX0_mayAskFor 6 = .ok (.invokestatic 48, 3) := by decide +kernel
theorem dX0_mayAskFor_9 : decode cX0_mayAskFor 9 = .ok (.ireturn, 1) := by decide +kernel
set_option maxRecDepth 20000 in
theorem ggX0_isDepth_X0_hasList : GoodIn wsX0_isDepth wsX0_hasList := goodIn_r _ [6, 7, 8, 9, 10, 11, 12, 13, 14, 15, 16, 17, 18, 19, 20, 21, 22, 23] (by decide +kernel) (by decide +kernel)
set_option maxRecDepth 20000 in
theorem gX0_isDepth_X0_hasList : GoodIn wsX0_isDepth (wsV RX0 55 RX0 yX0_hasList wsX0_hasList) := goodIn_app (goodIn_of _ (by decide +kernel)) ggX0_isDepth_X0_hasList
set_option maxRecDepth 20000 in
theorem ggX0_isDepth_X4_within : GoodIn wsX0_isDepth wsX4_within := goodIn_r _ [10] (by decide +kernel) (by decide +kernel)
set_option maxRecDepth 20000 in
theorem gX0_isDepth_X4_within_n48 : GoodIn wsX0_isDepth (wsX4_within) := ggX0_isDepth_X4_within
theorem dX0_isDepth_0 : decode cX0_isDepth 0 = .ok (.iload_n 2, 1) := by decide +kernel
theorem dX0_isDepth_1 : decode cX0_isDepth 1 = .ok (.iconst 0, 1) := by decide +kernel
theorem dX0_isDepth_2 : decode cX0_isDepth 2 = .ok (.aload_n 0, 1) := by decide +kernel
theorem dX0_isDepth_3 : decode cX0_isDepth 3 = .ok (.iload_n 1, 1) := by decide +kernel
theorem dX0_isDepth_4 : decode cX0_isDepth 4 = .ok (.invokevirtual 55, 3) := by decide +kernel
theorem dX0_isDepth_7 : decode cX0_isDepth 7 = .ok (.ifCond .eq 12, 3) := by decide +kernel
theorem dX0_isDepth_10 : decode cX0_isDepth 10 = .ok (.aload_n 0, 1) := by decide +kernel
theorem dX0_isDepth_11 : decode cX0_isDepth 11 = .ok (.getfield 25, 3) := by decide +kernel
theorem dX0_isDepth_14 : decode cX0_isDepth 14 = .ok (.iload_n 1, 1) := by decide +kernel
theorem dX0_isDepth_15 : decode cX0_isDepth 15 = .ok (.iaload, 1) := by decide +kernel
theorem dX0_isDepth_16 : decode cX0_isDepth 16 = .ok (.goto 4, 3) := by decide +kernel
theorem dX0_isDepth_19 : decode cX0_isDepth 19 = .ok (.iconst 0, 1) := by decide +kernel
theorem dX0_isDepth_20 : decode cX0_isDepth 20 = .ok (.invokestatic 48, 3) := by decide +kernel
theorem dX0_isDepth_23 : decode cX0_isDepth 23 = .ok (.ireturn, 1) := by decide +kernel
theorem dX0_depthRows_0 : decode cX0_depthRows 0 = .ok (.iconst 1, 1) := by decide +kernel
theorem dX0_depthRows_1 : decode cX0_depthRows 1 = .ok (.istore_n 1, 1) := by decide +kernel
theorem dX0_depthRows_2 : decode cX0_depthRows 2 = .ok (.iconst 0, 1) := by decide +kernel
theorem dX0_depthRows_3 : decode cX0_depthRows 3 = .ok (.istore_n 2, 1) := by decide +kernel
theorem dX0_depthRows_4 : decode cX0_depthRows 4 = .ok (.iload_n 2, 1) := by decide +kernel
theorem dX0_depthRows_5 : decode cX0_depthRows 5 = .ok (.aload_n 0, 1) := by decide +kernel
theorem dX0_depthRows_6 : decode cX0_depthRows 6 = .ok (.getfield 52, 3) := by decide +kernel
theorem dX0_depthRows_9 : decode cX0_depthRows 9 = .ok (.if_icmp .ge 20, 3) := by decide +kernel
theorem dX0_depthRows_12 : decode cX0_depthRows 12 = .ok (.iload_n 1, 1) := by decide +kernel
theorem dX0_depthRows_13 : decode cX0_depthRows 13 = .ok (.aload_n 0, 1) := by decide +kernel
theorem dX0_depthRows_14 : decode cX0_depthRows 14 = .ok (.getfield 25, 3) := by decide +kernel
theorem dX0_depthRows_17 : decode cX0_depthRows 17 = .ok (.iload_n 2, 1) := by decide +kernel
theorem dX0_depthRows_18 : decode cX0_depthRows 18 = .ok (.iaload, 1) := by decide +kernel
theorem dX0_depthRows_19 : decode cX0_depthRows 19 = .ok (.iconst 1, 1) := by decide +kernel
theorem dX0_depthRows_20 : decode cX0_depthRows 20 = .ok (.iadd, 1) := by decide +kernel
theorem dX0_depthRows_21 : decode cX0_depthRows 21 = .ok (.imul, 1) := by decide +kernel
theorem dX0_depthRows_22 : decode cX0_depthRows 22 = .ok (.istore_n 1, 1) := by decide +kernel
theorem dX0_depthRows_23 : decode cX0_depthRows 23 = .ok (.iinc 2 1, 3) := by decide +kernel
theorem dX0_depthRows_26 : decode cX0_depthRows 26 = .ok (.goto (-22), 3) := by decide +kernel
theorem dX0_depthRows_29 : decode cX0_depthRows 29 = .ok (.iload_n 1, 1) := by decide +kernel
theorem dX0_depthRows_30 : decode cX0_depthRows 30 = .ok (.ireturn, 1) := by decide +kernel
theorem dX0_addList_0 : decode cX0_addList 0 = .ok (.aload_n 0, 1) := by decide +kernel
theorem dX0_addList_1 : decode cX0_addList 1 = .ok (.getfield 52, 3) := by decide +kernel
theorem dX0_addList_4 : decode cX0_addList 4 = .ok (.istore 4, 2) := by decide +kernel
theorem dX0_addList_6 : decode cX0_addList 6 = .ok (.aload_n 0, 1) := by decide +kernel
theorem dX0_addList_7 : decode cX0_addList 7 = .ok (.getfield 15, 3) := by decide +kernel
theorem dX0_addList_10 : decode cX0_addList 10 = .ok (.iload 4, 2) := by decide +kernel
theorem dX0_addList_12 : decode cX0_addList 12 = .ok (.iload_n 1, 1) := by decide +kernel
theorem dX0_addList_13 : decode cX0_addList 13 = .ok (.iastore, 1) := by decide +kernel
theorem dX0_addList_14 : decode cX0_addList 14 = .ok (.aload_n 0, 1) := by decide +kernel
theorem dX0_addList_15 : decode cX0_addList 15 = .ok (.getfield 19, 3) := by decide +kernel
theorem dX0_addList_18 : decode cX0_addList 18 = .ok (.iload 4, 2) := by decide +kernel
theorem dX0_addList_20 : decode cX0_addList 20 = .ok (.iload_n 2, 1) := by decide +kernel
theorem dX0_addList_21 : decode cX0_addList 21 = .ok (.iastore, 1) := by decide +kernel
theorem dX0_addList_22 : decode cX0_addList 22 = .ok (.aload_n 0, 1) := by decide +kernel
theorem dX0_addList_23 : decode cX0_addList 23 = .ok (.getfield 22, 3) := by decide +kernel
theorem dX0_addList_26 : decode cX0_addList 26 = .ok (.iload 4, 2) := by decide +kernel
theorem dX0_addList_28 : decode cX0_addList 28 = .ok (.iload_n 3, 1) := by decide +kernel
theorem dX0_addList_29 : decode cX0_addList 29 = .ok (.iastore, 1) := by decide +kernel
theorem dX0_addList_30 : decode cX0_addList 30 = .ok (.aload_n 0, 1) := by decide +kernel
theorem dX0_addList_31 : decode cX0_addList 31 = .ok (.dup, 1) := by decide +kernel
theorem dX0_addList_32 : decode cX0_addList 32 = .ok (.getfield 52, 3) := by decide +kernel
theorem dX0_addList_35 : decode cX0_addList 35 = .ok (.iconst 1, 1) := by decide +kernel
theorem dX0_addList_36 : decode cX0_addList 36 = .ok (.iadd, 1) := by decide +kernel
theorem dX0_addList_37 : decode cX0_addList 37 = .ok (.putfield 52, 3) := by decide +kernel
theorem dX0_addList_40 : decode cX0_addList 40 = .ok (.iload 4, 2) := by decide +kernel
theorem dX0_addList_42 : decode cX0_addList 42 = .ok (.ireturn, 1) := by decide +kernel
set_option maxRecDepth 20000 in
theorem ggX0_setMark_X4_yes : GoodIn wsX0_setMark wsX4_yes := goodIn_r _ [6] (by decide +kernel) (by decide +kernel)
set_option maxRecDepth 20000 in
theorem gX0_setMark_X4_yes_n59 : GoodIn wsX0_setMark (wsX4_yes) := ggX0_setMark_X4_yes
set_option maxRecDepth 20000 in
theorem ggX0_setMark_X0_orderRow : GoodIn wsX0_setMark wsX0_orderRow := goodIn_r _ [11, 1, 12, 13, 14, 15, 16, 17, 10, 18, 19, 5, 20, 21, 22, 23, 24, 25, 26, 27, 28, 29, 30, 31, 32, 33] (by decide +kernel) (by decide +kernel)
set_option maxRecDepth 20000 in
theorem gX0_setMark_X0_orderRow : GoodIn wsX0_setMark (wsV RX0 66 RX0 yX0_orderRow wsX0_orderRow) := goodIn_app (goodIn_of _ (by decide +kernel)) ggX0_setMark_X0_orderRow
theorem dX0_setMark_0 : decode cX0_setMark 0 = .ok (.iload_n 3, 1) := by decide +kernel
theorem dX0_setMark_1 : decode cX0_setMark 1 = .ok (.ifCond .eq 7, 3) := by decide +kernel
theorem dX0_setMark_4 : decode cX0_setMark 4 = .ok (.iconst 1, 1) := by decide +kernel
theorem dX0_setMark_5 : decode cX0_setMark 5 = .ok (.goto 4, 3) := by decide +kernel
theorem dX0_setMark_8 : decode cX0_setMark 8 = .ok (.iconst 0, 1) := by decide +kernel
theorem dX0_setMark_9 : decode cX0_setMark 9 = .ok (.invokestatic 59, 3) := by decide +kernel
theorem dX0_setMark_12 : decode cX0_setMark 12 = .ok (.aload_n 0, 1) := by decide +kernel
theorem dX0_setMark_13 : decode cX0_setMark 13 = .ok (.getfield 30, 3) := by decide +kernel
theorem dX0_setMark_16 : decode cX0_setMark 16 = .ok (.iload_n 1, 1) := by decide +kernel
theorem dX0_setMark_17 : decode cX0_setMark 17 = .ok (.aaload, 1) := by decide +kernel
theorem dX0_setMark_18 : decode cX0_setMark 18 = .ok (.iload_n 2, 1) := by decide +kernel
theorem dX0_setMark_19 : decode cX0_setMark 19 = .ok (.iaload, 1) := by decide +kernel
theorem dX0_setMark_20 : decode cX0_setMark 20 = .ok (.ifCond .eq 7, 3) := by decide +kernel
theorem dX0_setMark_23 : decode cX0_setMark 23 = .ok (.iconst 1, 1) := by decide +kernel
theorem dX0_setMark_24 : decode cX0_setMark 24 = .ok (.goto 4, 3) := by decide +kernel
theorem dX0_setMark_27 : decode cX0_setMark 27 = .ok (.iconst 0, 1) := by decide +kernel
theorem dX0_setMark_28 : decode cX0_setMark 28 = .ok (.invokestatic 59, 3) := by decide +kernel
theorem dX0_setMark_31 : decode cX0_setMark 31 = .ok (.isub, 1) := by decide +kernel
theorem dX0_setMark_32 : decode cX0_setMark 32 = .ok (.istore 4, 2) := by decide +kernel
theorem dX0_setMark_34 : decode cX0_setMark 34 = .ok (.aload_n 0, 1) := by decide +kernel
theorem dX0_setMark_35 : decode cX0_setMark 35 = .ok (.getfield 30, 3) := by decide +kernel
theorem dX0_setMark_38 : decode cX0_setMark 38 = .ok (.iload_n 1, 1) := by decide +kernel
theorem dX0_setMark_39 : decode cX0_setMark 39 = .ok (.aaload, 1) := by decide +kernel
theorem dX0_setMark_40 : decode cX0_setMark 40 = .ok (.iload_n 2, 1) := by decide +kernel
theorem dX0_setMark_41 : decode cX0_setMark 41 = .ok (.iload_n 3, 1) := by decide +kernel
theorem dX0_setMark_42 : decode cX0_setMark 42 = .ok (.iastore, 1) := by decide +kernel
theorem dX0_setMark_43 : decode cX0_setMark 43 = .ok (.aload_n 0, 1) := by decide +kernel
theorem dX0_setMark_44 : decode cX0_setMark 44 = .ok (.getfield 25, 3) := by decide +kernel
theorem dX0_setMark_47 : decode cX0_setMark 47 = .ok (.iload_n 1, 1) := by decide +kernel
theorem dX0_setMark_48 : decode cX0_setMark 48 = .ok (.dup2, 1) := by decide +kernel
theorem dX0_setMark_49 : decode cX0_setMark 49 = .ok (.iaload, 1) := by decide +kernel
theorem dX0_setMark_50 : decode cX0_setMark 50 = .ok (.iload 4, 2) := by decide +kernel
theorem dX0_setMark_52 : decode cX0_setMark 52 = .ok (.iadd, 1) := by decide +kernel
theorem dX0_setMark_53 : decode cX0_setMark 53 = .ok (.iastore, 1) := by decide +kernel
theorem dX0_setMark_54 : decode cX0_setMark 54 = .ok (.aload_n 0, 1) := by decide +kernel
theorem dX0_setMark_55 : decode cX0_setMark 55 = .ok (.dup, 1) := by decide +kernel
theorem dX0_setMark_56 : decode cX0_setMark 56 = .ok (.getfield 63, 3) := by decide +kernel
theorem dX0_setMark_59 : decode cX0_setMark 59 = .ok (.iload 4, 2) := by decide +kernel
theorem dX0_setMark_61 : decode cX0_setMark 61 = .ok (.iadd, 1) := by decide +kernel
theorem dX0_setMark_62 : decode cX0_setMark 62 = .ok (.putfield 63, 3) := by decide +kernel
theorem dX0_setMark_65 : decode cX0_setMark 65 = .ok (.aload_n 0, 1) := by decide +kernel
theorem dX0_setMark_66 : decode cX0_setMark 66 = .ok (.iload_n 1, 1) := by decide +kernel
theorem dX0_setMark_67 : decode cX0_setMark 67 = .ok (.invokevirtual 66, 3) := by decide +kernel
theorem dX0_setMark_70 : decode cX0_setMark 70 = .ok (.return_, 1) := by decide +kernel
set_option maxRecDepth 20000 in
theorem ggX0_orderRow_X0_rankOf : GoodIn wsX0_orderRow wsX0_rankOf := goodIn_r _ [9, 2, 10, 11, 12, 13, 14, 15, 16, 17, 18, 19, 20, 21, 22, 23, 24, 25] (by decide +kernel) (by decide +kernel)
set_option maxRecDepth 20000 in
theorem gX0_orderRow_X0_rankOf : GoodIn wsX0_orderRow (wsV RX0 70 RX0 yX0_rankOf wsX0_rankOf) := goodIn_app (goodIn_of _ (by decide +kernel)) ggX0_orderRow_X0_rankOf
theorem dX0_orderRow_0 : decode cX0_orderRow 0 = .ok (.aload_n 0, 1) := by decide +kernel
theorem dX0_orderRow_1 : decode cX0_orderRow 1 = .ok (.getfield 30, 3) := by decide +kernel
theorem dX0_orderRow_4 : decode cX0_orderRow 4 = .ok (.iload_n 1, 1) := by decide +kernel
theorem dX0_orderRow_5 : decode cX0_orderRow 5 = .ok (.aaload, 1) := by decide +kernel
theorem dX0_orderRow_6 : decode cX0_orderRow 6 = .ok (.astore_n 2, 1) := by decide +kernel
theorem dX0_orderRow_7 : decode cX0_orderRow 7 = .ok (.iconst 0, 1) := by decide +kernel
theorem dX0_orderRow_8 : decode cX0_orderRow 8 = .ok (.istore_n 3, 1) := by decide +kernel
theorem dX0_orderRow_9 : decode cX0_orderRow 9 = .ok (.iload_n 3, 1) := by decide +kernel
theorem dX0_orderRow_10 : decode cX0_orderRow 10 = .ok (.aload_n 0, 1) := by decide +kernel
theorem dX0_orderRow_11 : decode cX0_orderRow 11 = .ok (.getfield 45, 3) := by decide +kernel
theorem dX0_orderRow_14 : decode cX0_orderRow 14 = .ok (.if_icmp .ge 43, 3) := by decide +kernel
theorem dX0_orderRow_17 : decode cX0_orderRow 17 = .ok (.aload_n 2, 1) := by decide +kernel
theorem dX0_orderRow_18 : decode cX0_orderRow 18 = .ok (.iload_n 3, 1) := by decide +kernel
theorem dX0_orderRow_19 : decode cX0_orderRow 19 = .ok (.iaload, 1) := by decide +kernel
theorem dX0_orderRow_20 : decode cX0_orderRow 20 = .ok (.ifCond .eq 31, 3) := by decide +kernel
theorem dX0_orderRow_23 : decode cX0_orderRow 23 = .ok (.aload_n 0, 1) := by decide +kernel
theorem dX0_orderRow_24 : decode cX0_orderRow 24 = .ok (.iload_n 3, 1) := by decide +kernel
theorem dX0_orderRow_25 : decode cX0_orderRow 25 = .ok (.aload_n 2, 1) := by decide +kernel
theorem dX0_orderRow_26 : decode cX0_orderRow 26 = .ok (.invokevirtual 70, 3) := by decide +kernel
theorem dX0_orderRow_29 : decode cX0_orderRow 29 = .ok (.istore 4, 2) := by decide +kernel
theorem dX0_orderRow_31 : decode cX0_orderRow 31 = .ok (.aload_n 0, 1) := by decide +kernel
theorem dX0_orderRow_32 : decode cX0_orderRow 32 = .ok (.getfield 36, 3) := by decide +kernel
theorem dX0_orderRow_35 : decode cX0_orderRow 35 = .ok (.iload_n 1, 1) := by decide +kernel
theorem dX0_orderRow_36 : decode cX0_orderRow 36 = .ok (.aaload, 1) := by decide +kernel
theorem dX0_orderRow_37 : decode cX0_orderRow 37 = .ok (.iload_n 3, 1) := by decide +kernel
theorem dX0_orderRow_38 : decode cX0_orderRow 38 = .ok (.iload 4, 2) := by decide +kernel
theorem dX0_orderRow_40 : decode cX0_orderRow 40 = .ok (.iastore, 1) := by decide +kernel
theorem dX0_orderRow_41 : decode cX0_orderRow 41 = .ok (.aload_n 0, 1) := by decide +kernel
theorem dX0_orderRow_42 : decode cX0_orderRow 42 = .ok (.getfield 33, 3) := by decide +kernel
theorem dX0_orderRow_45 : decode cX0_orderRow 45 = .ok (.iload_n 1, 1) := by decide +kernel
theorem dX0_orderRow_46 : decode cX0_orderRow 46 = .ok (.aaload, 1) := by decide +kernel
theorem dX0_orderRow_47 : decode cX0_orderRow 47 = .ok (.iload 4, 2) := by decide +kernel
theorem dX0_orderRow_49 : decode cX0_orderRow 49 = .ok (.iload_n 3, 1) := by decide +kernel
theorem dX0_orderRow_50 : decode cX0_orderRow 50 = .ok (.iastore, 1) := by decide +kernel
theorem dX0_orderRow_51 : decode cX0_orderRow 51 = .ok (.iinc 3 1, 3) := by decide +kernel
theorem dX0_orderRow_54 : decode cX0_orderRow 54 = .ok (.goto (-45), 3) := by decide +kernel
theorem dX0_orderRow_57 : decode cX0_orderRow 57 = .ok (.return_, 1) := by decide +kernel
set_option maxRecDepth 20000 in
theorem ggX0_rankOf_X4_comesFirst : GoodIn wsX0_rankOf wsX4_comesFirst := goodIn_r _ [4] (by decide +kernel) (by decide +kernel)
set_option maxRecDepth 20000 in
theorem gX0_rankOf_X4_comesFirst_n74 : GoodIn wsX0_rankOf (wsX4_comesFirst) := ggX0_rankOf_X4_comesFirst
theorem dX0_rankOf_0 : decode cX0_rankOf 0 = .ok (.iconst 0, 1) := by decide +kernel
theorem dX0_rankOf_1 : decode cX0_rankOf 1 = .ok (.istore_n 3, 1) := by decide +kernel
theorem dX0_rankOf_2 : decode cX0_rankOf 2 = .ok (.iconst 0, 1) := by decide +kernel
theorem dX0_rankOf_3 : decode cX0_rankOf 3 = .ok (.istore 4, 2) := by decide +kernel
theorem dX0_rankOf_5 : decode cX0_rankOf 5 = .ok (.iload 4, 2) := by decide +kernel
theorem dX0_rankOf_7 : decode cX0_rankOf 7 = .ok (.aload_n 0, 1) := by decide +kernel
theorem dX0_rankOf_8 : decode cX0_rankOf 8 = .ok (.getfield 45, 3) := by decide +kernel
theorem dX0_rankOf_11 : decode cX0_rankOf 11 = .ok (.if_icmp .ge 28, 3) := by decide +kernel
theorem dX0_rankOf_14 : decode cX0_rankOf 14 = .ok (.iload 4, 2) := by decide +kernel
theorem dX0_rankOf_16 : decode cX0_rankOf 16 = .ok (.aload_n 2, 1) := by decide +kernel
theorem dX0_rankOf_17 : decode cX0_rankOf 17 = .ok (.iload 4, 2) := by decide +kernel
theorem dX0_rankOf_19 : decode cX0_rankOf 19 = .ok (.iaload, 1) := by decide +kernel
theorem dX0_rankOf_20 : decode cX0_rankOf 20 = .ok (.iload_n 1, 1) := by decide +kernel
theorem dX0_rankOf_21 : decode cX0_rankOf 21 = .ok (.aload_n 2, 1) := by decide +kernel
theorem dX0_rankOf_22 : decode cX0_rankOf 22 = .ok (.iload_n 1, 1) := by decide +kernel
theorem dX0_rankOf_23 : decode cX0_rankOf 23 = .ok (.iaload, 1) := by decide +kernel
theorem dX0_rankOf_24 : decode cX0_rankOf 24 = .ok (.invokestatic 74, 3) := by decide +kernel
theorem dX0_rankOf_27 : decode cX0_rankOf 27 = .ok (.ifCond .eq 6, 3) := by decide +kernel
theorem dX0_rankOf_30 : decode cX0_rankOf 30 = .ok (.iinc 3 1, 3) := by decide +kernel
theorem dX0_rankOf_33 : decode cX0_rankOf 33 = .ok (.iinc 4 1, 3) := by decide +kernel
theorem dX0_rankOf_36 : decode cX0_rankOf 36 = .ok (.goto (-31), 3) := by decide +kernel
theorem dX0_rankOf_39 : decode cX0_rankOf 39 = .ok (.iload_n 3, 1) := by decide +kernel
theorem dX0_rankOf_40 : decode cX0_rankOf 40 = .ok (.ireturn, 1) := by decide +kernel
set_option maxRecDepth 20000 in
theorem ggX0_totalOf_X0_combined : GoodIn wsX0_totalOf wsX0_combined := goodIn_r _ [8, 1, 9, 10, 11, 12, 13, 14, 15, 16, 17, 18, 19, 20, 21, 22, 23, 24, 25, 26, 27, 28, 29, 30] (by decide +kernel) (by decide +kernel)
set_option maxRecDepth 20000 in
theorem gX0_totalOf_X0_combined : GoodIn wsX0_totalOf (wsV RX0 78 RX0 yX0_combined wsX0_combined) := goodIn_app (goodIn_of _ (by decide +kernel)) ggX0_totalOf_X0_combined
theorem dX0_totalOf_0 : decode cX0_totalOf 0 = .ok (.iconst 0, 1) := by decide +kernel
theorem dX0_totalOf_1 : decode cX0_totalOf 1 = .ok (.istore_n 2, 1) := by decide +kernel
theorem dX0_totalOf_2 : decode cX0_totalOf 2 = .ok (.iload_n 2, 1) := by decide +kernel
theorem dX0_totalOf_3 : decode cX0_totalOf 3 = .ok (.aload_n 0, 1) := by decide +kernel
theorem dX0_totalOf_4 : decode cX0_totalOf 4 = .ok (.getfield 52, 3) := by decide +kernel
theorem dX0_totalOf_7 : decode cX0_totalOf 7 = .ok (.if_icmp .ge 23, 3) := by decide +kernel
theorem dX0_totalOf_10 : decode cX0_totalOf 10 = .ok (.aload_n 0, 1) := by decide +kernel
theorem dX0_totalOf_11 : decode cX0_totalOf 11 = .ok (.getfield 39, 3) := by decide +kernel
theorem dX0_totalOf_14 : decode cX0_totalOf 14 = .ok (.iload_n 2, 1) := by decide +kernel
theorem dX0_totalOf_15 : decode cX0_totalOf 15 = .ok (.aload_n 0, 1) := by decide +kernel
theorem dX0_totalOf_16 : decode cX0_totalOf 16 = .ok (.getfield 30, 3) := by decide +kernel
theorem dX0_totalOf_19 : decode cX0_totalOf 19 = .ok (.iload_n 2, 1) := by decide +kernel
theorem dX0_totalOf_20 : decode cX0_totalOf 20 = .ok (.aaload, 1) := by decide +kernel
theorem dX0_totalOf_21 : decode cX0_totalOf 21 = .ok (.iload_n 1, 1) := by decide +kernel
theorem dX0_totalOf_22 : decode cX0_totalOf 22 = .ok (.iaload, 1) := by decide +kernel
theorem dX0_totalOf_23 : decode cX0_totalOf 23 = .ok (.iastore, 1) := by decide +kernel
theorem dX0_totalOf_24 : decode cX0_totalOf 24 = .ok (.iinc 2 1, 3) := by decide +kernel
theorem dX0_totalOf_27 : decode cX0_totalOf 27 = .ok (.goto (-25), 3) := by decide +kernel
theorem dX0_totalOf_30 : decode cX0_totalOf 30 = .ok (.aload_n 0, 1) := by decide +kernel
theorem dX0_totalOf_31 : decode cX0_totalOf 31 = .ok (.aload_n 0, 1) := by decide +kernel
theorem dX0_totalOf_32 : decode cX0_totalOf 32 = .ok (.getfield 39, 3) := by decide +kernel
theorem dX0_totalOf_35 : decode cX0_totalOf 35 = .ok (.invokevirtual 78, 3) := by decide +kernel
theorem dX0_totalOf_38 : decode cX0_totalOf 38 = .ok (.ireturn, 1) := by decide +kernel
theorem dX0_combined_0 : decode cX0_combined 0 = .ok (.iconst 0, 1) := by decide +kernel
theorem dX0_combined_1 : decode cX0_combined 1 = .ok (.istore_n 2, 1) := by decide +kernel
theorem dX0_combined_2 : decode cX0_combined 2 = .ok (.iconst 0, 1) := by decide +kernel
theorem dX0_combined_3 : decode cX0_combined 3 = .ok (.istore_n 3, 1) := by decide +kernel
theorem dX0_combined_4 : decode cX0_combined 4 = .ok (.iconst 0, 1) := by decide +kernel
theorem dX0_combined_5 : decode cX0_combined 5 = .ok (.istore 4, 2) := by decide +kernel
theorem dX0_combined_7 : decode cX0_combined 7 = .ok (.iconst 0, 1) := by decide +kernel
theorem dX0_combined_8 : decode cX0_combined 8 = .ok (.istore 5, 2) := by decide +kernel
theorem dX0_combined_10 : decode cX0_combined 10 = .ok (.iconst 0, 1) := by decide +kernel
theorem dX0_combined_11 : decode cX0_combined 11 = .ok (.istore 6, 2) := by decide +kernel
theorem dX0_combined_13 : decode cX0_combined 13 = .ok (.iload 6, 2) := by decide +kernel
theorem dX0_combined_15 : decode cX0_combined 15 = .ok (.aload_n 0, 1) := by decide +kernel
theorem dX0_combined_16 : decode cX0_combined 16 = .ok (.getfield 52, 3) := by decide +kernel
theorem dX0_combined_19 : decode cX0_combined 19 = .ok (.if_icmp .ge 69, 3) := by decide +kernel
theorem dX0_combined_22 : decode cX0_combined 22 = .ok (.aload_n 0, 1) := by decide +kernel
theorem dX0_combined_23 : decode cX0_combined 23 = .ok (.getfield 15, 3) := by decide +kernel
theorem dX0_combined_26 : decode cX0_combined 26 = .ok (.iload 6, 2) := by decide +kernel
theorem dX0_combined_28 : decode cX0_combined 28 = .ok (.iaload, 1) := by decide +kernel
theorem dX0_combined_29 : decode cX0_combined 29 = .ok (.ifCond .le 53, 3) := by decide +kernel
theorem dX0_combined_32 : decode cX0_combined 32 = .ok (.iload_n 3, 1) := by decide +kernel
theorem dX0_combined_33 : decode cX0_combined 33 = .ok (.aload_n 0, 1) := by decide +kernel
theorem dX0_combined_34 : decode cX0_combined 34 = .ok (.getfield 15, 3) := by decide +kernel
theorem dX0_combined_37 : decode cX0_combined 37 = .ok (.iload 6, 2) := by decide +kernel
theorem dX0_combined_39 : decode cX0_combined 39 = .ok (.iaload, 1) := by decide +kernel
theorem dX0_combined_40 : decode cX0_combined 40 = .ok (.aload_n 1, 1) := by decide +kernel
theorem dX0_combined_41 : decode cX0_combined 41 = .ok (.iload 6, 2) := by decide +kernel
theorem dX0_combined_43 : decode cX0_combined 43 = .ok (.iaload, 1) := by decide +kernel
theorem dX0_combined_44 : decode cX0_combined 44 = .ok (.imul, 1) := by decide +kernel
theorem dX0_combined_45 : decode cX0_combined 45 = .ok (.iadd, 1) := by decide +kernel
theorem dX0_combined_46 : decode cX0_combined 46 = .ok (.istore_n 3, 1) := by decide +kernel
theorem dX0_combined_47 : decode cX0_combined 47 = .ok (.iload_n 2, 1) := by decide +kernel
theorem dX0_combined_48 : decode cX0_combined 48 = .ok (.ifCond .eq 15, 3) := by decide +kernel
theorem dX0_combined_51 : decode cX0_combined 51 = .ok (.iload 4, 2) := by decide +kernel
theorem dX0_combined_53 : decode cX0_combined 53 = .ok (.aload_n 1, 1) := by decide +kernel
theorem dX0_combined_54 : decode cX0_combined 54 = .ok (.iload 6, 2) := by decide +kernel
theorem dX0_combined_56 : decode cX0_combined 56 = .ok (.iaload, 1) := by decide +kernel
theorem dX0_combined_57 : decode cX0_combined 57 = .ok (.invokestatic 82, 3) := by decide +kernel
theorem dX0_combined_60 : decode cX0_combined 60 = .ok (.goto 7, 3) := by decide +kernel
theorem dX0_combined_63 : decode cX0_combined 63 = .ok (.aload_n 1, 1) := by decide +kernel
theorem dX0_combined_64 : decode cX0_combined 64 = .ok (.iload 6, 2) := by decide +kernel
theorem dX0_combined_66 : decode cX0_combined 66 = .ok (.iaload, 1) := by decide +kernel
theorem dX0_combined_67 : decode cX0_combined 67 = .ok (.istore 4, 2) := by decide +kernel
theorem dX0_combined_69 : decode cX0_combined 69 = .ok (.iload 5, 2) := by decide +kernel
theorem dX0_combined_71 : decode cX0_combined 71 = .ok (.aload_n 1, 1) := by decide +kernel
theorem dX0_combined_72 : decode cX0_combined 72 = .ok (.iload 6, 2) := by decide +kernel
theorem dX0_combined_74 : decode cX0_combined 74 = .ok (.iaload, 1) := by decide +kernel
theorem dX0_combined_75 : decode cX0_combined 75 = .ok (.invokestatic 88, 3) := by decide +kernel
theorem dX0_combined_78 : decode cX0_combined 78 = .ok (.istore 5, 2) := by decide +kernel
theorem dX0_combined_80 : decode cX0_combined 80 = .ok (.iconst 1, 1) := by decide +kernel
theorem dX0_combined_81 : decode cX0_combined 81 = .ok (.istore_n 2, 1) := by decide +kernel
theorem dX0_combined_82 : decode cX0_combined 82 = .ok (.iinc 6 1, 3) := by decide +kernel
theorem dX0_combined_85 : decode cX0_combined 85 = .ok (.goto (-72), 3) := by decide +kernel
theorem dX0_combined_88 : decode cX0_combined 88 = .ok (.aload_n 0, 1) := by decide +kernel
theorem dX0_combined_89 : decode cX0_combined 89 = .ok (.getfield 9, 3) := by decide +kernel
theorem dX0_combined_92 : decode cX0_combined 92 = .ok (.ifCond .ne 5, 3) := by decide +kernel
theorem dX0_combined_95 : decode cX0_combined 95 = .ok (.iload_n 3, 1) := by decide +kernel
theorem dX0_combined_96 : decode cX0_combined 96 = .ok (.ireturn, 1) := by decide +kernel
theorem dX0_combined_97 : decode cX0_combined 97 = .ok (.aload_n 0, 1) := by decide +kernel
theorem dX0_combined_98 : decode cX0_combined 98 = .ok (.getfield 9, 3) := by decide +kernel
theorem dX0_combined_101 : decode cX0_combined 101 = .ok (.iconst 1, 1) := by decide +kernel
theorem dX0_combined_102 : decode cX0_combined 102 = .ok (.if_icmp .ne 8, 3) := by decide +kernel
theorem dX0_combined_105 : decode cX0_combined 105 = .ok (.iload 4, 2) := by decide +kernel
theorem dX0_combined_107 : decode cX0_combined 107 = .ok (.goto 5, 3) := by decide +kernel
theorem dX0_combined_110 : decode cX0_combined 110 = .ok (.iload 5, 2) := by decide +kernel
theorem dX0_combined_112 : decode cX0_combined 112 = .ok (.ireturn, 1) := by decide +kernel
set_option maxRecDepth 20000 in
theorem ggX0_bestAt_X0_totalOf : GoodIn wsX0_bestAt wsX0_totalOf := goodIn_r _ [7, 8, 9, 10, 11, 12, 13, 6, 14, 15, 16, 17, 18, 19, 20, 21, 22, 23, 31, 32, 33, 34, 35, 36, 37, 38, 39, 40, 41, 42, 43] (by decide +kernel) (by decide +kernel)
set_option maxRecDepth 20000 in
theorem gX0_bestAt_X0_totalOf : GoodIn wsX0_bestAt (wsV RX0 91 RX0 yX0_totalOf wsX0_totalOf) := goodIn_app (goodIn_of _ (by decide +kernel)) ggX0_bestAt_X0_totalOf
set_option maxRecDepth 20000 in
theorem ggX0_bestAt_X0_rankOf : GoodIn wsX0_bestAt wsX0_rankOf := goodIn_r _ [27, 1, 28, 29, 30, 31, 32, 33, 34, 35, 36, 37, 38, 39, 40, 41, 42, 43] (by decide +kernel) (by decide +kernel)
set_option maxRecDepth 20000 in
theorem gX0_bestAt_X0_rankOf : GoodIn wsX0_bestAt (wsV RX0 70 RX0 yX0_rankOf wsX0_rankOf) := goodIn_app (goodIn_of _ (by decide +kernel)) ggX0_bestAt_X0_rankOf
theorem dX0_bestAt_0 : decode cX0_bestAt 0 = .ok (.iconst 0, 1) := by decide +kernel
theorem dX0_bestAt_1 : decode cX0_bestAt 1 = .ok (.istore_n 2, 1) := by decide +kernel
theorem dX0_bestAt_2 : decode cX0_bestAt 2 = .ok (.iload_n 2, 1) := by decide +kernel
theorem dX0_bestAt_3 : decode cX0_bestAt 3 = .ok (.aload_n 0, 1) := by decide +kernel
theorem dX0_bestAt_4 : decode cX0_bestAt 4 = .ok (.getfield 45, 3) := by decide +kernel
theorem dX0_bestAt_7 : decode cX0_bestAt 7 = .ok (.if_icmp .ge 20, 3) := by decide +kernel
theorem dX0_bestAt_10 : decode cX0_bestAt 10 = .ok (.aload_n 0, 1) := by decide +kernel
theorem dX0_bestAt_11 : decode cX0_bestAt 11 = .ok (.getfield 42, 3) := by decide +kernel
theorem dX0_bestAt_14 : decode cX0_bestAt 14 = .ok (.iload_n 2, 1) := by decide +kernel
theorem dX0_bestAt_15 : decode cX0_bestAt 15 = .ok (.aload_n 0, 1) := by decide +kernel
theorem dX0_bestAt_16 : decode cX0_bestAt 16 = .ok (.iload_n 2, 1) := by decide +kernel
theorem dX0_bestAt_17 : decode cX0_bestAt 17 = .ok (.invokevirtual 91, 3) := by decide +kernel
theorem dX0_bestAt_20 : decode cX0_bestAt 20 = .ok (.iastore, 1) := by decide +kernel
theorem dX0_bestAt_21 : decode cX0_bestAt 21 = .ok (.iinc 2 1, 3) := by decide +kernel
theorem dX0_bestAt_24 : decode cX0_bestAt 24 = .ok (.goto (-22), 3) := by decide +kernel
theorem dX0_bestAt_27 : decode cX0_bestAt 27 = .ok (.iconst 0, 1) := by decide +kernel
theorem dX0_bestAt_28 : decode cX0_bestAt 28 = .ok (.istore_n 2, 1) := by decide +kernel
theorem dX0_bestAt_29 : decode cX0_bestAt 29 = .ok (.iload_n 2, 1) := by decide +kernel
theorem dX0_bestAt_30 : decode cX0_bestAt 30 = .ok (.aload_n 0, 1) := by decide +kernel
theorem dX0_bestAt_31 : decode cX0_bestAt 31 = .ok (.getfield 45, 3) := by decide +kernel
theorem dX0_bestAt_34 : decode cX0_bestAt 34 = .ok (.if_icmp .ge 24, 3) := by decide +kernel
theorem dX0_bestAt_37 : decode cX0_bestAt 37 = .ok (.aload_n 0, 1) := by decide +kernel
theorem dX0_bestAt_38 : decode cX0_bestAt 38 = .ok (.iload_n 2, 1) := by decide +kernel
theorem dX0_bestAt_39 : decode cX0_bestAt 39 = .ok (.aload_n 0, 1) := by decide +kernel
theorem dX0_bestAt_40 : decode cX0_bestAt 40 = .ok (.getfield 42, 3) := by decide +kernel
theorem dX0_bestAt_43 : decode cX0_bestAt 43 = .ok (.invokevirtual 70, 3) := by decide +kernel
theorem dX0_bestAt_46 : decode cX0_bestAt 46 = .ok (.iload_n 1, 1) := by decide +kernel
theorem dX0_bestAt_47 : decode cX0_bestAt 47 = .ok (.if_icmp .ne 5, 3) := by decide +kernel
theorem dX0_bestAt_50 : decode cX0_bestAt 50 = .ok (.iload_n 2, 1) := by decide +kernel
theorem dX0_bestAt_51 : decode cX0_bestAt 51 = .ok (.ireturn, 1) := by decide +kernel
theorem dX0_bestAt_52 : decode cX0_bestAt 52 = .ok (.iinc 2 1, 3) := by decide +kernel
theorem dX0_bestAt_55 : decode cX0_bestAt 55 = .ok (.goto (-26), 3) := by decide +kernel
theorem dX0_bestAt_58 : decode cX0_bestAt 58 = .ok (.iconst (-1), 1) := by decide +kernel
theorem dX0_bestAt_59 : decode cX0_bestAt 59 = .ok (.ireturn, 1) := by decide +kernel
set_option maxRecDepth 20000 in
theorem ggX1_init_X2_init : GoodIn wsX1_init wsX2_init := goodIn_r _ [11, 12, 2, 3, 13, 14, 15, 16, 17, 18, 29, 30, 31, 32, 33, 34] (by decide +kernel) (by decide +kernel)
set_option maxRecDepth 20000 in
theorem gX1_init_X2_init : GoodIn wsX1_init (wsX2_init) := ggX1_init_X2_init
theorem dX1_init_0 : decode cX1_init 0 = .ok (.aload_n 0, 1) := by decide +kernel
theorem dX1_init_1 : decode cX1_init 1 = .ok (.invokespecial 3, 3) := by decide +kernel
theorem dX1_init_4 : decode cX1_init 4 = .ok (.aload_n 0, 1) := by decide +kernel
theorem dX1_init_5 : decode cX1_init 5 = .ok (.aload_n 1, 1) := by decide +kernel
theorem dX1_init_6 : decode cX1_init 6 = .ok (.putfield 9, 3) := by decide +kernel
theorem dX1_init_9 : decode cX1_init 9 = .ok (.aload_n 0, 1) := by decide +kernel
theorem dX1_init_10 : decode cX1_init 10 = .ok (.new 15, 3) := by decide +kernel
theorem dX1_init_13 : decode cX1_init 13 = .ok (.dup, 1) := by decide +kernel
theorem dX1_init_14 : decode cX1_init 14 = .ok (.aload_n 1, 1) := by decide +kernel
theorem dX1_init_15 : decode cX1_init 15 = .ok (.invokespecial 17, 3) := by decide +kernel
theorem dX1_init_18 : decode cX1_init 18 = .ok (.putfield 20, 3) := by decide +kernel
theorem dX1_init_21 : decode cX1_init 21 = .ok (.return_, 1) := by decide +kernel
set_option maxRecDepth 20000 in
theorem ggX1_start_X2_forget : GoodIn wsX1_start wsX2_forget := goodIn_r _ [14, 15, 16, 96, 97, 98, 99, 100, 101] (by decide +kernel) (by decide +kernel)
set_option maxRecDepth 20000 in
theorem gX1_start_X2_forget : GoodIn wsX1_start (wsV RX1 47 RX2 yX2_forget wsX2_forget) := goodIn_app (goodIn_of _ (by decide +kernel)) ggX1_start_X2_forget
set_option maxRecDepth 20000 in
theorem ggX1_start_X2_isSure : GoodIn wsX1_start wsX2_isSure := goodIn_r _ [20, 21, 22, 23, 24, 25, 26, 13, 27, 28, 29, 30, 31, 32, 33, 34, 16, 35, 36, 37, 38, 15, 39, 40, 41, 42, 43, 44, 45, 46, 47, 48, 49, 50, 51, 52, 53, 54, 55, 56, 57, 58, 59, 60, 61, 62, 63, 64, 65, 66, 67, 68, 69, 70, 71, 72, 73, 74, 75, 76, 77, 78, 79, 80, 81, 82, 83, 84, 85, 96, 97, 98, 99, 100, 101, 102, 103, 104, 105, 106, 107, 108, 109, 110, 111, 112, 113, 114] (by decide +kernel) (by decide +kernel)
set_option maxRecDepth 20000 in
theorem gX1_start_X2_isSure : GoodIn wsX1_start (wsV RX1 50 RX2 yX2_isSure wsX2_isSure) := goodIn_app (goodIn_of _ (by decide +kernel)) ggX1_start_X2_isSure
theorem dX1_start_0 : decode cX1_start 0 = .ok (.aload_n 0, 1) := by decide +kernel
theorem dX1_start_1 : decode cX1_start 1 = .ok (.iconst 1, 1) := by decide +kernel
theorem dX1_start_2 : decode cX1_start 2 = .ok (.putfield 24, 3) := by decide +kernel
theorem dX1_start_5 : decode cX1_start 5 = .ok (.aload_n 0, 1) := by decide +kernel
theorem dX1_start_6 : decode cX1_start 6 = .ok (.iload_n 1, 1) := by decide +kernel
theorem dX1_start_7 : decode cX1_start 7 = .ok (.putfield 28, 3) := by decide +kernel
theorem dX1_start_10 : decode cX1_start 10 = .ok (.aload_n 0, 1) := by decide +kernel
theorem dX1_start_11 : decode cX1_start 11 = .ok (.iload_n 2, 1) := by decide +kernel
theorem dX1_start_12 : decode cX1_start 12 = .ok (.putfield 32, 3) := by decide +kernel
theorem dX1_start_15 : decode cX1_start 15 = .ok (.aload_n 0, 1) := by decide +kernel
theorem dX1_start_16 : decode cX1_start 16 = .ok (.iload_n 3, 1) := by decide +kernel
theorem dX1_start_17 : decode cX1_start 17 = .ok (.putfield 35, 3) := by decide +kernel
theorem dX1_start_20 : decode cX1_start 20 = .ok (.aload_n 0, 1) := by decide +kernel
theorem dX1_start_21 : decode cX1_start 21 = .ok (.iconst 0, 1) := by decide +kernel
theorem dX1_start_22 : decode cX1_start 22 = .ok (.putfield 38, 3) := by decide +kernel
theorem dX1_start_25 : decode cX1_start 25 = .ok (.aload_n 0, 1) := by decide +kernel
theorem dX1_start_26 : decode cX1_start 26 = .ok (.iconst 0, 1) := by decide +kernel
theorem dX1_start_27 : decode cX1_start 27 = .ok (.putfield 41, 3) := by decide +kernel
theorem dX1_start_30 : decode cX1_start 30 = .ok (.aload_n 0, 1) := by decide +kernel
theorem dX1_start_31 : decode cX1_start 31 = .ok (.iconst 0, 1) := by decide +kernel
theorem dX1_start_32 : decode cX1_start 32 = .ok (.putfield 44, 3) := by decide +kernel
theorem dX1_start_35 : decode cX1_start 35 = .ok (.aload_n 0, 1) := by decide +kernel
theorem dX1_start_36 : decode cX1_start 36 = .ok (.getfield 20, 3) := by decide +kernel
theorem dX1_start_39 : decode cX1_start 39 = .ok (.invokevirtual 47, 3) := by decide +kernel
theorem dX1_start_42 : decode cX1_start 42 = .ok (.aload_n 0, 1) := by decide +kernel
theorem dX1_start_43 : decode cX1_start 43 = .ok (.aload_n 0, 1) := by decide +kernel
theorem dX1_start_44 : decode cX1_start 44 = .ok (.getfield 20, 3) := by decide +kernel
theorem dX1_start_47 : decode cX1_start 47 = .ok (.iload_n 2, 1) := by decide +kernel
theorem dX1_start_48 : decode cX1_start 48 = .ok (.invokevirtual 50, 3) := by decide +kernel
theorem dX1_start_51 : decode cX1_start 51 = .ok (.putfield 54, 3) := by decide +kernel
theorem dX1_start_54 : decode cX1_start 54 = .ok (.return_, 1) := by decide +kernel
set_option maxRecDepth 20000 in
theorem ggX1_workRound_X2_isWhole : GoodIn wsX1_workRound wsX2_isWhole := goodIn_r _ [12, 13, 14, 15, 143, 144, 145, 146, 147, 148, 130, 131, 132, 133, 134, 135, 136, 137, 138, 139, 140, 141, 142] (by decide +kernel) (by decide +kernel)
set_option maxRecDepth 20000 in
theorem gX1_workRound_X2_isWhole : GoodIn wsX1_workRound (wsV RX1 62 RX2 yX2_isWhole wsX2_isWhole) := goodIn_app (goodIn_of _ (by decide +kernel)) ggX1_workRound_X2_isWhole
set_option maxRecDepth 20000 in
theorem ggX1_workRound_X1_seeNextPlace : GoodIn wsX1_workRound wsX1_seeNextPlace := goodIn_r _ [20, 2, 21, 5, 22, 23, 24, 25, 4, 26, 27, 28, 11, 29, 14, 30, 31, 32, 33, 34, 35, 36, 37, 38, 39, 40, 41, 42, 43, 44, 9, 10, 12, 13, 15, 45, 46, 47, 48, 49, 50, 51, 52, 53, 54, 55, 56, 57, 58, 59, 60, 61, 62, 63, 64, 65, 66, 67, 68, 69, 70, 71, 72, 73, 74, 75, 76, 77, 78, 79, 80, 81, 82, 83, 84, 85, 86, 87, 88, 89, 90, 120, 121, 122, 123, 124, 125, 126, 127, 128, 129, 130, 131, 132, 133, 134, 135, 136, 137, 138, 139, 140, 141, 142, 143, 144, 145, 146, 147, 148] (by decide +kernel) (by decide +kernel)
set_option maxRecDepth 20000 in
theorem gX1_workRound_X1_seeNextPlace : GoodIn wsX1_workRound (wsV RX1 65 RX1 yX1_seeNextPlace wsX1_seeNextPlace) := goodIn_app (goodIn_of _ (by decide +kernel)) ggX1_workRound_X1_seeNextPlace
set_option maxRecDepth 20000 in
theorem ggX1_workRound_X1_lookUpEverywhere : GoodIn wsX1_workRound wsX1_lookUpEverywhere := goodIn_r _ [94, 2, 3, 4, 5, 95, 23, 96, 25, 97, 98, 99, 11, 100, 14, 101, 39, 40, 41, 42, 43, 44, 9, 10, 12, 13, 15, 45, 46, 47, 48, 38, 49, 102, 103, 104, 105, 26, 27, 28, 29, 30, 31, 32, 33, 34, 35, 36, 37, 50, 51, 52, 53, 54, 55, 56, 57, 58, 59, 60, 61, 62, 63, 64, 65, 66, 67, 68, 69, 70, 71, 72, 73, 74, 75, 76, 77, 78, 79, 80, 81, 82, 83, 84, 85, 86, 87, 88, 89, 90, 120, 121, 122, 123, 124, 125, 126, 127, 128, 129, 130, 131, 132, 133, 134, 135, 136, 137, 138, 139, 140, 141, 142, 143, 144, 145, 146, 147, 148] (by decide +kernel) (by decide +kernel)
set_option maxRecDepth 20000 in
theorem gX1_workRound_X1_lookUpEverywhere : GoodIn wsX1_workRound (wsV RX1 69 RX1 yX1_lookUpEverywhere wsX1_lookUpEverywhere) := goodIn_app (goodIn_of _ (by decide +kernel)) ggX1_workRound_X1_lookUpEverywhere
set_option maxRecDepth 20000 in
theorem ggX1_workRound_X1_mostPromising : GoodIn wsX1_workRound wsX1_mostPromising := goodIn_r _ [109, 2, 110, 5, 111, 112, 113, 11, 114, 14, 36, 45, 46, 47, 48, 38, 49, 13, 115, 116, 117, 19, 118, 3, 97, 98, 99, 100, 101, 39, 40, 41, 42, 43, 44, 9, 10, 12, 15, 119, 80, 81, 82, 37, 83, 84, 85, 86, 87, 50, 51, 52, 53, 54, 55, 56, 57, 58, 59, 60, 61, 62, 63, 64, 120, 121, 122, 123, 124, 125, 126, 127, 128, 129, 130, 131, 132, 133, 134, 135, 136, 137, 138, 139, 140, 141, 142, 143, 144, 145, 146, 147, 148] (by decide +kernel) (by decide +kernel)
set_option maxRecDepth 20000 in
theorem gX1_workRound_X1_mostPromising : GoodIn wsX1_workRound (wsV RX1 73 RX1 yX1_mostPromising wsX1_mostPromising) := goodIn_app (goodIn_of _ (by decide +kernel)) ggX1_workRound_X1_mostPromising
theorem dX1_workRound_0 : decode cX1_workRound 0 = .ok (.aload_n 0, 1) := by decide +kernel
theorem dX1_workRound_1 : decode cX1_workRound 1 = .ok (.dup, 1) := by decide +kernel
theorem dX1_workRound_2 : decode cX1_workRound 2 = .ok (.getfield 38, 3) := by decide +kernel
theorem dX1_workRound_5 : decode cX1_workRound 5 = .ok (.iconst 1, 1) := by decide +kernel
theorem dX1_workRound_6 : decode cX1_workRound 6 = .ok (.iadd, 1) := by decide +kernel
theorem dX1_workRound_7 : decode cX1_workRound 7 = .ok (.putfield 38, 3) := by decide +kernel
theorem dX1_workRound_10 : decode cX1_workRound 10 = .ok (.iconst 0, 1) := by decide +kernel
theorem dX1_workRound_11 : decode cX1_workRound 11 = .ok (.istore_n 1, 1) := by decide +kernel
theorem dX1_workRound_12 : decode cX1_workRound 12 = .ok (.iload_n 1, 1) := by decide +kernel
theorem dX1_workRound_13 : decode cX1_workRound 13 = .ok (.aload_n 0, 1) := by decide +kernel
theorem dX1_workRound_14 : decode cX1_workRound 14 = .ok (.getfield 9, 3) := by decide +kernel
theorem dX1_workRound_17 : decode cX1_workRound 17 = .ok (.getfield 57, 3) := by decide +kernel
theorem dX1_workRound_20 : decode cX1_workRound 20 = .ok (.if_icmp .ge 46, 3) := by decide +kernel
theorem dX1_workRound_23 : decode cX1_workRound 23 = .ok (.aload_n 0, 1) := by decide +kernel
theorem dX1_workRound_24 : decode cX1_workRound 24 = .ok (.getfield 54, 3) := by decide +kernel
theorem dX1_workRound_27 : decode cX1_workRound 27 = .ok (.ifCond .ne 39, 3) := by decide +kernel
theorem dX1_workRound_30 : decode cX1_workRound 30 = .ok (.aload_n 0, 1) := by decide +kernel
theorem dX1_workRound_31 : decode cX1_workRound 31 = .ok (.getfield 20, 3) := by decide +kernel
theorem dX1_workRound_34 : decode cX1_workRound 34 = .ok (.iload_n 1, 1) := by decide +kernel
theorem dX1_workRound_35 : decode cX1_workRound 35 = .ok (.invokevirtual 62, 3) := by decide +kernel
theorem dX1_workRound_38 : decode cX1_workRound 38 = .ok (.ifCond .ne 22, 3) := by decide +kernel
theorem dX1_workRound_41 : decode cX1_workRound 41 = .ok (.aload_n 0, 1) := by decide +kernel
theorem dX1_workRound_42 : decode cX1_workRound 42 = .ok (.iload_n 1, 1) := by decide +kernel
theorem dX1_workRound_43 : decode cX1_workRound 43 = .ok (.invokevirtual 65, 3) := by decide +kernel
theorem dX1_workRound_46 : decode cX1_workRound 46 = .ok (.istore_n 2, 1) := by decide +kernel
theorem dX1_workRound_47 : decode cX1_workRound 47 = .ok (.aload_n 0, 1) := by decide +kernel
theorem dX1_workRound_48 : decode cX1_workRound 48 = .ok (.getfield 28, 3) := by decide +kernel
theorem dX1_workRound_51 : decode cX1_workRound 51 = .ok (.iconst 1, 1) := by decide +kernel
theorem dX1_workRound_52 : decode cX1_workRound 52 = .ok (.if_icmp .ne 8, 3) := by decide +kernel
theorem dX1_workRound_55 : decode cX1_workRound 55 = .ok (.aload_n 0, 1) := by decide +kernel
theorem dX1_workRound_56 : decode cX1_workRound 56 = .ok (.iload_n 2, 1) := by decide +kernel
theorem dX1_workRound_57 : decode cX1_workRound 57 = .ok (.invokevirtual 69, 3) := by decide +kernel
theorem dX1_workRound_60 : decode cX1_workRound 60 = .ok (.iinc 1 1, 3) := by decide +kernel
theorem dX1_workRound_63 : decode cX1_workRound 63 = .ok (.goto (-51), 3) := by decide +kernel
theorem dX1_workRound_66 : decode cX1_workRound 66 = .ok (.aload_n 0, 1) := by decide +kernel
theorem dX1_workRound_67 : decode cX1_workRound 67 = .ok (.getfield 28, 3) := by decide +kernel
theorem dX1_workRound_70 : decode cX1_workRound 70 = .ok (.iconst 2, 1) := by decide +kernel
theorem dX1_workRound_71 : decode cX1_workRound 71 = .ok (.if_icmp .ne 44, 3) := by decide +kernel
theorem dX1_workRound_74 : decode cX1_workRound 74 = .ok (.aload_n 0, 1) := by decide +kernel
theorem dX1_workRound_75 : decode cX1_workRound 75 = .ok (.getfield 54, 3) := by decide +kernel
theorem dX1_workRound_78 : decode cX1_workRound 78 = .ok (.ifCond .ne 37, 3) := by decide +kernel
theorem dX1_workRound_81 : decode cX1_workRound 81 = .ok (.aload_n 0, 1) := by decide +kernel
theorem dX1_workRound_82 : decode cX1_workRound 82 = .ok (.getfield 35, 3) := by decide +kernel
theorem dX1_workRound_85 : decode cX1_workRound 85 = .ok (.ifCond .le 30, 3) := by decide +kernel
theorem dX1_workRound_88 : decode cX1_workRound 88 = .ok (.aload_n 0, 1) := by decide +kernel
theorem dX1_workRound_89 : decode cX1_workRound 89 = .ok (.getfield 38, 3) := by decide +kernel
theorem dX1_workRound_92 : decode cX1_workRound 92 = .ok (.aload_n 0, 1) := by decide +kernel
theorem dX1_workRound_93 : decode cX1_workRound 93 = .ok (.getfield 35, 3) := by decide +kernel
theorem dX1_workRound_96 : decode cX1_workRound 96 = .ok (.irem, 1) := by decide +kernel
theorem dX1_workRound_97 : decode cX1_workRound 97 = .ok (.ifCond .ne 18, 3) := by decide +kernel
theorem dX1_workRound_100 : decode cX1_workRound 100 = .ok (.aload_n 0, 1) := by decide +kernel
theorem dX1_workRound_101 : decode cX1_workRound 101 = .ok (.invokevirtual 73, 3) := by decide +kernel
theorem dX1_workRound_104 : decode cX1_workRound 104 = .ok (.istore_n 1, 1) := by decide +kernel
theorem dX1_workRound_105 : decode cX1_workRound 105 = .ok (.iload_n 1, 1) := by decide +kernel
theorem dX1_workRound_106 : decode cX1_workRound 106 = .ok (.iconst (-1), 1) := by decide +kernel
theorem dX1_workRound_107 : decode cX1_workRound 107 = .ok (.if_icmp .eq 8, 3) := by decide +kernel
theorem dX1_workRound_110 : decode cX1_workRound 110 = .ok (.aload_n 0, 1) := by decide +kernel
theorem dX1_workRound_111 : decode cX1_workRound 111 = .ok (.iload_n 1, 1) := by decide +kernel
theorem dX1_workRound_112 : decode cX1_workRound 112 = .ok (.invokevirtual 69, 3) := by decide +kernel
theorem dX1_workRound_115 : decode cX1_workRound 115 = .ok (.return_, 1) := by decide +kernel
set_option maxRecDepth 20000 in
theorem ggX1_seeNextPlace_X2_isSure : GoodIn wsX1_seeNextPlace wsX2_isSure := goodIn_r _ [13, 14, 15, 16, 17, 18, 19, 12, 20, 21, 22, 23, 24, 25, 26, 27, 28, 29, 30, 31, 32, 33, 34, 35, 36, 37, 38, 39, 40, 41, 42, 43, 44, 45, 46, 47, 48, 49, 50, 51, 52, 53, 54, 55, 56, 57, 58, 59, 60, 61, 62, 63, 64, 65, 66, 67, 68, 69, 70, 71, 72, 73, 74, 75, 76, 77, 78, 79, 80, 104, 105, 106, 107, 108, 109, 91, 92, 93, 94, 95, 96, 97, 98, 99, 100, 101, 102, 103] (by decide +kernel) (by decide +kernel)
set_option maxRecDepth 20000 in
theorem gX1_seeNextPlace_X2_isSure : GoodIn wsX1_seeNextPlace (wsV RX1 50 RX2 yX2_isSure wsX2_isSure) := goodIn_app (goodIn_of _ (by decide +kernel)) ggX1_seeNextPlace_X2_isSure
theorem dX1_seeNextPlace_0 : decode cX1_seeNextPlace 0 = .ok (.aload_n 0, 1) := by decide +kernel
theorem dX1_seeNextPlace_1 : decode cX1_seeNextPlace 1 = .ok (.getfield 9, 3) := by decide +kernel
theorem dX1_seeNextPlace_4 : decode cX1_seeNextPlace 4 = .ok (.getfield 77, 3) := by decide +kernel
theorem dX1_seeNextPlace_7 : decode cX1_seeNextPlace 7 = .ok (.iload_n 1, 1) := by decide +kernel
theorem dX1_seeNextPlace_8 : decode cX1_seeNextPlace 8 = .ok (.aaload, 1) := by decide +kernel
theorem dX1_seeNextPlace_9 : decode cX1_seeNextPlace 9 = .ok (.aload_n 0, 1) := by decide +kernel
theorem dX1_seeNextPlace_10 : decode cX1_seeNextPlace 10 = .ok (.getfield 20, 3) := by decide +kernel
theorem dX1_seeNextPlace_13 : decode cX1_seeNextPlace 13 = .ok (.getfield 81, 3) := by decide +kernel
theorem dX1_seeNextPlace_16 : decode cX1_seeNextPlace 16 = .ok (.iload_n 1, 1) := by decide +kernel
theorem dX1_seeNextPlace_17 : decode cX1_seeNextPlace 17 = .ok (.iaload, 1) := by decide +kernel
theorem dX1_seeNextPlace_18 : decode cX1_seeNextPlace 18 = .ok (.iaload, 1) := by decide +kernel
theorem dX1_seeNextPlace_19 : decode cX1_seeNextPlace 19 = .ok (.istore_n 2, 1) := by decide +kernel
theorem dX1_seeNextPlace_20 : decode cX1_seeNextPlace 20 = .ok (.aload_n 0, 1) := by decide +kernel
theorem dX1_seeNextPlace_21 : decode cX1_seeNextPlace 21 = .ok (.getfield 20, 3) := by decide +kernel
theorem dX1_seeNextPlace_24 : decode cX1_seeNextPlace 24 = .ok (.getfield 81, 3) := by decide +kernel
theorem dX1_seeNextPlace_27 : decode cX1_seeNextPlace 27 = .ok (.iload_n 1, 1) := by decide +kernel
theorem dX1_seeNextPlace_28 : decode cX1_seeNextPlace 28 = .ok (.dup2, 1) := by decide +kernel
theorem dX1_seeNextPlace_29 : decode cX1_seeNextPlace 29 = .ok (.iaload, 1) := by decide +kernel
theorem dX1_seeNextPlace_30 : decode cX1_seeNextPlace 30 = .ok (.iconst 1, 1) := by decide +kernel
theorem dX1_seeNextPlace_31 : decode cX1_seeNextPlace 31 = .ok (.iadd, 1) := by decide +kernel
theorem dX1_seeNextPlace_32 : decode cX1_seeNextPlace 32 = .ok (.iastore, 1) := by decide +kernel
theorem dX1_seeNextPlace_33 : decode cX1_seeNextPlace 33 = .ok (.aload_n 0, 1) := by decide +kernel
theorem dX1_seeNextPlace_34 : decode cX1_seeNextPlace 34 = .ok (.dup, 1) := by decide +kernel
theorem dX1_seeNextPlace_35 : decode cX1_seeNextPlace 35 = .ok (.getfield 44, 3) := by decide +kernel
theorem dX1_seeNextPlace_38 : decode cX1_seeNextPlace 38 = .ok (.aload_n 0, 1) := by decide +kernel
theorem dX1_seeNextPlace_39 : decode cX1_seeNextPlace 39 = .ok (.getfield 9, 3) := by decide +kernel
theorem dX1_seeNextPlace_42 : decode cX1_seeNextPlace 42 = .ok (.getfield 85, 3) := by decide +kernel
theorem dX1_seeNextPlace_45 : decode cX1_seeNextPlace 45 = .ok (.iload_n 1, 1) := by decide +kernel
theorem dX1_seeNextPlace_46 : decode cX1_seeNextPlace 46 = .ok (.iaload, 1) := by decide +kernel
theorem dX1_seeNextPlace_47 : decode cX1_seeNextPlace 47 = .ok (.iadd, 1) := by decide +kernel
theorem dX1_seeNextPlace_48 : decode cX1_seeNextPlace 48 = .ok (.putfield 44, 3) := by decide +kernel
theorem dX1_seeNextPlace_51 : decode cX1_seeNextPlace 51 = .ok (.aload_n 0, 1) := by decide +kernel
theorem dX1_seeNextPlace_52 : decode cX1_seeNextPlace 52 = .ok (.aload_n 0, 1) := by decide +kernel
theorem dX1_seeNextPlace_53 : decode cX1_seeNextPlace 53 = .ok (.getfield 20, 3) := by decide +kernel
theorem dX1_seeNextPlace_56 : decode cX1_seeNextPlace 56 = .ok (.aload_n 0, 1) := by decide +kernel
theorem dX1_seeNextPlace_57 : decode cX1_seeNextPlace 57 = .ok (.getfield 32, 3) := by decide +kernel
theorem dX1_seeNextPlace_60 : decode cX1_seeNextPlace 60 = .ok (.invokevirtual 50, 3) := by decide +kernel
theorem dX1_seeNextPlace_63 : decode cX1_seeNextPlace 63 = .ok (.putfield 54, 3) := by decide +kernel
theorem dX1_seeNextPlace_66 : decode cX1_seeNextPlace 66 = .ok (.iload_n 2, 1) := by decide +kernel
theorem dX1_seeNextPlace_67 : decode cX1_seeNextPlace 67 = .ok (.ireturn, 1) := by decide +kernel
set_option maxRecDepth 20000 in
theorem ggX1_lookUpEverywhere_X2_mayBeLookedUp : GoodIn wsX1_lookUpEverywhere wsX2_mayBeLookedUp := goodIn_r _ [13, 14, 15, 16, 17, 18, 12, 19, 20, 21, 22, 23, 24, 25, 26, 27, 28, 29, 30, 31, 32, 113, 114, 115, 116, 117, 118, 100, 101, 102, 103, 104, 105, 106, 107, 108, 109, 110, 111, 112] (by decide +kernel) (by decide +kernel)
set_option maxRecDepth 20000 in
theorem gX1_lookUpEverywhere_X2_mayBeLookedUp : GoodIn wsX1_lookUpEverywhere (wsV RX1 88 RX2 yX2_mayBeLookedUp wsX2_mayBeLookedUp) := goodIn_app (goodIn_of _ (by decide +kernel)) ggX1_lookUpEverywhere_X2_mayBeLookedUp
set_option maxRecDepth 20000 in
theorem ggX1_lookUpEverywhere_X2_noteLookUp : GoodIn wsX1_lookUpEverywhere wsX2_noteLookUp := goodIn_r _ [36, 20, 113, 114, 115, 116, 117, 118] (by decide +kernel) (by decide +kernel)
set_option maxRecDepth 20000 in
theorem gX1_lookUpEverywhere_X2_noteLookUp : GoodIn wsX1_lookUpEverywhere (wsV RX1 92 RX2 yX2_noteLookUp wsX2_noteLookUp) := goodIn_app (goodIn_of _ (by decide +kernel)) ggX1_lookUpEverywhere_X2_noteLookUp
set_option maxRecDepth 20000 in
theorem ggX1_lookUpEverywhere_X2_isSure : GoodIn wsX1_lookUpEverywhere wsX2_isSure := goodIn_r _ [40, 14, 41, 42, 43, 44, 45, 12, 46, 47, 48, 31, 16, 17, 18, 19, 20, 21, 22, 23, 24, 25, 26, 27, 28, 29, 30, 32, 49, 50, 51, 52, 53, 54, 55, 56, 57, 58, 59, 60, 61, 62, 63, 64, 65, 66, 67, 68, 69, 70, 71, 72, 73, 74, 75, 76, 77, 78, 79, 80, 81, 82, 83, 84, 85, 86, 87, 88, 89, 113, 114, 115, 116, 117, 118, 100, 101, 102, 103, 104, 105, 106, 107, 108, 109, 110, 111, 112] (by decide +kernel) (by decide +kernel)
set_option maxRecDepth 20000 in
theorem gX1_lookUpEverywhere_X2_isSure : GoodIn wsX1_lookUpEverywhere (wsV RX1 50 RX2 yX2_isSure wsX2_isSure) := goodIn_app (goodIn_of _ (by decide +kernel)) ggX1_lookUpEverywhere_X2_isSure
theorem dX1_lookUpEverywhere_0 : decode cX1_lookUpEverywhere 0 = .ok (.iconst 0, 1) := by decide +kernel
theorem dX1_lookUpEverywhere_1 : decode cX1_lookUpEverywhere 1 = .ok (.istore_n 2, 1) := by decide +kernel
theorem dX1_lookUpEverywhere_2 : decode cX1_lookUpEverywhere 2 = .ok (.iload_n 2, 1) := by decide +kernel
theorem dX1_lookUpEverywhere_3 : decode cX1_lookUpEverywhere 3 = .ok (.aload_n 0, 1) := by decide +kernel
theorem dX1_lookUpEverywhere_4 : decode cX1_lookUpEverywhere 4 = .ok (.getfield 9, 3) := by decide +kernel
theorem dX1_lookUpEverywhere_7 : decode cX1_lookUpEverywhere 7 = .ok (.getfield 57, 3) := by decide +kernel
theorem dX1_lookUpEverywhere_10 : decode cX1_lookUpEverywhere 10 = .ok (.if_icmp .ge 80, 3) := by decide +kernel
theorem dX1_lookUpEverywhere_13 : decode cX1_lookUpEverywhere 13 = .ok (.aload_n 0, 1) := by decide +kernel
theorem dX1_lookUpEverywhere_14 : decode cX1_lookUpEverywhere 14 = .ok (.getfield 54, 3) := by decide +kernel
theorem dX1_lookUpEverywhere_17 : decode cX1_lookUpEverywhere 17 = .ok (.ifCond .ne 73, 3) := by decide +kernel
theorem dX1_lookUpEverywhere_20 : decode cX1_lookUpEverywhere 20 = .ok (.aload_n 0, 1) := by decide +kernel
theorem dX1_lookUpEverywhere_21 : decode cX1_lookUpEverywhere 21 = .ok (.getfield 20, 3) := by decide +kernel
theorem dX1_lookUpEverywhere_24 : decode cX1_lookUpEverywhere 24 = .ok (.iload_n 2, 1) := by decide +kernel
theorem dX1_lookUpEverywhere_25 : decode cX1_lookUpEverywhere 25 = .ok (.iload_n 1, 1) := by decide +kernel
theorem dX1_lookUpEverywhere_26 : decode cX1_lookUpEverywhere 26 = .ok (.invokevirtual 88, 3) := by decide +kernel
theorem dX1_lookUpEverywhere_29 : decode cX1_lookUpEverywhere 29 = .ok (.ifCond .eq 55, 3) := by decide +kernel
theorem dX1_lookUpEverywhere_32 : decode cX1_lookUpEverywhere 32 = .ok (.aload_n 0, 1) := by decide +kernel
theorem dX1_lookUpEverywhere_33 : decode cX1_lookUpEverywhere 33 = .ok (.getfield 20, 3) := by decide +kernel
theorem dX1_lookUpEverywhere_36 : decode cX1_lookUpEverywhere 36 = .ok (.iload_n 2, 1) := by decide +kernel
theorem dX1_lookUpEverywhere_37 : decode cX1_lookUpEverywhere 37 = .ok (.iload_n 1, 1) := by decide +kernel
theorem dX1_lookUpEverywhere_38 : decode cX1_lookUpEverywhere 38 = .ok (.invokevirtual 92, 3) := by decide +kernel
theorem dX1_lookUpEverywhere_41 : decode cX1_lookUpEverywhere 41 = .ok (.aload_n 0, 1) := by decide +kernel
theorem dX1_lookUpEverywhere_42 : decode cX1_lookUpEverywhere 42 = .ok (.dup, 1) := by decide +kernel
theorem dX1_lookUpEverywhere_43 : decode cX1_lookUpEverywhere 43 = .ok (.getfield 41, 3) := by decide +kernel
theorem dX1_lookUpEverywhere_46 : decode cX1_lookUpEverywhere 46 = .ok (.iconst 1, 1) := by decide +kernel
theorem dX1_lookUpEverywhere_47 : decode cX1_lookUpEverywhere 47 = .ok (.iadd, 1) := by decide +kernel
theorem dX1_lookUpEverywhere_48 : decode cX1_lookUpEverywhere 48 = .ok (.putfield 41, 3) := by decide +kernel
theorem dX1_lookUpEverywhere_51 : decode cX1_lookUpEverywhere 51 = .ok (.aload_n 0, 1) := by decide +kernel
theorem dX1_lookUpEverywhere_52 : decode cX1_lookUpEverywhere 52 = .ok (.dup, 1) := by decide +kernel
theorem dX1_lookUpEverywhere_53 : decode cX1_lookUpEverywhere 53 = .ok (.getfield 44, 3) := by decide +kernel
theorem dX1_lookUpEverywhere_56 : decode cX1_lookUpEverywhere 56 = .ok (.aload_n 0, 1) := by decide +kernel
theorem dX1_lookUpEverywhere_57 : decode cX1_lookUpEverywhere 57 = .ok (.getfield 9, 3) := by decide +kernel
theorem dX1_lookUpEverywhere_60 : decode cX1_lookUpEverywhere 60 = .ok (.getfield 96, 3) := by decide +kernel
theorem dX1_lookUpEverywhere_63 : decode cX1_lookUpEverywhere 63 = .ok (.iload_n 2, 1) := by decide +kernel
theorem dX1_lookUpEverywhere_64 : decode cX1_lookUpEverywhere 64 = .ok (.iaload, 1) := by decide +kernel
theorem dX1_lookUpEverywhere_65 : decode cX1_lookUpEverywhere 65 = .ok (.iadd, 1) := by decide +kernel
theorem dX1_lookUpEverywhere_66 : decode cX1_lookUpEverywhere 66 = .ok (.putfield 44, 3) := by decide +kernel
theorem dX1_lookUpEverywhere_69 : decode cX1_lookUpEverywhere 69 = .ok (.aload_n 0, 1) := by decide +kernel
theorem dX1_lookUpEverywhere_70 : decode cX1_lookUpEverywhere 70 = .ok (.aload_n 0, 1) := by decide +kernel
theorem dX1_lookUpEverywhere_71 : decode cX1_lookUpEverywhere 71 = .ok (.getfield 20, 3) := by decide +kernel
theorem dX1_lookUpEverywhere_74 : decode cX1_lookUpEverywhere 74 = .ok (.aload_n 0, 1) := by decide +kernel
theorem dX1_lookUpEverywhere_75 : decode cX1_lookUpEverywhere 75 = .ok (.getfield 32, 3) := by decide +kernel
theorem dX1_lookUpEverywhere_78 : decode cX1_lookUpEverywhere 78 = .ok (.invokevirtual 50, 3) := by decide +kernel
theorem dX1_lookUpEverywhere_81 : decode cX1_lookUpEverywhere 81 = .ok (.putfield 54, 3) := by decide +kernel
theorem dX1_lookUpEverywhere_84 : decode cX1_lookUpEverywhere 84 = .ok (.iinc 2 1, 3) := by decide +kernel
theorem dX1_lookUpEverywhere_87 : decode cX1_lookUpEverywhere 87 = .ok (.goto (-85), 3) := by decide +kernel
theorem dX1_lookUpEverywhere_90 : decode cX1_lookUpEverywhere 90 = .ok (.return_, 1) := by decide +kernel
set_option maxRecDepth 20000 in
theorem ggX1_mostPromising_X2_isSeen : GoodIn wsX1_mostPromising wsX2_isSeen := goodIn_r _ [8, 9, 10, 11, 12, 13, 7, 14, 15, 16, 17, 87, 88, 89, 90, 91, 92, 74, 75, 76, 77, 78, 79, 80, 81, 82, 83, 84, 85, 86] (by decide +kernel) (by decide +kernel)
set_option maxRecDepth 20000 in
theorem gX1_mostPromising_X2_isSeen : GoodIn wsX1_mostPromising (wsV RX1 102 RX2 yX2_isSeen wsX2_isSeen) := goodIn_app (goodIn_of _ (by decide +kernel)) ggX1_mostPromising_X2_isSeen
set_option maxRecDepth 20000 in
theorem ggX1_mostPromising_X1_hasLookUpsLeft : GoodIn wsX1_mostPromising wsX1_hasLookUpsLeft := goodIn_r _ [22, 1, 23, 3, 24, 25, 26, 7, 27, 9, 28, 29, 30, 31, 32, 33, 34, 35, 36, 37, 17, 38, 11, 12, 13, 14, 15, 16, 64, 65, 66, 67, 68, 69, 70, 71, 72, 73, 74, 75, 76, 77, 78, 79, 80, 81, 82, 83, 84, 85, 86, 87, 88, 89, 90, 91, 92] (by decide +kernel) (by decide +kernel)
set_option maxRecDepth 20000 in
theorem gX1_mostPromising_X1_hasLookUpsLeft : GoodIn wsX1_mostPromising (wsV RX1 105 RX1 yX1_hasLookUpsLeft wsX1_hasLookUpsLeft) := goodIn_app (goodIn_of _ (by decide +kernel)) ggX1_mostPromising_X1_hasLookUpsLeft
set_option maxRecDepth 20000 in
theorem ggX1_mostPromising_X2_highOf : GoodIn wsX1_mostPromising wsX2_highOf := goodIn_r _ [42, 9, 10, 43, 15, 29, 30, 31, 7, 32, 33, 34, 35, 36, 37, 17, 38, 11, 12, 13, 14, 16, 44, 45, 46, 47, 48, 49, 50, 51, 52, 53, 54, 55, 56, 57, 58, 59, 60, 61, 62, 63, 87, 88, 89, 90, 91, 92, 74, 75, 76, 77, 78, 79, 80, 81, 82, 83, 84, 85, 86] (by decide +kernel) (by decide +kernel)
set_option maxRecDepth 20000 in
theorem gX1_mostPromising_X2_highOf : GoodIn wsX1_mostPromising (wsV RX1 108 RX2 yX2_highOf wsX2_highOf) := goodIn_app (goodIn_of _ (by decide +kernel)) ggX1_mostPromising_X2_highOf
theorem dX1_mostPromising_0 : decode cX1_mostPromising 0 = .ok (.iconst (-1), 1) := by decide +kernel
theorem dX1_mostPromising_1 : decode cX1_mostPromising 1 = .ok (.istore_n 1, 1) := by decide +kernel
theorem dX1_mostPromising_2 : decode cX1_mostPromising 2 = .ok (.iconst 0, 1) := by decide +kernel
theorem dX1_mostPromising_3 : decode cX1_mostPromising 3 = .ok (.istore_n 2, 1) := by decide +kernel
theorem dX1_mostPromising_4 : decode cX1_mostPromising 4 = .ok (.iconst 0, 1) := by decide +kernel
theorem dX1_mostPromising_5 : decode cX1_mostPromising 5 = .ok (.istore_n 3, 1) := by decide +kernel
theorem dX1_mostPromising_6 : decode cX1_mostPromising 6 = .ok (.iload_n 3, 1) := by decide +kernel
theorem dX1_mostPromising_7 : decode cX1_mostPromising 7 = .ok (.aload_n 0, 1) := by decide +kernel
theorem dX1_mostPromising_8 : decode cX1_mostPromising 8 = .ok (.getfield 9, 3) := by decide +kernel
theorem dX1_mostPromising_11 : decode cX1_mostPromising 11 = .ok (.getfield 99, 3) := by decide +kernel
theorem dX1_mostPromising_14 : decode cX1_mostPromising 14 = .ok (.if_icmp .ge 54, 3) := by decide +kernel
theorem dX1_mostPromising_17 : decode cX1_mostPromising 17 = .ok (.aload_n 0, 1) := by decide +kernel
theorem dX1_mostPromising_18 : decode cX1_mostPromising 18 = .ok (.getfield 20, 3) := by decide +kernel
theorem dX1_mostPromising_21 : decode cX1_mostPromising 21 = .ok (.iload_n 3, 1) := by decide +kernel
theorem dX1_mostPromising_22 : decode cX1_mostPromising 22 = .ok (.invokevirtual 102, 3) := by decide +kernel
theorem dX1_mostPromising_25 : decode cX1_mostPromising 25 = .ok (.ifCond .eq 37, 3) := by decide +kernel
theorem dX1_mostPromising_28 : decode cX1_mostPromising 28 = .ok (.aload_n 0, 1) := by decide +kernel
theorem dX1_mostPromising_29 : decode cX1_mostPromising 29 = .ok (.iload_n 3, 1) := by decide +kernel
theorem dX1_mostPromising_30 : decode cX1_mostPromising 30 = .ok (.invokevirtual 105, 3) := by decide +kernel
theorem dX1_mostPromising_33 : decode cX1_mostPromising 33 = .ok (.ifCond .eq 29, 3) := by decide +kernel
theorem dX1_mostPromising_36 : decode cX1_mostPromising 36 = .ok (.aload_n 0, 1) := by decide +kernel
theorem dX1_mostPromising_37 : decode cX1_mostPromising 37 = .ok (.getfield 20, 3) := by decide +kernel
theorem dX1_mostPromising_40 : decode cX1_mostPromising 40 = .ok (.iload_n 3, 1) := by decide +kernel
theorem dX1_mostPromising_41 : decode cX1_mostPromising 41 = .ok (.invokevirtual 108, 3) := by decide +kernel
theorem dX1_mostPromising_44 : decode cX1_mostPromising 44 = .ok (.istore 4, 2) := by decide +kernel
theorem dX1_mostPromising_46 : decode cX1_mostPromising 46 = .ok (.iload_n 1, 1) := by decide +kernel
theorem dX1_mostPromising_47 : decode cX1_mostPromising 47 = .ok (.iconst (-1), 1) := by decide +kernel
theorem dX1_mostPromising_48 : decode cX1_mostPromising 48 = .ok (.if_icmp .eq 9, 3) := by decide +kernel
theorem dX1_mostPromising_51 : decode cX1_mostPromising 51 = .ok (.iload 4, 2) := by decide +kernel
theorem dX1_mostPromising_53 : decode cX1_mostPromising 53 = .ok (.iload_n 2, 1) := by decide +kernel
theorem dX1_mostPromising_54 : decode cX1_mostPromising 54 = .ok (.if_icmp .le 8, 3) := by decide +kernel
theorem dX1_mostPromising_57 : decode cX1_mostPromising 57 = .ok (.iload_n 3, 1) := by decide +kernel
theorem dX1_mostPromising_58 : decode cX1_mostPromising 58 = .ok (.istore_n 1, 1) := by decide +kernel
theorem dX1_mostPromising_59 : decode cX1_mostPromising 59 = .ok (.iload 4, 2) := by decide +kernel
theorem dX1_mostPromising_61 : decode cX1_mostPromising 61 = .ok (.istore_n 2, 1) := by decide +kernel
theorem dX1_mostPromising_62 : decode cX1_mostPromising 62 = .ok (.iinc 3 1, 3) := by decide +kernel
theorem dX1_mostPromising_65 : decode cX1_mostPromising 65 = .ok (.goto (-59), 3) := by decide +kernel
theorem dX1_mostPromising_68 : decode cX1_mostPromising 68 = .ok (.iload_n 1, 1) := by decide +kernel
theorem dX1_mostPromising_69 : decode cX1_mostPromising 69 = .ok (.ireturn, 1) := by decide +kernel
set_option maxRecDepth 20000 in
theorem ggX1_hasLookUpsLeft_X2_mayBeLookedUp : GoodIn wsX1_hasLookUpsLeft wsX2_mayBeLookedUp := goodIn_r _ [8, 9, 10, 11, 12, 13, 7, 14, 15, 16, 17, 18, 19, 20, 21, 22, 23, 24, 25, 26, 27, 51, 52, 53, 54, 55, 56, 38, 39, 40, 41, 42, 43, 44, 45, 46, 47, 48, 49, 50] (by decide +kernel) (by decide +kernel)
set_option maxRecDepth 20000 in
theorem gX1_hasLookUpsLeft_X2_mayBeLookedUp : GoodIn wsX1_hasLookUpsLeft (wsV RX1 88 RX2 yX2_mayBeLookedUp wsX2_mayBeLookedUp) := goodIn_app (goodIn_of _ (by decide +kernel)) ggX1_hasLookUpsLeft_X2_mayBeLookedUp
theorem dX1_hasLookUpsLeft_0 : decode cX1_hasLookUpsLeft 0 = .ok (.iconst 0, 1) := by decide +kernel
theorem dX1_hasLookUpsLeft_1 : decode cX1_hasLookUpsLeft 1 = .ok (.istore_n 2, 1) := by decide +kernel
theorem dX1_hasLookUpsLeft_2 : decode cX1_hasLookUpsLeft 2 = .ok (.iload_n 2, 1) := by decide +kernel
theorem dX1_hasLookUpsLeft_3 : decode cX1_hasLookUpsLeft 3 = .ok (.aload_n 0, 1) := by decide +kernel
theorem dX1_hasLookUpsLeft_4 : decode cX1_hasLookUpsLeft 4 = .ok (.getfield 9, 3) := by decide +kernel
theorem dX1_hasLookUpsLeft_7 : decode cX1_hasLookUpsLeft 7 = .ok (.getfield 57, 3) := by decide +kernel
theorem dX1_hasLookUpsLeft_10 : decode cX1_hasLookUpsLeft 10 = .ok (.if_icmp .ge 23, 3) := by decide +kernel
theorem dX1_hasLookUpsLeft_13 : decode cX1_hasLookUpsLeft 13 = .ok (.aload_n 0, 1) := by decide +kernel
theorem dX1_hasLookUpsLeft_14 : decode cX1_hasLookUpsLeft 14 = .ok (.getfield 20, 3) := by decide +kernel
theorem dX1_hasLookUpsLeft_17 : decode cX1_hasLookUpsLeft 17 = .ok (.iload_n 2, 1) := by decide +kernel
theorem dX1_hasLookUpsLeft_18 : decode cX1_hasLookUpsLeft 18 = .ok (.iload_n 1, 1) := by decide +kernel
theorem dX1_hasLookUpsLeft_19 : decode cX1_hasLookUpsLeft 19 = .ok (.invokevirtual 88, 3) := by decide +kernel
theorem dX1_hasLookUpsLeft_22 : decode cX1_hasLookUpsLeft 22 = .ok (.ifCond .eq 5, 3) := by decide +kernel
theorem dX1_hasLookUpsLeft_25 : decode cX1_hasLookUpsLeft 25 = .ok (.iconst 1, 1) := by decide +kernel
theorem dX1_hasLookUpsLeft_26 : decode cX1_hasLookUpsLeft 26 = .ok (.ireturn, 1) := by decide +kernel
theorem dX1_hasLookUpsLeft_27 : decode cX1_hasLookUpsLeft 27 = .ok (.iinc 2 1, 3) := by decide +kernel
theorem dX1_hasLookUpsLeft_30 : decode cX1_hasLookUpsLeft 30 = .ok (.goto (-28), 3) := by decide +kernel
theorem dX1_hasLookUpsLeft_33 : decode cX1_hasLookUpsLeft 33 = .ok (.iconst 0, 1) := by decide +kernel
theorem dX1_hasLookUpsLeft_34 : decode cX1_hasLookUpsLeft 34 = .ok (.ireturn, 1) := by decide +kernel
theorem dX2_init_0 : decode cX2_init 0 = .ok (.aload_n 0, 1) := by decide +kernel
theorem dX2_init_1 : decode cX2_init 1 = .ok (.invokespecial 3, 3) := by decide +kernel
theorem dX2_init_4 : decode cX2_init 4 = .ok (.aload_n 0, 1) := by decide +kernel
theorem dX2_init_5 : decode cX2_init 5 = .ok (.iconst 4, 1) := by decide +kernel
theorem dX2_init_6 : decode cX2_init 6 = .ok (.newarray .int, 2) := by decide +kernel
theorem dX2_init_8 : decode cX2_init 8 = .ok (.putfield 9, 3) := by decide +kernel
theorem dX2_init_11 : decode cX2_init 11 = .ok (.aload_n 0, 1) := by decide +kernel
theorem dX2_init_12 : decode cX2_init 12 = .ok (.iconst 4, 1) := by decide +kernel
theorem dX2_init_13 : decode cX2_init 13 = .ok (.newarray .int, 2) := by decide +kernel
theorem dX2_init_15 : decode cX2_init 15 = .ok (.putfield 15, 3) := by decide +kernel
theorem dX2_init_18 : decode cX2_init 18 = .ok (.aload_n 0, 1) := by decide +kernel
theorem dX2_init_19 : decode cX2_init 19 = .ok (.iconst 4, 1) := by decide +kernel
theorem dX2_init_20 : decode cX2_init 20 = .ok (.newarray .int, 2) := by decide +kernel
theorem dX2_init_22 : decode cX2_init 22 = .ok (.putfield 18, 3) := by decide +kernel
theorem dX2_init_25 : decode cX2_init 25 = .ok (.aload_n 0, 1) := by decide +kernel
theorem dX2_init_26 : decode cX2_init 26 = .ok (.bipush 20, 2) := by decide +kernel
theorem dX2_init_28 : decode cX2_init 28 = .ok (.newarray .int, 2) := by decide +kernel
theorem dX2_init_30 : decode cX2_init 30 = .ok (.putfield 21, 3) := by decide +kernel
theorem dX2_init_33 : decode cX2_init 33 = .ok (.aload_n 0, 1) := by decide +kernel
theorem dX2_init_34 : decode cX2_init 34 = .ok (.aload_n 1, 1) := by decide +kernel
theorem dX2_init_35 : decode cX2_init 35 = .ok (.putfield 24, 3) := by decide +kernel
theorem dX2_init_38 : decode cX2_init 38 = .ok (.return_, 1) := by decide +kernel
theorem dX2_forget_0 : decode cX2_forget 0 = .ok (.iconst 0, 1) := by decide +kernel
theorem dX2_forget_1 : decode cX2_forget 1 = .ok (.istore_n 1, 1) := by decide +kernel
theorem dX2_forget_2 : decode cX2_forget 2 = .ok (.iload_n 1, 1) := by decide +kernel
theorem dX2_forget_3 : decode cX2_forget 3 = .ok (.iconst 4, 1) := by decide +kernel
theorem dX2_forget_4 : decode cX2_forget 4 = .ok (.if_icmp .ge 23, 3) := by decide +kernel
theorem dX2_forget_7 : decode cX2_forget 7 = .ok (.aload_n 0, 1) := by decide +kernel
theorem dX2_forget_8 : decode cX2_forget 8 = .ok (.getfield 9, 3) := by decide +kernel
theorem dX2_forget_11 : decode cX2_forget 11 = .ok (.iload_n 1, 1) := by decide +kernel
theorem dX2_forget_12 : decode cX2_forget 12 = .ok (.iconst 0, 1) := by decide +kernel
theorem dX2_forget_13 : decode cX2_forget 13 = .ok (.iastore, 1) := by decide +kernel
theorem dX2_forget_14 : decode cX2_forget 14 = .ok (.aload_n 0, 1) := by decide +kernel
theorem dX2_forget_15 : decode cX2_forget 15 = .ok (.getfield 15, 3) := by decide +kernel
theorem dX2_forget_18 : decode cX2_forget 18 = .ok (.iload_n 1, 1) := by decide +kernel
theorem dX2_forget_19 : decode cX2_forget 19 = .ok (.iconst 0, 1) := by decide +kernel
theorem dX2_forget_20 : decode cX2_forget 20 = .ok (.iastore, 1) := by decide +kernel
theorem dX2_forget_21 : decode cX2_forget 21 = .ok (.iinc 1 1, 3) := by decide +kernel
theorem dX2_forget_24 : decode cX2_forget 24 = .ok (.goto (-22), 3) := by decide +kernel
theorem dX2_forget_27 : decode cX2_forget 27 = .ok (.return_, 1) := by decide +kernel
theorem dX2_noteLookUp_0 : decode cX2_noteLookUp 0 = .ok (.aload_n 0, 1) := by decide +kernel
theorem dX2_noteLookUp_1 : decode cX2_noteLookUp 1 = .ok (.getfield 15, 3) := by decide +kernel
theorem dX2_noteLookUp_4 : decode cX2_noteLookUp 4 = .ok (.iload_n 1, 1) := by decide +kernel
theorem dX2_noteLookUp_5 : decode cX2_noteLookUp 5 = .ok (.dup2, 1) := by decide +kernel
theorem dX2_noteLookUp_6 : decode cX2_noteLookUp 6 = .ok (.iaload, 1) := by decide +kernel
theorem dX2_noteLookUp_7 : decode cX2_noteLookUp 7 = .ok (.iconst 1, 1) := by decide +kernel
theorem dX2_noteLookUp_8 : decode cX2_noteLookUp 8 = .ok (.iload_n 2, 1) := by decide +kernel
theorem dX2_noteLookUp_9 : decode cX2_noteLookUp 9 = .ok (.ishl, 1) := by decide +kernel
theorem dX2_noteLookUp_10 : decode cX2_noteLookUp 10 = .ok (.ior, 1) := by decide +kernel
theorem dX2_noteLookUp_11 : decode cX2_noteLookUp 11 = .ok (.iastore, 1) := by decide +kernel
theorem dX2_noteLookUp_12 : decode cX2_noteLookUp 12 = .ok (.return_, 1) := by decide +kernel
theorem dX2_isWhole_0 : decode cX2_isWhole 0 = .ok (.aload_n 0, 1) := by decide +kernel
theorem dX2_isWhole_1 : decode cX2_isWhole 1 = .ok (.getfield 9, 3) := by decide +kernel
theorem dX2_isWhole_4 : decode cX2_isWhole 4 = .ok (.iload_n 1, 1) := by decide +kernel
theorem dX2_isWhole_5 : decode cX2_isWhole 5 = .ok (.iaload, 1) := by decide +kernel
theorem dX2_isWhole_6 : decode cX2_isWhole 6 = .ok (.aload_n 0, 1) := by decide +kernel
theorem dX2_isWhole_7 : decode cX2_isWhole 7 = .ok (.getfield 24, 3) := by decide +kernel
theorem dX2_isWhole_10 : decode cX2_isWhole 10 = .ok (.getfield 28, 3) := by decide +kernel
theorem dX2_isWhole_13 : decode cX2_isWhole 13 = .ok (.iload_n 1, 1) := by decide +kernel
theorem dX2_isWhole_14 : decode cX2_isWhole 14 = .ok (.iaload, 1) := by decide +kernel
theorem dX2_isWhole_15 : decode cX2_isWhole 15 = .ok (.if_icmp .lt 7, 3) := by decide +kernel
theorem dX2_isWhole_18 : decode cX2_isWhole 18 = .ok (.iconst 1, 1) := by decide +kernel
theorem dX2_isWhole_19 : decode cX2_isWhole 19 = .ok (.goto 4, 3) := by decide +kernel
theorem dX2_isWhole_22 : decode cX2_isWhole 22 = .ok (.iconst 0, 1) := by decide +kernel
theorem dX2_isWhole_23 : decode cX2_isWhole 23 = .ok (.ireturn, 1) := by decide +kernel
theorem dX2_isAtSeenPlace_0 : decode cX2_isAtSeenPlace 0 = .ok (.aload_n 0, 1) := by decide +kernel
theorem dX2_isAtSeenPlace_1 : decode cX2_isAtSeenPlace 1 = .ok (.getfield 24, 3) := by decide +kernel
theorem dX2_isAtSeenPlace_4 : decode cX2_isAtSeenPlace 4 = .ok (.getfield 33, 3) := by decide +kernel
theorem dX2_isAtSeenPlace_7 : decode cX2_isAtSeenPlace 7 = .ok (.iload_n 1, 1) := by decide +kernel
theorem dX2_isAtSeenPlace_8 : decode cX2_isAtSeenPlace 8 = .ok (.aaload, 1) := by decide +kernel
theorem dX2_isAtSeenPlace_9 : decode cX2_isAtSeenPlace 9 = .ok (.iload_n 2, 1) := by decide +kernel
theorem dX2_isAtSeenPlace_10 : decode cX2_isAtSeenPlace 10 = .ok (.iaload, 1) := by decide +kernel
theorem dX2_isAtSeenPlace_11 : decode cX2_isAtSeenPlace 11 = .ok (.ifCond .eq 27, 3) := by decide +kernel
theorem dX2_isAtSeenPlace_14 : decode cX2_isAtSeenPlace 14 = .ok (.aload_n 0, 1) := by decide +kernel
theorem dX2_isAtSeenPlace_15 : decode cX2_isAtSeenPlace 15 = .ok (.getfield 24, 3) := by decide +kernel
theorem dX2_isAtSeenPlace_18 : decode cX2_isAtSeenPlace 18 = .ok (.getfield 37, 3) := by decide +kernel
theorem dX2_isAtSeenPlace_21 : decode cX2_isAtSeenPlace 21 = .ok (.iload_n 1, 1) := by decide +kernel
theorem dX2_isAtSeenPlace_22 : decode cX2_isAtSeenPlace 22 = .ok (.aaload, 1) := by decide +kernel
theorem dX2_isAtSeenPlace_23 : decode cX2_isAtSeenPlace 23 = .ok (.iload_n 2, 1) := by decide +kernel
theorem dX2_isAtSeenPlace_24 : decode cX2_isAtSeenPlace 24 = .ok (.iaload, 1) := by decide +kernel
theorem dX2_isAtSeenPlace_25 : decode cX2_isAtSeenPlace 25 = .ok (.aload_n 0, 1) := by decide +kernel
theorem dX2_isAtSeenPlace_26 : decode cX2_isAtSeenPlace 26 = .ok (.getfield 9, 3) := by decide +kernel
theorem dX2_isAtSeenPlace_29 : decode cX2_isAtSeenPlace 29 = .ok (.iload_n 1, 1) := by decide +kernel
theorem dX2_isAtSeenPlace_30 : decode cX2_isAtSeenPlace 30 = .ok (.iaload, 1) := by decide +kernel
theorem dX2_isAtSeenPlace_31 : decode cX2_isAtSeenPlace 31 = .ok (.if_icmp .ge 7, 3) := by decide +kernel
theorem dX2_isAtSeenPlace_34 : decode cX2_isAtSeenPlace 34 = .ok (.iconst 1, 1) := by decide +kernel
theorem dX2_isAtSeenPlace_35 : decode cX2_isAtSeenPlace 35 = .ok (.goto 4, 3) := by decide +kernel
theorem dX2_isAtSeenPlace_38 : decode cX2_isAtSeenPlace 38 = .ok (.iconst 0, 1) := by decide +kernel
theorem dX2_isAtSeenPlace_39 : decode cX2_isAtSeenPlace 39 = .ok (.ireturn, 1) := by decide +kernel
set_option maxRecDepth 20000 in
theorem ggX2_isKnown_X2_isWhole : GoodIn wsX2_isKnown wsX2_isWhole := goodIn_r _ [6, 7, 8, 9, 16, 17, 18, 19, 20, 21, 22, 23, 24, 25, 26, 27, 28, 29, 30, 31, 32, 33, 34] (by decide +kernel) (by decide +kernel)
set_option maxRecDepth 20000 in
theorem gX2_isKnown_X2_isWhole : GoodIn wsX2_isKnown (wsV RX2 40 RX2 yX2_isWhole wsX2_isWhole) := goodIn_app (goodIn_of _ (by decide +kernel)) ggX2_isKnown_X2_isWhole
set_option maxRecDepth 20000 in
theorem ggX2_isKnown_X2_isAtSeenPlace : GoodIn wsX2_isKnown wsX2_isAtSeenPlace := goodIn_r _ [13, 8, 14, 15, 7, 16, 17, 18, 19, 20, 21, 22, 23, 24, 25, 26, 27, 28, 29, 30, 31, 32, 33, 34] (by decide +kernel) (by decide +kernel)
set_option maxRecDepth 20000 in
theorem gX2_isKnown_X2_isAtSeenPlace : GoodIn wsX2_isKnown (wsV RX2 44 RX2 yX2_isAtSeenPlace wsX2_isAtSeenPlace) := goodIn_app (goodIn_of _ (by decide +kernel)) ggX2_isKnown_X2_isAtSeenPlace
theorem dX2_isKnown_0 : decode cX2_isKnown 0 = .ok (.aload_n 0, 1) := by decide +kernel
