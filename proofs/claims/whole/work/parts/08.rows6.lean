set_option maxRecDepth 20000 in
theorem ggX5_bound_X5_isThing : GoodIn wsX5_bound wsX5_isThing := goodIn_r _ [6, 7, 8, 9, 5, 10, 40, 41, 42, 43, 44, 45, 46, 47, 48, 49, 50, 51, 52, 53, 54, 55, 56, 57, 58, 59, 60, 61, 62, 63, 64, 65, 66, 67, 68] (by decide +kernel) (by decide +kernel)
set_option maxRecDepth 20000 in
theorem gX5_bound_X5_isThing : GoodIn wsX5_bound (wsV RX5 81 RX5 yX5_isThing wsX5_isThing) := goodIn_app (goodIn_of _ (by decide +kernel)) ggX5_bound_X5_isThing
set_option maxRecDepth 20000 in
theorem ggX5_bound_X5_in : GoodIn wsX5_bound wsX5_in := goodIn_r _ [10] (by decide +kernel) (by decide +kernel)
set_option maxRecDepth 20000 in
theorem gX5_bound_X5_in : GoodIn wsX5_bound (va_wsS RX5 66 yX5_in wsX5_in) := goodIn_app (goodIn_of _ (by decide +kernel)) ggX5_bound_X5_in
set_option maxRecDepth 20000 in
theorem ggX5_bound_X5_boundOf : GoodIn wsX5_bound wsX5_boundOf := goodIn_r _ [14, 15, 16, 17, 18, 19, 20, 5, 21, 22, 23, 24, 25, 26, 27, 28, 29, 30, 31, 32, 33, 34, 35, 36, 37, 38, 39, 40, 41, 42, 43, 44, 45, 46, 47, 48, 49, 50, 51, 52, 53, 54, 55, 56, 57, 58, 59, 60, 61, 62, 63, 64, 65, 66, 67, 68] (by decide +kernel) (by decide +kernel)
set_option maxRecDepth 20000 in
theorem gX5_bound_X5_boundOf : GoodIn wsX5_bound (wsV RX5 110 RX5 yX5_boundOf wsX5_boundOf) := goodIn_app (goodIn_of _ (by decide +kernel)) ggX5_bound_X5_boundOf
theorem dX5_bound_0 : decode cX5_bound 0 = .ok (.aload_n 0, 1) := by decide +kernel
theorem dX5_bound_1 : decode cX5_bound 1 = .ok (.getfield 73, 3) := by decide +kernel
theorem dX5_bound_4 : decode cX5_bound 4 = .ok (.ifCond .eq 11, 3) := by decide +kernel
theorem dX5_bound_7 : decode cX5_bound 7 = .ok (.aload_n 0, 1) := by decide +kernel
theorem dX5_bound_8 : decode cX5_bound 8 = .ok (.iload_n 1, 1) := by decide +kernel
theorem dX5_bound_9 : decode cX5_bound 9 = .ok (.invokevirtual 81, 3) := by decide +kernel
theorem dX5_bound_12 : decode cX5_bound 12 = .ok (.ifCond .ne 5, 3) := by decide +kernel
theorem dX5_bound_15 : decode cX5_bound 15 = .ok (.iconst (-1), 1) := by decide +kernel
theorem dX5_bound_16 : decode cX5_bound 16 = .ok (.ireturn, 1) := by decide +kernel
theorem dX5_bound_17 : decode cX5_bound 17 = .ok (.iload_n 2, 1) := by decide +kernel
theorem dX5_bound_18 : decode cX5_bound 18 = .ok (.iconst 0, 1) := by decide +kernel
theorem dX5_bound_19 : decode cX5_bound 19 = .ok (.iconst 1, 1) := by decide +kernel
theorem dX5_bound_20 : decode cX5_bound 20 = .ok (.invokestatic 66, 3) := by decide +kernel
theorem dX5_bound_23 : decode cX5_bound 23 = .ok (.ifCond .eq 21, 3) := by decide +kernel
theorem dX5_bound_26 : decode cX5_bound 26 = .ok (.aload_n 0, 1) := by decide +kernel
theorem dX5_bound_27 : decode cX5_bound 27 = .ok (.iload_n 1, 1) := by decide +kernel
theorem dX5_bound_28 : decode cX5_bound 28 = .ok (.iload_n 2, 1) := by decide +kernel
theorem dX5_bound_29 : decode cX5_bound 29 = .ok (.iconst 1, 1) := by decide +kernel
theorem dX5_bound_30 : decode cX5_bound 30 = .ok (.if_icmp .ne 7, 3) := by decide +kernel
theorem dX5_bound_33 : decode cX5_bound 33 = .ok (.iconst 1, 1) := by decide +kernel
theorem dX5_bound_34 : decode cX5_bound 34 = .ok (.goto 4, 3) := by decide +kernel
theorem dX5_bound_37 : decode cX5_bound 37 = .ok (.iconst 0, 1) := by decide +kernel
theorem dX5_bound_38 : decode cX5_bound 38 = .ok (.invokevirtual 110, 3) := by decide +kernel
theorem dX5_bound_41 : decode cX5_bound 41 = .ok (.goto 5, 3) := by decide +kernel
theorem dX5_bound_44 : decode cX5_bound 44 = .ok (.bipush (-2), 2) := by decide +kernel
theorem dX5_bound_46 : decode cX5_bound 46 = .ok (.ireturn, 1) := by decide +kernel
set_option maxRecDepth 20000 in
theorem ggX5_ahead_X5_isThing : GoodIn wsX5_ahead wsX5_isThing := goodIn_r _ [6, 7, 8, 9, 5, 10, 44, 45, 46, 47, 48, 49, 50, 51, 52, 53, 54, 55, 56, 57, 58, 59, 60, 61, 62, 63, 64, 65, 66, 67, 68, 69, 70, 71, 72] (by decide +kernel) (by decide +kernel)
set_option maxRecDepth 20000 in
theorem gX5_ahead_X5_isThing : GoodIn wsX5_ahead (wsV RX5 81 RX5 yX5_isThing wsX5_isThing) := goodIn_app (goodIn_of _ (by decide +kernel)) ggX5_ahead_X5_isThing
set_option maxRecDepth 20000 in
theorem ggX5_ahead_X5_isAhead : GoodIn wsX5_ahead wsX5_isAhead := goodIn_r _ [14, 15, 16, 17, 5, 18, 19, 20, 21, 22, 23, 24, 25, 26, 27, 28, 29, 30, 31, 32, 33, 34, 35, 36, 37, 38, 39, 40, 41, 42, 43, 44, 45, 46, 47, 48, 49, 50, 51, 52, 53, 54, 55, 56, 57, 58, 59, 60, 61, 62, 63, 64, 65, 66, 67, 68, 69, 70, 71, 72] (by decide +kernel) (by decide +kernel)
set_option maxRecDepth 20000 in
theorem gX5_ahead_X5_isAhead : GoodIn wsX5_ahead (wsV RX5 160 RX5 yX5_isAhead wsX5_isAhead) := goodIn_app (goodIn_of _ (by decide +kernel)) ggX5_ahead_X5_isAhead
theorem dX5_ahead_0 : decode cX5_ahead 0 = .ok (.aload_n 0, 1) := by decide +kernel
theorem dX5_ahead_1 : decode cX5_ahead 1 = .ok (.getfield 73, 3) := by decide +kernel
theorem dX5_ahead_4 : decode cX5_ahead 4 = .ok (.ifCond .eq 19, 3) := by decide +kernel
theorem dX5_ahead_7 : decode cX5_ahead 7 = .ok (.aload_n 0, 1) := by decide +kernel
theorem dX5_ahead_8 : decode cX5_ahead 8 = .ok (.iload_n 1, 1) := by decide +kernel
theorem dX5_ahead_9 : decode cX5_ahead 9 = .ok (.invokevirtual 81, 3) := by decide +kernel
theorem dX5_ahead_12 : decode cX5_ahead 12 = .ok (.ifCond .eq 11, 3) := by decide +kernel
theorem dX5_ahead_15 : decode cX5_ahead 15 = .ok (.aload_n 0, 1) := by decide +kernel
theorem dX5_ahead_16 : decode cX5_ahead 16 = .ok (.iload_n 2, 1) := by decide +kernel
theorem dX5_ahead_17 : decode cX5_ahead 17 = .ok (.invokevirtual 81, 3) := by decide +kernel
theorem dX5_ahead_20 : decode cX5_ahead 20 = .ok (.ifCond .ne 5, 3) := by decide +kernel
theorem dX5_ahead_23 : decode cX5_ahead 23 = .ok (.iconst (-1), 1) := by decide +kernel
theorem dX5_ahead_24 : decode cX5_ahead 24 = .ok (.ireturn, 1) := by decide +kernel
theorem dX5_ahead_25 : decode cX5_ahead 25 = .ok (.iload_n 1, 1) := by decide +kernel
theorem dX5_ahead_26 : decode cX5_ahead 26 = .ok (.iload_n 2, 1) := by decide +kernel
theorem dX5_ahead_27 : decode cX5_ahead 27 = .ok (.if_icmp .ne 6, 3) := by decide +kernel
theorem dX5_ahead_30 : decode cX5_ahead 30 = .ok (.bipush (-2), 2) := by decide +kernel
theorem dX5_ahead_32 : decode cX5_ahead 32 = .ok (.ireturn, 1) := by decide +kernel
theorem dX5_ahead_33 : decode cX5_ahead 33 = .ok (.aload_n 0, 1) := by decide +kernel
theorem dX5_ahead_34 : decode cX5_ahead 34 = .ok (.iload_n 1, 1) := by decide +kernel
theorem dX5_ahead_35 : decode cX5_ahead 35 = .ok (.iload_n 2, 1) := by decide +kernel
theorem dX5_ahead_36 : decode cX5_ahead 36 = .ok (.invokevirtual 160, 3) := by decide +kernel
theorem dX5_ahead_39 : decode cX5_ahead 39 = .ok (.ifCond .eq 7, 3) := by decide +kernel
theorem dX5_ahead_42 : decode cX5_ahead 42 = .ok (.iconst 1, 1) := by decide +kernel
theorem dX5_ahead_43 : decode cX5_ahead 43 = .ok (.goto 4, 3) := by decide +kernel
theorem dX5_ahead_46 : decode cX5_ahead 46 = .ok (.iconst 0, 1) := by decide +kernel
theorem dX5_ahead_47 : decode cX5_ahead 47 = .ok (.ireturn, 1) := by decide +kernel
set_option maxRecDepth 20000 in
theorem ggX5_found_X5_in : GoodIn wsX5_found wsX5_in := goodIn_r _ [9] (by decide +kernel) (by decide +kernel)
set_option maxRecDepth 20000 in
theorem gX5_found_X5_in : GoodIn wsX5_found (va_wsS RX5 66 yX5_in wsX5_in) := goodIn_app (goodIn_of _ (by decide +kernel)) ggX5_found_X5_in
theorem dX5_found_0 : decode cX5_found 0 = .ok (.aload_n 0, 1) := by decide +kernel
theorem dX5_found_1 : decode cX5_found 1 = .ok (.getfield 73, 3) := by decide +kernel
theorem dX5_found_4 : decode cX5_found 4 = .ok (.ifCond .eq 17, 3) := by decide +kernel
theorem dX5_found_7 : decode cX5_found 7 = .ok (.iload_n 1, 1) := by decide +kernel
theorem dX5_found_8 : decode cX5_found 8 = .ok (.iconst 0, 1) := by decide +kernel
theorem dX5_found_9 : decode cX5_found 9 = .ok (.aload_n 0, 1) := by decide +kernel
theorem dX5_found_10 : decode cX5_found 10 = .ok (.getfield 114, 3) := by decide +kernel
theorem dX5_found_13 : decode cX5_found 13 = .ok (.iconst 1, 1) := by decide +kernel
theorem dX5_found_14 : decode cX5_found 14 = .ok (.isub, 1) := by decide +kernel
theorem dX5_found_15 : decode cX5_found 15 = .ok (.invokestatic 66, 3) := by decide +kernel
theorem dX5_found_18 : decode cX5_found 18 = .ok (.ifCond .ne 5, 3) := by decide +kernel
theorem dX5_found_21 : decode cX5_found 21 = .ok (.iconst (-1), 1) := by decide +kernel
theorem dX5_found_22 : decode cX5_found 22 = .ok (.ireturn, 1) := by decide +kernel
theorem dX5_found_23 : decode cX5_found 23 = .ok (.aload_n 0, 1) := by decide +kernel
theorem dX5_found_24 : decode cX5_found 24 = .ok (.getfield 120, 3) := by decide +kernel
theorem dX5_found_27 : decode cX5_found 27 = .ok (.ifCond .ne 6, 3) := by decide +kernel
theorem dX5_found_30 : decode cX5_found 30 = .ok (.bipush (-3), 2) := by decide +kernel
theorem dX5_found_32 : decode cX5_found 32 = .ok (.ireturn, 1) := by decide +kernel
theorem dX5_found_33 : decode cX5_found 33 = .ok (.iconst 0, 1) := by decide +kernel
theorem dX5_found_34 : decode cX5_found 34 = .ok (.istore_n 2, 1) := by decide +kernel
theorem dX5_found_35 : decode cX5_found 35 = .ok (.iconst 0, 1) := by decide +kernel
theorem dX5_found_36 : decode cX5_found 36 = .ok (.istore_n 3, 1) := by decide +kernel
theorem dX5_found_37 : decode cX5_found 37 = .ok (.iload_n 3, 1) := by decide +kernel
theorem dX5_found_38 : decode cX5_found 38 = .ok (.aload_n 0, 1) := by decide +kernel
theorem dX5_found_39 : decode cX5_found 39 = .ok (.getfield 63, 3) := by decide +kernel
theorem dX5_found_42 : decode cX5_found 42 = .ok (.if_icmp .ge 31, 3) := by decide +kernel
theorem dX5_found_45 : decode cX5_found 45 = .ok (.aload_n 0, 1) := by decide +kernel
theorem dX5_found_46 : decode cX5_found 46 = .ok (.getfield 47, 3) := by decide +kernel
theorem dX5_found_49 : decode cX5_found 49 = .ok (.iload_n 3, 1) := by decide +kernel
theorem dX5_found_50 : decode cX5_found 50 = .ok (.baload, 1) := by decide +kernel
theorem dX5_found_51 : decode cX5_found 51 = .ok (.ifCond .ne 6, 3) := by decide +kernel
theorem dX5_found_54 : decode cX5_found 54 = .ok (.goto 13, 3) := by decide +kernel
theorem dX5_found_57 : decode cX5_found 57 = .ok (.iload_n 2, 1) := by decide +kernel
theorem dX5_found_58 : decode cX5_found 58 = .ok (.iload_n 1, 1) := by decide +kernel
theorem dX5_found_59 : decode cX5_found 59 = .ok (.if_icmp .ne 5, 3) := by decide +kernel
theorem dX5_found_62 : decode cX5_found 62 = .ok (.iload_n 3, 1) := by decide +kernel
theorem dX5_found_63 : decode cX5_found 63 = .ok (.ireturn, 1) := by decide +kernel
theorem dX5_found_64 : decode cX5_found 64 = .ok (.iinc 2 1, 3) := by decide +kernel
theorem dX5_found_67 : decode cX5_found 67 = .ok (.iinc 3 1, 3) := by decide +kernel
theorem dX5_found_70 : decode cX5_found 70 = .ok (.goto (-33), 3) := by decide +kernel
theorem dX5_found_73 : decode cX5_found 73 = .ok (.iconst (-1), 1) := by decide +kernel
theorem dX5_found_74 : decode cX5_found 74 = .ok (.ireturn, 1) := by decide +kernel
set_option maxRecDepth 20000 in
theorem ggX5_aside_X5_clear : GoodIn wsX5_aside wsX5_clear := goodIn_r _ [9, 2, 4, 10, 11, 12, 13, 14, 15, 16, 17, 18, 19, 20, 21, 22, 23, 24, 25, 26, 27, 28, 29, 30, 31, 32, 33, 34, 35, 36, 37, 38] (by decide +kernel) (by decide +kernel)
set_option maxRecDepth 20000 in
theorem gX5_aside_X5_clear : GoodIn wsX5_aside (wsV RX5 141 RX5 yX5_clear wsX5_clear) := goodIn_app (goodIn_of _ (by decide +kernel)) ggX5_aside_X5_clear
theorem dX5_aside_0 : decode cX5_aside 0 = .ok (.iconst 0, 1) := by decide +kernel
theorem dX5_aside_1 : decode cX5_aside 1 = .ok (.istore_n 1, 1) := by decide +kernel
theorem dX5_aside_2 : decode cX5_aside 2 = .ok (.iload_n 1, 1) := by decide +kernel
theorem dX5_aside_3 : decode cX5_aside 3 = .ok (.iconst 4, 1) := by decide +kernel
theorem dX5_aside_4 : decode cX5_aside 4 = .ok (.if_icmp .ge 21, 3) := by decide +kernel
theorem dX5_aside_7 : decode cX5_aside 7 = .ok (.aload_n 0, 1) := by decide +kernel
theorem dX5_aside_8 : decode cX5_aside 8 = .ok (.getfield 50, 3) := by decide +kernel
theorem dX5_aside_11 : decode cX5_aside 11 = .ok (.iload_n 1, 1) := by decide +kernel
theorem dX5_aside_12 : decode cX5_aside 12 = .ok (.aload_n 0, 1) := by decide +kernel
theorem dX5_aside_13 : decode cX5_aside 13 = .ok (.getfield 31, 3) := by decide +kernel
theorem dX5_aside_16 : decode cX5_aside 16 = .ok (.iload_n 1, 1) := by decide +kernel
theorem dX5_aside_17 : decode cX5_aside 17 = .ok (.iaload, 1) := by decide +kernel
theorem dX5_aside_18 : decode cX5_aside 18 = .ok (.iastore, 1) := by decide +kernel
theorem dX5_aside_19 : decode cX5_aside 19 = .ok (.iinc 1 1, 3) := by decide +kernel
theorem dX5_aside_22 : decode cX5_aside 22 = .ok (.goto (-20), 3) := by decide +kernel
theorem dX5_aside_25 : decode cX5_aside 25 = .ok (.iconst 0, 1) := by decide +kernel
theorem dX5_aside_26 : decode cX5_aside 26 = .ok (.istore_n 1, 1) := by decide +kernel
theorem dX5_aside_27 : decode cX5_aside 27 = .ok (.iload_n 1, 1) := by decide +kernel
theorem dX5_aside_28 : decode cX5_aside 28 = .ok (.bipush 80, 2) := by decide +kernel
theorem dX5_aside_30 : decode cX5_aside 30 = .ok (.if_icmp .ge 21, 3) := by decide +kernel
theorem dX5_aside_33 : decode cX5_aside 33 = .ok (.aload_n 0, 1) := by decide +kernel
theorem dX5_aside_34 : decode cX5_aside 34 = .ok (.getfield 53, 3) := by decide +kernel
theorem dX5_aside_37 : decode cX5_aside 37 = .ok (.iload_n 1, 1) := by decide +kernel
theorem dX5_aside_38 : decode cX5_aside 38 = .ok (.aload_n 0, 1) := by decide +kernel
theorem dX5_aside_39 : decode cX5_aside 39 = .ok (.getfield 34, 3) := by decide +kernel
theorem dX5_aside_42 : decode cX5_aside 42 = .ok (.iload_n 1, 1) := by decide +kernel
theorem dX5_aside_43 : decode cX5_aside 43 = .ok (.baload, 1) := by decide +kernel
theorem dX5_aside_44 : decode cX5_aside 44 = .ok (.bastore, 1) := by decide +kernel
theorem dX5_aside_45 : decode cX5_aside 45 = .ok (.iinc 1 1, 3) := by decide +kernel
theorem dX5_aside_48 : decode cX5_aside 48 = .ok (.goto (-21), 3) := by decide +kernel
theorem dX5_aside_51 : decode cX5_aside 51 = .ok (.aload_n 0, 1) := by decide +kernel
theorem dX5_aside_52 : decode cX5_aside 52 = .ok (.invokevirtual 141, 3) := by decide +kernel
theorem dX5_aside_55 : decode cX5_aside 55 = .ok (.return_, 1) := by decide +kernel
theorem dX5_again_0 : decode cX5_again 0 = .ok (.iconst 0, 1) := by decide +kernel
theorem dX5_again_1 : decode cX5_again 1 = .ok (.istore_n 1, 1) := by decide +kernel
theorem dX5_again_2 : decode cX5_again 2 = .ok (.iload_n 1, 1) := by decide +kernel
theorem dX5_again_3 : decode cX5_again 3 = .ok (.iconst 4, 1) := by decide +kernel
theorem dX5_again_4 : decode cX5_again 4 = .ok (.if_icmp .ge 21, 3) := by decide +kernel
theorem dX5_again_7 : decode cX5_again 7 = .ok (.aload_n 0, 1) := by decide +kernel
theorem dX5_again_8 : decode cX5_again 8 = .ok (.getfield 31, 3) := by decide +kernel
theorem dX5_again_11 : decode cX5_again 11 = .ok (.iload_n 1, 1) := by decide +kernel
theorem dX5_again_12 : decode cX5_again 12 = .ok (.aload_n 0, 1) := by decide +kernel
theorem dX5_again_13 : decode cX5_again 13 = .ok (.getfield 50, 3) := by decide +kernel
theorem dX5_again_16 : decode cX5_again 16 = .ok (.iload_n 1, 1) := by decide +kernel
theorem dX5_again_17 : decode cX5_again 17 = .ok (.iaload, 1) := by decide +kernel
theorem dX5_again_18 : decode cX5_again 18 = .ok (.iastore, 1) := by decide +kernel
theorem dX5_again_19 : decode cX5_again 19 = .ok (.iinc 1 1, 3) := by decide +kernel
theorem dX5_again_22 : decode cX5_again 22 = .ok (.goto (-20), 3) := by decide +kernel
theorem dX5_again_25 : decode cX5_again 25 = .ok (.iconst 0, 1) := by decide +kernel
theorem dX5_again_26 : decode cX5_again 26 = .ok (.istore_n 1, 1) := by decide +kernel
theorem dX5_again_27 : decode cX5_again 27 = .ok (.iload_n 1, 1) := by decide +kernel
theorem dX5_again_28 : decode cX5_again 28 = .ok (.bipush 80, 2) := by decide +kernel
theorem dX5_again_30 : decode cX5_again 30 = .ok (.if_icmp .ge 21, 3) := by decide +kernel
theorem dX5_again_33 : decode cX5_again 33 = .ok (.aload_n 0, 1) := by decide +kernel
theorem dX5_again_34 : decode cX5_again 34 = .ok (.getfield 34, 3) := by decide +kernel
theorem dX5_again_37 : decode cX5_again 37 = .ok (.iload_n 1, 1) := by decide +kernel
theorem dX5_again_38 : decode cX5_again 38 = .ok (.aload_n 0, 1) := by decide +kernel
theorem dX5_again_39 : decode cX5_again 39 = .ok (.getfield 53, 3) := by decide +kernel
theorem dX5_again_42 : decode cX5_again 42 = .ok (.iload_n 1, 1) := by decide +kernel
theorem dX5_again_43 : decode cX5_again 43 = .ok (.baload, 1) := by decide +kernel
theorem dX5_again_44 : decode cX5_again 44 = .ok (.bastore, 1) := by decide +kernel
theorem dX5_again_45 : decode cX5_again 45 = .ok (.iinc 1 1, 3) := by decide +kernel
theorem dX5_again_48 : decode cX5_again 48 = .ok (.goto (-21), 3) := by decide +kernel
theorem dX5_again_51 : decode cX5_again 51 = .ok (.return_, 1) := by decide +kernel
set_option maxRecDepth 20000 in
theorem ggX5_mayBe_X5_in : GoodIn wsX5_mayBe wsX5_in := goodIn_r _ [6] (by decide +kernel) (by decide +kernel)
set_option maxRecDepth 20000 in
theorem gX5_mayBe_X5_in : GoodIn wsX5_mayBe (va_wsS RX5 66 yX5_in wsX5_in) := goodIn_app (goodIn_of _ (by decide +kernel)) ggX5_mayBe_X5_in
theorem dX5_mayBe_0 : decode cX5_mayBe 0 = .ok (.iload_n 2, 1) := by decide +kernel
theorem dX5_mayBe_1 : decode cX5_mayBe 1 = .ok (.iconst 0, 1) := by decide +kernel
theorem dX5_mayBe_2 : decode cX5_mayBe 2 = .ok (.iload_n 1, 1) := by decide +kernel
theorem dX5_mayBe_3 : decode cX5_mayBe 3 = .ok (.aload_n 0, 1) := by decide +kernel
theorem dX5_mayBe_4 : decode cX5_mayBe 4 = .ok (.getfield 70, 3) := by decide +kernel
theorem dX5_mayBe_7 : decode cX5_mayBe 7 = .ok (.if_icmp .ge 12, 3) := by decide +kernel
theorem dX5_mayBe_10 : decode cX5_mayBe 10 = .ok (.aload_n 0, 1) := by decide +kernel
theorem dX5_mayBe_11 : decode cX5_mayBe 11 = .ok (.getfield 25, 3) := by decide +kernel
theorem dX5_mayBe_14 : decode cX5_mayBe 14 = .ok (.iload_n 1, 1) := by decide +kernel
theorem dX5_mayBe_15 : decode cX5_mayBe 15 = .ok (.iaload, 1) := by decide +kernel
theorem dX5_mayBe_16 : decode cX5_mayBe 16 = .ok (.goto 4, 3) := by decide +kernel
theorem dX5_mayBe_19 : decode cX5_mayBe 19 = .ok (.iconst 0, 1) := by decide +kernel
theorem dX5_mayBe_20 : decode cX5_mayBe 20 = .ok (.invokestatic 66, 3) := by decide +kernel
theorem dX5_mayBe_23 : decode cX5_mayBe 23 = .ok (.ireturn, 1) := by decide +kernel
set_option maxRecDepth 20000 in
theorem ggX5_enough_X5_in : GoodIn wsX5_enough wsX5_in := goodIn_r _ [6] (by decide +kernel) (by decide +kernel)
set_option maxRecDepth 20000 in
theorem gX5_enough_X5_in : GoodIn wsX5_enough (va_wsS RX5 66 yX5_in wsX5_in) := goodIn_app (goodIn_of _ (by decide +kernel)) ggX5_enough_X5_in
set_option maxRecDepth 20000 in
theorem ggX5_enough_X5_mayBe : GoodIn wsX5_enough wsX5_mayBe := goodIn_r _ [10, 11, 12, 3, 4, 5, 6, 60, 61, 62, 63, 64, 65, 66, 67, 68, 69, 70, 71, 72, 73, 74, 75, 76, 77, 78, 79, 80, 81, 82, 83, 84, 85, 86, 87, 88] (by decide +kernel) (by decide +kernel)
set_option maxRecDepth 20000 in
theorem gX5_enough_X5_mayBe : GoodIn wsX5_enough (wsV RX5 163 RX5 yX5_mayBe wsX5_mayBe) := goodIn_app (goodIn_of _ (by decide +kernel)) ggX5_enough_X5_mayBe
set_option maxRecDepth 20000 in
theorem ggX5_enough_X5_aside : GoodIn wsX5_enough wsX5_aside := goodIn_r _ [16, 17, 2, 18, 19, 20, 21, 22, 5, 23, 60, 61, 62, 63, 64, 65, 66, 67, 68, 69, 70, 71, 72, 73, 74, 75, 76, 77, 78, 79, 80, 81, 82, 83, 84, 85, 86, 87, 88] (by decide +kernel) (by decide +kernel)
set_option maxRecDepth 20000 in
theorem gX5_enough_X5_aside : GoodIn wsX5_enough (wsV RX5 166 RX5 yX5_aside wsX5_aside) := goodIn_app (goodIn_of _ (by decide +kernel)) ggX5_enough_X5_aside
set_option maxRecDepth 20000 in
theorem ggX5_enough_X5_isSure : GoodIn wsX5_enough wsX5_isSure := goodIn_r _ [27, 1, 28, 29, 30, 31, 32, 33, 5, 34, 11, 35, 36, 37, 38, 39, 40, 19, 2, 12, 41, 42, 43, 44, 45, 46, 47, 48, 49, 50, 51, 52, 53, 54, 55, 60, 61, 62, 63, 64, 65, 66, 67, 68, 69, 70, 71, 72, 73, 74, 75, 76, 77, 78, 79, 80, 81, 82, 83, 84, 85, 86, 87, 88] (by decide +kernel) (by decide +kernel)
set_option maxRecDepth 20000 in
theorem gX5_enough_X5_isSure : GoodIn wsX5_enough (wsV RX5 117 RX5 yX5_isSure wsX5_isSure) := goodIn_app (goodIn_of _ (by decide +kernel)) ggX5_enough_X5_isSure
set_option maxRecDepth 20000 in
theorem ggX5_enough_X5_again : GoodIn wsX5_enough wsX5_again := goodIn_r _ [59, 2, 17, 19, 18, 60, 61, 62, 63, 64, 65, 66, 67, 68, 69, 70, 71, 72, 73, 74, 75, 76, 77, 78, 79, 80, 81, 82, 83, 84, 85, 86, 87, 88] (by decide +kernel) (by decide +kernel)
set_option maxRecDepth 20000 in
theorem gX5_enough_X5_again : GoodIn wsX5_enough (wsV RX5 169 RX5 yX5_again wsX5_again) := goodIn_app (goodIn_of _ (by decide +kernel)) ggX5_enough_X5_again
theorem dX5_enough_0 : decode cX5_enough 0 = .ok (.iload_n 1, 1) := by decide +kernel
theorem dX5_enough_1 : decode cX5_enough 1 = .ok (.iconst 1, 1) := by decide +kernel
theorem dX5_enough_2 : decode cX5_enough 2 = .ok (.aload_n 0, 1) := by decide +kernel
theorem dX5_enough_3 : decode cX5_enough 3 = .ok (.getfield 63, 3) := by decide +kernel
theorem dX5_enough_6 : decode cX5_enough 6 = .ok (.invokestatic 66, 3) := by decide +kernel
theorem dX5_enough_9 : decode cX5_enough 9 = .ok (.ifCond .eq 41, 3) := by decide +kernel
theorem dX5_enough_12 : decode cX5_enough 12 = .ok (.aload_n 0, 1) := by decide +kernel
theorem dX5_enough_13 : decode cX5_enough 13 = .ok (.iconst 0, 1) := by decide +kernel
theorem dX5_enough_14 : decode cX5_enough 14 = .ok (.iload_n 2, 1) := by decide +kernel
theorem dX5_enough_15 : decode cX5_enough 15 = .ok (.invokevirtual 163, 3) := by decide +kernel
theorem dX5_enough_18 : decode cX5_enough 18 = .ok (.ifCond .eq 32, 3) := by decide +kernel
theorem dX5_enough_21 : decode cX5_enough 21 = .ok (.aload_n 0, 1) := by decide +kernel
theorem dX5_enough_22 : decode cX5_enough 22 = .ok (.iconst 1, 1) := by decide +kernel
theorem dX5_enough_23 : decode cX5_enough 23 = .ok (.iload_n 3, 1) := by decide +kernel
theorem dX5_enough_24 : decode cX5_enough 24 = .ok (.invokevirtual 163, 3) := by decide +kernel
theorem dX5_enough_27 : decode cX5_enough 27 = .ok (.ifCond .eq 23, 3) := by decide +kernel
theorem dX5_enough_30 : decode cX5_enough 30 = .ok (.aload_n 0, 1) := by decide +kernel
theorem dX5_enough_31 : decode cX5_enough 31 = .ok (.iconst 2, 1) := by decide +kernel
theorem dX5_enough_32 : decode cX5_enough 32 = .ok (.iload 4, 2) := by decide +kernel
theorem dX5_enough_34 : decode cX5_enough 34 = .ok (.invokevirtual 163, 3) := by decide +kernel
theorem dX5_enough_37 : decode cX5_enough 37 = .ok (.ifCond .eq 13, 3) := by decide +kernel
theorem dX5_enough_40 : decode cX5_enough 40 = .ok (.aload_n 0, 1) := by decide +kernel
theorem dX5_enough_41 : decode cX5_enough 41 = .ok (.iconst 3, 1) := by decide +kernel
theorem dX5_enough_42 : decode cX5_enough 42 = .ok (.iload 5, 2) := by decide +kernel
theorem dX5_enough_44 : decode cX5_enough 44 = .ok (.invokevirtual 163, 3) := by decide +kernel
theorem dX5_enough_47 : decode cX5_enough 47 = .ok (.ifCond .ne 6, 3) := by decide +kernel
theorem dX5_enough_50 : decode cX5_enough 50 = .ok (.bipush (-2), 2) := by decide +kernel
theorem dX5_enough_52 : decode cX5_enough 52 = .ok (.ireturn, 1) := by decide +kernel
theorem dX5_enough_53 : decode cX5_enough 53 = .ok (.aload_n 0, 1) := by decide +kernel
theorem dX5_enough_54 : decode cX5_enough 54 = .ok (.invokevirtual 166, 3) := by decide +kernel
theorem dX5_enough_57 : decode cX5_enough 57 = .ok (.aload_n 0, 1) := by decide +kernel
theorem dX5_enough_58 : decode cX5_enough 58 = .ok (.getfield 31, 3) := by decide +kernel
theorem dX5_enough_61 : decode cX5_enough 61 = .ok (.iconst 0, 1) := by decide +kernel
theorem dX5_enough_62 : decode cX5_enough 62 = .ok (.iload_n 2, 1) := by decide +kernel
theorem dX5_enough_63 : decode cX5_enough 63 = .ok (.iastore, 1) := by decide +kernel
theorem dX5_enough_64 : decode cX5_enough 64 = .ok (.aload_n 0, 1) := by decide +kernel
theorem dX5_enough_65 : decode cX5_enough 65 = .ok (.getfield 31, 3) := by decide +kernel
theorem dX5_enough_68 : decode cX5_enough 68 = .ok (.iconst 1, 1) := by decide +kernel
theorem dX5_enough_69 : decode cX5_enough 69 = .ok (.iload_n 3, 1) := by decide +kernel
theorem dX5_enough_70 : decode cX5_enough 70 = .ok (.iastore, 1) := by decide +kernel
theorem dX5_enough_71 : decode cX5_enough 71 = .ok (.aload_n 0, 1) := by decide +kernel
theorem dX5_enough_72 : decode cX5_enough 72 = .ok (.getfield 31, 3) := by decide +kernel
theorem dX5_enough_75 : decode cX5_enough 75 = .ok (.iconst 2, 1) := by decide +kernel
theorem dX5_enough_76 : decode cX5_enough 76 = .ok (.iload 4, 2) := by decide +kernel
theorem dX5_enough_78 : decode cX5_enough 78 = .ok (.iastore, 1) := by decide +kernel
theorem dX5_enough_79 : decode cX5_enough 79 = .ok (.aload_n 0, 1) := by decide +kernel
theorem dX5_enough_80 : decode cX5_enough 80 = .ok (.getfield 31, 3) := by decide +kernel
theorem dX5_enough_83 : decode cX5_enough 83 = .ok (.iconst 3, 1) := by decide +kernel
theorem dX5_enough_84 : decode cX5_enough 84 = .ok (.iload 5, 2) := by decide +kernel
theorem dX5_enough_86 : decode cX5_enough 86 = .ok (.iastore, 1) := by decide +kernel
theorem dX5_enough_87 : decode cX5_enough 87 = .ok (.aload_n 0, 1) := by decide +kernel
theorem dX5_enough_88 : decode cX5_enough 88 = .ok (.iload_n 1, 1) := by decide +kernel
theorem dX5_enough_89 : decode cX5_enough 89 = .ok (.invokevirtual 117, 3) := by decide +kernel
theorem dX5_enough_92 : decode cX5_enough 92 = .ok (.istore 6, 2) := by decide +kernel
theorem dX5_enough_94 : decode cX5_enough 94 = .ok (.aload_n 0, 1) := by decide +kernel
theorem dX5_enough_95 : decode cX5_enough 95 = .ok (.invokevirtual 169, 3) := by decide +kernel
theorem dX5_enough_98 : decode cX5_enough 98 = .ok (.iload 6, 2) := by decide +kernel
theorem dX5_enough_100 : decode cX5_enough 100 = .ok (.ifCond .eq 7, 3) := by decide +kernel
theorem dX5_enough_103 : decode cX5_enough 103 = .ok (.iconst 1, 1) := by decide +kernel
theorem dX5_enough_104 : decode cX5_enough 104 = .ok (.goto 4, 3) := by decide +kernel
theorem dX5_enough_107 : decode cX5_enough 107 = .ok (.iconst 0, 1) := by decide +kernel
theorem dX5_enough_108 : decode cX5_enough 108 = .ok (.ireturn, 1) := by decide +kernel
theorem dX5_next_0 : decode cX5_next 0 = .ok (.aload_n 0, 1) := by decide +kernel
theorem dX5_next_1 : decode cX5_next 1 = .ok (.getfield 70, 3) := by decide +kernel
theorem dX5_next_4 : decode cX5_next 4 = .ok (.iconst 1, 1) := by decide +kernel
theorem dX5_next_5 : decode cX5_next 5 = .ok (.isub, 1) := by decide +kernel
theorem dX5_next_6 : decode cX5_next 6 = .ok (.istore_n 1, 1) := by decide +kernel
theorem dX5_next_7 : decode cX5_next 7 = .ok (.iload_n 1, 1) := by decide +kernel
theorem dX5_next_8 : decode cX5_next 8 = .ok (.ifCond .lt 43, 3) := by decide +kernel
theorem dX5_next_11 : decode cX5_next 11 = .ok (.aload_n 0, 1) := by decide +kernel
theorem dX5_next_12 : decode cX5_next 12 = .ok (.getfield 31, 3) := by decide +kernel
theorem dX5_next_15 : decode cX5_next 15 = .ok (.iload_n 1, 1) := by decide +kernel
theorem dX5_next_16 : decode cX5_next 16 = .ok (.iaload, 1) := by decide +kernel
theorem dX5_next_17 : decode cX5_next 17 = .ok (.aload_n 0, 1) := by decide +kernel
theorem dX5_next_18 : decode cX5_next 18 = .ok (.getfield 25, 3) := by decide +kernel
theorem dX5_next_21 : decode cX5_next 21 = .ok (.iload_n 1, 1) := by decide +kernel
theorem dX5_next_22 : decode cX5_next 22 = .ok (.iaload, 1) := by decide +kernel
theorem dX5_next_23 : decode cX5_next 23 = .ok (.if_icmp .ge 15, 3) := by decide +kernel
theorem dX5_next_26 : decode cX5_next 26 = .ok (.aload_n 0, 1) := by decide +kernel
theorem dX5_next_27 : decode cX5_next 27 = .ok (.getfield 31, 3) := by decide +kernel
theorem dX5_next_30 : decode cX5_next 30 = .ok (.iload_n 1, 1) := by decide +kernel
theorem dX5_next_31 : decode cX5_next 31 = .ok (.dup2, 1) := by decide +kernel
theorem dX5_next_32 : decode cX5_next 32 = .ok (.iaload, 1) := by decide +kernel
theorem dX5_next_33 : decode cX5_next 33 = .ok (.iconst 1, 1) := by decide +kernel
theorem dX5_next_34 : decode cX5_next 34 = .ok (.iadd, 1) := by decide +kernel
theorem dX5_next_35 : decode cX5_next 35 = .ok (.iastore, 1) := by decide +kernel
theorem dX5_next_36 : decode cX5_next 36 = .ok (.iconst 1, 1) := by decide +kernel
theorem dX5_next_37 : decode cX5_next 37 = .ok (.ireturn, 1) := by decide +kernel
theorem dX5_next_38 : decode cX5_next 38 = .ok (.aload_n 0, 1) := by decide +kernel
theorem dX5_next_39 : decode cX5_next 39 = .ok (.getfield 31, 3) := by decide +kernel
theorem dX5_next_42 : decode cX5_next 42 = .ok (.iload_n 1, 1) := by decide +kernel
theorem dX5_next_43 : decode cX5_next 43 = .ok (.iconst 0, 1) := by decide +kernel
theorem dX5_next_44 : decode cX5_next 44 = .ok (.iastore, 1) := by decide +kernel
theorem dX5_next_45 : decode cX5_next 45 = .ok (.iinc 1 (-1), 3) := by decide +kernel
theorem dX5_next_48 : decode cX5_next 48 = .ok (.goto (-41), 3) := by decide +kernel
theorem dX5_next_51 : decode cX5_next 51 = .ok (.iconst 0, 1) := by decide +kernel
theorem dX5_next_52 : decode cX5_next 52 = .ok (.ireturn, 1) := by decide +kernel
set_option maxRecDepth 20000 in
theorem ggX5_least_X5_in : GoodIn wsX5_least wsX5_in := goodIn_r _ [10] (by decide +kernel) (by decide +kernel)
set_option maxRecDepth 20000 in
theorem gX5_least_X5_in : GoodIn wsX5_least (va_wsS RX5 66 yX5_in wsX5_in) := goodIn_app (goodIn_of _ (by decide +kernel)) ggX5_least_X5_in
set_option maxRecDepth 20000 in
theorem ggX5_least_X5_aside : GoodIn wsX5_least wsX5_aside := goodIn_r _ [14, 15, 5, 16, 17, 18, 19, 20, 9, 21, 62, 63, 64, 65, 66, 67, 68, 69, 70, 71, 72, 73, 74, 75, 76, 77, 78, 79, 80, 81, 82, 83, 84, 85, 86, 87, 88, 89, 90] (by decide +kernel) (by decide +kernel)
set_option maxRecDepth 20000 in
theorem gX5_least_X5_aside : GoodIn wsX5_least (wsV RX5 166 RX5 yX5_aside wsX5_aside) := goodIn_app (goodIn_of _ (by decide +kernel)) ggX5_least_X5_aside
set_option maxRecDepth 20000 in
theorem ggX5_least_X5_isSure : GoodIn wsX5_least wsX5_isSure := goodIn_r _ [25, 1, 26, 27, 28, 29, 30, 31, 9, 32, 2, 33, 34, 35, 36, 37, 38, 17, 5, 3, 39, 40, 41, 42, 43, 44, 45, 46, 47, 48, 49, 50, 51, 52, 53, 62, 63, 64, 65, 66, 67, 68, 69, 70, 71, 72, 73, 74, 75, 76, 77, 78, 79, 80, 81, 82, 83, 84, 85, 86, 87, 88, 89, 90] (by decide +kernel) (by decide +kernel)
set_option maxRecDepth 20000 in
theorem gX5_least_X5_isSure : GoodIn wsX5_least (wsV RX5 117 RX5 yX5_isSure wsX5_isSure) := goodIn_app (goodIn_of _ (by decide +kernel)) ggX5_least_X5_isSure
set_option maxRecDepth 20000 in
theorem ggX5_least_X5_next : GoodIn wsX5_least wsX5_next := goodIn_r _ [57, 2, 5, 3, 62, 63, 64, 65, 66, 67, 68, 69, 70, 71, 72, 73, 74, 75, 76, 77, 78, 79, 80, 81, 82, 83, 84, 85, 86, 87, 88, 89, 90] (by decide +kernel) (by decide +kernel)
set_option maxRecDepth 20000 in
theorem gX5_least_X5_next : GoodIn wsX5_least (wsV RX5 172 RX5 yX5_next wsX5_next) := goodIn_app (goodIn_of _ (by decide +kernel)) ggX5_least_X5_next
set_option maxRecDepth 20000 in
theorem ggX5_least_X5_again : GoodIn wsX5_least wsX5_again := goodIn_r _ [61, 5, 15, 17, 16, 62, 63, 64, 65, 66, 67, 68, 69, 70, 71, 72, 73, 74, 75, 76, 77, 78, 79, 80, 81, 82, 83, 84, 85, 86, 87, 88, 89, 90] (by decide +kernel) (by decide +kernel)
set_option maxRecDepth 20000 in
theorem gX5_least_X5_again : GoodIn wsX5_least (wsV RX5 169 RX5 yX5_again wsX5_again) := goodIn_app (goodIn_of _ (by decide +kernel)) ggX5_least_X5_again
theorem dX5_least_0 : decode cX5_least 0 = .ok (.iload_n 1, 1) := by decide +kernel
theorem dX5_least_1 : decode cX5_least 1 = .ok (.iconst 1, 1) := by decide +kernel
theorem dX5_least_2 : decode cX5_least 2 = .ok (.aload_n 0, 1) := by decide +kernel
theorem dX5_least_3 : decode cX5_least 3 = .ok (.getfield 63, 3) := by decide +kernel
theorem dX5_least_6 : decode cX5_least 6 = .ok (.invokestatic 66, 3) := by decide +kernel
theorem dX5_least_9 : decode cX5_least 9 = .ok (.ifCond .ne 6, 3) := by decide +kernel
theorem dX5_least_12 : decode cX5_least 12 = .ok (.bipush (-2), 2) := by decide +kernel
theorem dX5_least_14 : decode cX5_least 14 = .ok (.ireturn, 1) := by decide +kernel
theorem dX5_least_15 : decode cX5_least 15 = .ok (.iconst 1, 1) := by decide +kernel
theorem dX5_least_16 : decode cX5_least 16 = .ok (.istore_n 2, 1) := by decide +kernel
theorem dX5_least_17 : decode cX5_least 17 = .ok (.iconst 0, 1) := by decide +kernel
theorem dX5_least_18 : decode cX5_least 18 = .ok (.istore_n 3, 1) := by decide +kernel
theorem dX5_least_19 : decode cX5_least 19 = .ok (.iload_n 3, 1) := by decide +kernel
theorem dX5_least_20 : decode cX5_least 20 = .ok (.aload_n 0, 1) := by decide +kernel
theorem dX5_least_21 : decode cX5_least 21 = .ok (.getfield 70, 3) := by decide +kernel
theorem dX5_least_24 : decode cX5_least 24 = .ok (.if_icmp .ge 20, 3) := by decide +kernel
theorem dX5_least_27 : decode cX5_least 27 = .ok (.iload_n 2, 1) := by decide +kernel
theorem dX5_least_28 : decode cX5_least 28 = .ok (.aload_n 0, 1) := by decide +kernel
theorem dX5_least_29 : decode cX5_least 29 = .ok (.getfield 25, 3) := by decide +kernel
theorem dX5_least_32 : decode cX5_least 32 = .ok (.iload_n 3, 1) := by decide +kernel
theorem dX5_least_33 : decode cX5_least 33 = .ok (.iaload, 1) := by decide +kernel
theorem dX5_least_34 : decode cX5_least 34 = .ok (.iconst 1, 1) := by decide +kernel
theorem dX5_least_35 : decode cX5_least 35 = .ok (.iadd, 1) := by decide +kernel
theorem dX5_least_36 : decode cX5_least 36 = .ok (.imul, 1) := by decide +kernel
theorem dX5_least_37 : decode cX5_least 37 = .ok (.istore_n 2, 1) := by decide +kernel
theorem dX5_least_38 : decode cX5_least 38 = .ok (.iinc 3 1, 3) := by decide +kernel
theorem dX5_least_41 : decode cX5_least 41 = .ok (.goto (-22), 3) := by decide +kernel
theorem dX5_least_44 : decode cX5_least 44 = .ok (.iload_n 2, 1) := by decide +kernel
theorem dX5_least_45 : decode cX5_least 45 = .ok (.sipush 500, 3) := by decide +kernel
theorem dX5_least_48 : decode cX5_least 48 = .ok (.if_icmp .le 6, 3) := by decide +kernel
theorem dX5_least_51 : decode cX5_least 51 = .ok (.bipush (-3), 2) := by decide +kernel
theorem dX5_least_53 : decode cX5_least 53 = .ok (.ireturn, 1) := by decide +kernel
theorem dX5_least_54 : decode cX5_least 54 = .ok (.aload_n 0, 1) := by decide +kernel
theorem dX5_least_55 : decode cX5_least 55 = .ok (.invokevirtual 166, 3) := by decide +kernel
theorem dX5_least_58 : decode cX5_least 58 = .ok (.iconst (-1), 1) := by decide +kernel
theorem dX5_least_59 : decode cX5_least 59 = .ok (.istore_n 3, 1) := by decide +kernel
theorem dX5_least_60 : decode cX5_least 60 = .ok (.iconst 1, 1) := by decide +kernel
theorem dX5_least_61 : decode cX5_least 61 = .ok (.istore 4, 2) := by decide +kernel
theorem dX5_least_63 : decode cX5_least 63 = .ok (.iload 4, 2) := by decide +kernel
theorem dX5_least_65 : decode cX5_least 65 = .ok (.ifCond .eq 104, 3) := by decide +kernel
theorem dX5_least_68 : decode cX5_least 68 = .ok (.iconst 0, 1) := by decide +kernel
theorem dX5_least_69 : decode cX5_least 69 = .ok (.istore 5, 2) := by decide +kernel
theorem dX5_least_71 : decode cX5_least 71 = .ok (.iconst 0, 1) := by decide +kernel
theorem dX5_least_72 : decode cX5_least 72 = .ok (.istore 6, 2) := by decide +kernel
theorem dX5_least_74 : decode cX5_least 74 = .ok (.iload 6, 2) := by decide +kernel
theorem dX5_least_76 : decode cX5_least 76 = .ok (.aload_n 0, 1) := by decide +kernel
theorem dX5_least_77 : decode cX5_least 77 = .ok (.getfield 70, 3) := by decide +kernel
theorem dX5_least_80 : decode cX5_least 80 = .ok (.if_icmp .ge 29, 3) := by decide +kernel
theorem dX5_least_83 : decode cX5_least 83 = .ok (.iload 5, 2) := by decide +kernel
theorem dX5_least_85 : decode cX5_least 85 = .ok (.aload_n 0, 1) := by decide +kernel
theorem dX5_least_86 : decode cX5_least 86 = .ok (.getfield 13, 3) := by decide +kernel
theorem dX5_least_89 : decode cX5_least 89 = .ok (.iload 6, 2) := by decide +kernel
theorem dX5_least_91 : decode cX5_least 91 = .ok (.iaload, 1) := by decide +kernel
theorem dX5_least_92 : decode cX5_least 92 = .ok (.aload_n 0, 1) := by decide +kernel
theorem dX5_least_93 : decode cX5_least 93 = .ok (.getfield 31, 3) := by decide +kernel
theorem dX5_least_96 : decode cX5_least 96 = .ok (.iload 6, 2) := by decide +kernel
theorem dX5_least_98 : decode cX5_least 98 = .ok (.iaload, 1) := by decide +kernel
theorem dX5_least_99 : decode cX5_least 99 = .ok (.imul, 1) := by decide +kernel
theorem dX5_least_100 : decode cX5_least 100 = .ok (.iadd, 1) := by decide +kernel
theorem dX5_least_101 : decode cX5_least 101 = .ok (.istore 5, 2) := by decide +kernel
theorem dX5_least_103 : decode cX5_least 103 = .ok (.iinc 6 1, 3) := by decide +kernel
theorem dX5_least_106 : decode cX5_least 106 = .ok (.goto (-32), 3) := by decide +kernel
theorem dX5_least_109 : decode cX5_least 109 = .ok (.iload_n 3, 1) := by decide +kernel
theorem dX5_least_110 : decode cX5_least 110 = .ok (.iconst (-1), 1) := by decide +kernel
theorem dX5_least_111 : decode cX5_least 111 = .ok (.if_icmp .eq 9, 3) := by decide +kernel
theorem dX5_least_114 : decode cX5_least 114 = .ok (.iload 5, 2) := by decide +kernel
theorem dX5_least_116 : decode cX5_least 116 = .ok (.iload_n 3, 1) := by decide +kernel
theorem dX5_least_117 : decode cX5_least 117 = .ok (.if_icmp .ge 43, 3) := by decide +kernel
theorem dX5_least_120 : decode cX5_least 120 = .ok (.aload_n 0, 1) := by decide +kernel
theorem dX5_least_121 : decode cX5_least 121 = .ok (.iload_n 1, 1) := by decide +kernel
theorem dX5_least_122 : decode cX5_least 122 = .ok (.invokevirtual 117, 3) := by decide +kernel
theorem dX5_least_125 : decode cX5_least 125 = .ok (.ifCond .eq 35, 3) := by decide +kernel
theorem dX5_least_128 : decode cX5_least 128 = .ok (.iload 5, 2) := by decide +kernel
theorem dX5_least_130 : decode cX5_least 130 = .ok (.istore_n 3, 1) := by decide +kernel
theorem dX5_least_131 : decode cX5_least 131 = .ok (.iconst 0, 1) := by decide +kernel
theorem dX5_least_132 : decode cX5_least 132 = .ok (.istore 6, 2) := by decide +kernel
theorem dX5_least_134 : decode cX5_least 134 = .ok (.iload 6, 2) := by decide +kernel
theorem dX5_least_136 : decode cX5_least 136 = .ok (.iconst 4, 1) := by decide +kernel
theorem dX5_least_137 : decode cX5_least 137 = .ok (.if_icmp .ge 23, 3) := by decide +kernel
theorem dX5_least_140 : decode cX5_least 140 = .ok (.aload_n 0, 1) := by decide +kernel
theorem dX5_least_141 : decode cX5_least 141 = .ok (.getfield 56, 3) := by decide +kernel
theorem dX5_least_144 : decode cX5_least 144 = .ok (.iload 6, 2) := by decide +kernel
theorem dX5_least_146 : decode cX5_least 146 = .ok (.aload_n 0, 1) := by decide +kernel
theorem dX5_least_147 : decode cX5_least 147 = .ok (.getfield 31, 3) := by decide +kernel
theorem dX5_least_150 : decode cX5_least 150 = .ok (.iload 6, 2) := by decide +kernel
theorem dX5_least_152 : decode cX5_least 152 = .ok (.iaload, 1) := by decide +kernel
theorem dX5_least_153 : decode cX5_least 153 = .ok (.iastore, 1) := by decide +kernel
theorem dX5_least_154 : decode cX5_least 154 = .ok (.iinc 6 1, 3) := by decide +kernel
theorem dX5_least_157 : decode cX5_least 157 = .ok (.goto (-23), 3) := by decide +kernel
theorem dX5_least_160 : decode cX5_least 160 = .ok (.aload_n 0, 1) := by decide +kernel
theorem dX5_least_161 : decode cX5_least 161 = .ok (.invokevirtual 172, 3) := by decide +kernel
theorem dX5_least_164 : decode cX5_least 164 = .ok (.istore 4, 2) := by decide +kernel
theorem dX5_least_166 : decode cX5_least 166 = .ok (.goto (-103), 3) := by decide +kernel
theorem dX5_least_169 : decode cX5_least 169 = .ok (.aload_n 0, 1) := by decide +kernel
theorem dX5_least_170 : decode cX5_least 170 = .ok (.invokevirtual 169, 3) := by decide +kernel
theorem dX5_least_173 : decode cX5_least 173 = .ok (.iload_n 3, 1) := by decide +kernel
theorem dX5_least_174 : decode cX5_least 174 = .ok (.ireturn, 1) := by decide +kernel
set_option maxRecDepth 20000 in
theorem ggX5_leastDepth_X5_in : GoodIn wsX5_leastDepth wsX5_in := goodIn_r _ [5] (by decide +kernel) (by decide +kernel)
set_option maxRecDepth 20000 in
theorem gX5_leastDepth_X5_in : GoodIn wsX5_leastDepth (va_wsS RX5 66 yX5_in wsX5_in) := goodIn_app (goodIn_of _ (by decide +kernel)) ggX5_leastDepth_X5_in
theorem dX5_leastDepth_0 : decode cX5_leastDepth 0 = .ok (.iload_n 1, 1) := by decide +kernel
theorem dX5_leastDepth_1 : decode cX5_leastDepth 1 = .ok (.iconst 0, 1) := by decide +kernel
theorem dX5_leastDepth_2 : decode cX5_leastDepth 2 = .ok (.iconst 3, 1) := by decide +kernel
theorem dX5_leastDepth_3 : decode cX5_leastDepth 3 = .ok (.invokestatic 66, 3) := by decide +kernel
theorem dX5_leastDepth_6 : decode cX5_leastDepth 6 = .ok (.ifCond .eq 12, 3) := by decide +kernel
theorem dX5_leastDepth_9 : decode cX5_leastDepth 9 = .ok (.aload_n 0, 1) := by decide +kernel
theorem dX5_leastDepth_10 : decode cX5_leastDepth 10 = .ok (.getfield 56, 3) := by decide +kernel
theorem dX5_leastDepth_13 : decode cX5_leastDepth 13 = .ok (.iload_n 1, 1) := by decide +kernel
theorem dX5_leastDepth_14 : decode cX5_leastDepth 14 = .ok (.iaload, 1) := by decide +kernel
theorem dX5_leastDepth_15 : decode cX5_leastDepth 15 = .ok (.goto 4, 3) := by decide +kernel
theorem dX5_leastDepth_18 : decode cX5_leastDepth 18 = .ok (.iconst (-1), 1) := by decide +kernel
theorem dX5_leastDepth_19 : decode cX5_leastDepth 19 = .ok (.ireturn, 1) := by decide +kernel
theorem dX5_count_0 : decode cX5_count 0 = .ok (.iconst 0, 1) := by decide +kernel
theorem dX5_count_1 : decode cX5_count 1 = .ok (.istore_n 2, 1) := by decide +kernel
theorem dX5_count_2 : decode cX5_count 2 = .ok (.iload_n 1, 1) := by decide +kernel
theorem dX5_count_3 : decode cX5_count 3 = .ok (.tableswitch 88 0 4 #[33, 38, 43, 70, 75], 33) := by decide +kernel
theorem dX5_count_36 : decode cX5_count 36 = .ok (.aload_n 0, 1) := by decide +kernel
theorem dX5_count_37 : decode cX5_count 37 = .ok (.getfield 63, 3) := by decide +kernel
theorem dX5_count_40 : decode cX5_count 40 = .ok (.ireturn, 1) := by decide +kernel
theorem dX5_count_41 : decode cX5_count 41 = .ok (.aload_n 0, 1) := by decide +kernel
theorem dX5_count_42 : decode cX5_count 42 = .ok (.getfield 70, 3) := by decide +kernel
theorem dX5_count_45 : decode cX5_count 45 = .ok (.ireturn, 1) := by decide +kernel
theorem dX5_count_46 : decode cX5_count 46 = .ok (.iconst 0, 1) := by decide +kernel
theorem dX5_count_47 : decode cX5_count 47 = .ok (.istore_n 3, 1) := by decide +kernel
theorem dX5_count_48 : decode cX5_count 48 = .ok (.iload_n 3, 1) := by decide +kernel
theorem dX5_count_49 : decode cX5_count 49 = .ok (.aload_n 0, 1) := by decide +kernel
theorem dX5_count_50 : decode cX5_count 50 = .ok (.getfield 70, 3) := by decide +kernel
theorem dX5_count_53 : decode cX5_count 53 = .ok (.if_icmp .ge 18, 3) := by decide +kernel
theorem dX5_count_56 : decode cX5_count 56 = .ok (.iload_n 2, 1) := by decide +kernel
theorem dX5_count_57 : decode cX5_count 57 = .ok (.aload_n 0, 1) := by decide +kernel
theorem dX5_count_58 : decode cX5_count 58 = .ok (.getfield 25, 3) := by decide +kernel
theorem dX5_count_61 : decode cX5_count 61 = .ok (.iload_n 3, 1) := by decide +kernel
theorem dX5_count_62 : decode cX5_count 62 = .ok (.iaload, 1) := by decide +kernel
theorem dX5_count_63 : decode cX5_count 63 = .ok (.iadd, 1) := by decide +kernel
theorem dX5_count_64 : decode cX5_count 64 = .ok (.istore_n 2, 1) := by decide +kernel
theorem dX5_count_65 : decode cX5_count 65 = .ok (.iinc 3 1, 3) := by decide +kernel
theorem dX5_count_68 : decode cX5_count 68 = .ok (.goto (-20), 3) := by decide +kernel
theorem dX5_count_71 : decode cX5_count 71 = .ok (.iload_n 2, 1) := by decide +kernel
theorem dX5_count_72 : decode cX5_count 72 = .ok (.ireturn, 1) := by decide +kernel
theorem dX5_count_73 : decode cX5_count 73 = .ok (.aload_n 0, 1) := by decide +kernel
theorem dX5_count_74 : decode cX5_count 74 = .ok (.getfield 88, 3) := by decide +kernel
theorem dX5_count_77 : decode cX5_count 77 = .ok (.ireturn, 1) := by decide +kernel
theorem dX5_count_78 : decode cX5_count 78 = .ok (.aload_n 0, 1) := by decide +kernel
theorem dX5_count_79 : decode cX5_count 79 = .ok (.getfield 73, 3) := by decide +kernel
theorem dX5_count_82 : decode cX5_count 82 = .ok (.ifCond .eq 7, 3) := by decide +kernel
theorem dX5_count_85 : decode cX5_count 85 = .ok (.iconst 1, 1) := by decide +kernel
theorem dX5_count_86 : decode cX5_count 86 = .ok (.goto 4, 3) := by decide +kernel
theorem dX5_count_89 : decode cX5_count 89 = .ok (.iconst 0, 1) := by decide +kernel
theorem dX5_count_90 : decode cX5_count 90 = .ok (.ireturn, 1) := by decide +kernel
theorem dX5_count_91 : decode cX5_count 91 = .ok (.iconst (-1), 1) := by decide +kernel
theorem dX5_count_92 : decode cX5_count 92 = .ok (.ireturn, 1) := by decide +kernel
theorem dJ9_max_7cf53_0 : decode cJ9_max_7cf53 0 = .ok (.iload_n 0, 1) := by decide +kernel
theorem dJ9_max_7cf53_1 : decode cJ9_max_7cf53 1 = .ok (.iload_n 1, 1) := by decide +kernel
theorem dJ9_max_7cf53_2 : decode cJ9_max_7cf53 2 = .ok (.if_icmp .lt 7, 3) := by decide +kernel
theorem dJ9_max_7cf53_5 : decode cJ9_max_7cf53 5 = .ok (.iload_n 0, 1) := by decide +kernel
theorem dJ9_max_7cf53_6 : decode cJ9_max_7cf53 6 = .ok (.goto 4, 3) := by decide +kernel
theorem dJ9_max_7cf53_9 : decode cJ9_max_7cf53 9 = .ok (.iload_n 1, 1) := by decide +kernel
theorem dJ9_max_7cf53_10 : decode cJ9_max_7cf53 10 = .ok (.ireturn, 1) := by decide +kernel
theorem dJ9_min_7cf53_0 : decode cJ9_min_7cf53 0 = .ok (.iload_n 0, 1) := by decide +kernel
theorem dJ9_min_7cf53_1 : decode cJ9_min_7cf53 1 = .ok (.iload_n 1, 1) := by decide +kernel
theorem dJ9_min_7cf53_2 : decode cJ9_min_7cf53 2 = .ok (.if_icmp .gt 7, 3) := by decide +kernel
theorem dJ9_min_7cf53_5 : decode cJ9_min_7cf53 5 = .ok (.iload_n 0, 1) := by decide +kernel
theorem dJ9_min_7cf53_6 : decode cJ9_min_7cf53 6 = .ok (.goto 4, 3) := by decide +kernel
theorem dJ9_min_7cf53_9 : decode cJ9_min_7cf53 9 = .ok (.iload_n 1, 1) := by decide +kernel
theorem dJ9_min_7cf53_10 : decode cJ9_min_7cf53 10 = .ok (.ireturn, 1) := by decide +kernel
set_option maxRecDepth 20000 in
theorem ggL_law_X4_init : GoodIn wsL_law wsX4_init := goodIn_r _ [8, 9, 10, 11, 12, 13, 14, 15, 16, 17, 18, 19, 20, 21, 22, 23, 24, 25, 26, 27, 28, 29, 30, 31, 32, 33, 34, 35, 36, 37, 38, 39, 40, 41, 42, 43, 44, 45, 46, 47, 48, 49, 50, 51, 52, 53, 54, 55, 56, 57, 58, 59, 60, 61, 62, 63, 64, 65, 654, 655, 656, 657, 658, 659, 660, 661, 662, 663, 664, 665, 666, 622, 623, 624, 667, 668, 669, 670, 671, 672, 673, 674, 675, 676, 677, 678, 679, 680, 681, 682, 683, 684, 685] (by decide +kernel) (by decide +kernel)
set_option maxRecDepth 20000 in
theorem gL_law_X4_init : GoodIn wsL_law (wsX4_init) := ggL_law_X4_init
set_option maxRecDepth 20000 in
theorem ggL_law_X5_init : GoodIn wsL_law wsX5_init := goodIn_r _ [68, 69, 10, 11, 28, 70, 71, 72, 73, 74, 75, 76, 77, 78, 79, 80, 81, 82, 83, 84, 85, 86, 625, 626, 627, 628, 629, 630, 631, 632, 633, 634, 635, 636, 637, 638, 639, 640, 641, 642, 643, 644, 645, 646, 647, 648, 649, 650, 651, 652, 653] (by decide +kernel) (by decide +kernel)
set_option maxRecDepth 20000 in
theorem gL_law_X5_init : GoodIn wsL_law (wsX5_init) := ggL_law_X5_init
set_option maxRecDepth 20000 in
theorem ggL_law_X4_thing : GoodIn wsL_law wsX4_thing := goodIn_r _ [90, 15, 91, 19, 92, 622, 623, 624, 654, 655, 656, 657, 658, 659, 660, 661, 662, 663, 664, 665, 666, 667, 668, 669, 670, 671, 672, 673, 674, 675, 676] (by decide +kernel) (by decide +kernel)
set_option maxRecDepth 20000 in
theorem gL_law_X4_thing : GoodIn wsL_law (wsV RL 13 RX4 yX4_thing wsX4_thing) := goodIn_app (goodIn_of _ (by decide +kernel)) ggL_law_X4_thing
set_option maxRecDepth 20000 in
theorem ggL_law_X5_thing : GoodIn wsL_law wsX5_thing := goodIn_r _ [96, 97, 73, 98, 625, 626, 627, 628, 629, 630, 631, 632, 633, 634, 635, 636, 637, 638, 639, 640, 641, 642, 643, 644, 645, 646, 647, 648, 649, 650, 651, 652, 653] (by decide +kernel) (by decide +kernel)
set_option maxRecDepth 20000 in
theorem gL_law_X5_thing : GoodIn wsL_law (wsV RL 17 RX5 yX5_thing wsX5_thing) := goodIn_app (goodIn_of _ (by decide +kernel)) ggL_law_X5_thing
set_option maxRecDepth 20000 in
theorem ggL_law_X4_list : GoodIn wsL_law wsX4_list := goodIn_r _ [102, 15, 103, 19, 92, 104, 105, 2, 106, 107, 108, 109, 14, 110, 111, 29, 30, 31, 622, 623, 624, 654, 655, 656, 657, 658, 659, 660, 661, 662, 663, 664, 665, 666, 667, 668, 669, 670, 671, 672, 673, 674, 675, 676] (by decide +kernel) (by decide +kernel)
set_option maxRecDepth 20000 in
theorem gL_law_X4_list : GoodIn wsL_law (wsV RL 18 RX4 yX4_list wsX4_list) := goodIn_app (goodIn_of _ (by decide +kernel)) ggL_law_X4_list
set_option maxRecDepth 20000 in
theorem ggL_law_X5_list : GoodIn wsL_law wsX5_list := goodIn_r _ [115, 116, 70, 71, 72, 75, 98, 117, 118, 5, 119, 625, 626, 627, 628, 629, 630, 631, 632, 633, 634, 635, 636, 637, 638, 639, 640, 641, 642, 643, 644, 645, 646, 647, 648, 649, 650, 651, 652, 653] (by decide +kernel) (by decide +kernel)
set_option maxRecDepth 20000 in
theorem gL_law_X5_list : GoodIn wsL_law (wsV RL 22 RX5 yX5_list wsX5_list) := goodIn_app (goodIn_of _ (by decide +kernel)) ggL_law_X5_list
set_option maxRecDepth 20000 in
theorem ggL_law_X4_mark : GoodIn wsL_law wsX4_mark := goodIn_r _ [123, 15, 124, 125, 126, 14, 127, 111, 105, 2, 106, 128, 129, 130, 131, 132, 104, 133, 134, 135, 136, 137, 19, 92, 138, 139, 140, 141, 34, 32, 142, 143, 144, 145, 146, 147, 148, 36, 35, 149, 150, 151, 152, 153, 154, 622, 623, 624, 654, 655, 656, 657, 658, 659, 660, 661, 662, 663, 664, 665, 666, 667, 668, 669, 670, 671, 672, 673, 674, 675, 676] (by decide +kernel) (by decide +kernel)
set_option maxRecDepth 20000 in
theorem gL_law_X4_mark : GoodIn wsL_law (wsV RL 23 RX4 yX4_mark wsX4_mark) := goodIn_app (goodIn_of _ (by decide +kernel)) ggL_law_X4_mark
set_option maxRecDepth 20000 in
theorem ggL_law_X5_mark : GoodIn wsL_law wsX5_mark := goodIn_r _ [158, 73, 159, 160, 161, 5, 162, 116, 117, 118, 119, 163, 164, 165, 166, 97, 167, 168, 169, 170, 75, 74, 98, 625, 626, 627, 628, 629, 630, 631, 632, 633, 634, 635, 636, 637, 638, 639, 640, 641, 642, 643, 644, 645, 646, 647, 648, 649, 650, 651, 652, 653] (by decide +kernel) (by decide +kernel)
set_option maxRecDepth 20000 in
theorem gL_law_X5_mark : GoodIn wsL_law (wsV RL 26 RX5 yX5_mark wsX5_mark) := goodIn_app (goodIn_of _ (by decide +kernel)) ggL_law_X5_mark
set_option maxRecDepth 20000 in
theorem ggL_law_X4_unmark : GoodIn wsL_law wsX4_unmark := goodIn_r _ [174, 15, 124, 125, 126, 14, 127, 111, 105, 2, 106, 128, 129, 130, 131, 132, 133, 134, 135, 136, 137, 19, 92, 138, 139, 140, 141, 34, 32, 142, 143, 144, 145, 146, 147, 148, 36, 35, 149, 150, 151, 152, 153, 154, 622, 623, 624, 654, 655, 656, 657, 658, 659, 660, 661, 662, 663, 664, 665, 666, 667, 668, 669, 670, 671, 672, 673, 674, 675, 676] (by decide +kernel) (by decide +kernel)
set_option maxRecDepth 20000 in
theorem gL_law_X4_unmark : GoodIn wsL_law (wsV RL 27 RX4 yX4_unmark wsX4_unmark) := goodIn_app (goodIn_of _ (by decide +kernel)) ggL_law_X4_unmark
set_option maxRecDepth 20000 in
theorem ggL_law_X5_unmark : GoodIn wsL_law wsX5_unmark := goodIn_r _ [178, 73, 159, 160, 161, 5, 162, 116, 117, 118, 119, 163, 164, 165, 166, 97, 167, 168, 169, 170, 75, 74, 98, 625, 626, 627, 628, 629, 630, 631, 632, 633, 634, 635, 636, 637, 638, 639, 640, 641, 642, 643, 644, 645, 646, 647, 648, 649, 650, 651, 652, 653] (by decide +kernel) (by decide +kernel)
set_option maxRecDepth 20000 in
theorem gL_law_X5_unmark : GoodIn wsL_law (wsV RL 31 RX5 yX5_unmark wsX5_unmark) := goodIn_app (goodIn_of _ (by decide +kernel)) ggL_law_X5_unmark
set_option maxRecDepth 20000 in
theorem ggL_law_X4_weigh : GoodIn wsL_law wsX4_weigh := goodIn_r _ [182, 15, 183, 19, 92, 124, 125, 126, 14, 127, 111, 105, 2, 106, 104, 622, 623, 624, 654, 655, 656, 657, 658, 659, 660, 661, 662, 663, 664, 665, 666, 667, 668, 669, 670, 671, 672, 673, 674, 675, 676] (by decide +kernel) (by decide +kernel)
set_option maxRecDepth 20000 in
theorem gL_law_X4_weigh : GoodIn wsL_law (wsV RL 32 RX4 yX4_weigh wsX4_weigh) := goodIn_app (goodIn_of _ (by decide +kernel)) ggL_law_X4_weigh
set_option maxRecDepth 20000 in
theorem ggL_law_X5_weigh : GoodIn wsL_law wsX5_weigh := goodIn_r _ [187, 70, 98, 159, 160, 161, 5, 162, 116, 117, 118, 119, 625, 626, 627, 628, 629, 630, 631, 632, 633, 634, 635, 636, 637, 638, 639, 640, 641, 642, 643, 644, 645, 646, 647, 648, 649, 650, 651, 652, 653] (by decide +kernel) (by decide +kernel)
set_option maxRecDepth 20000 in
theorem gL_law_X5_weigh : GoodIn wsL_law (wsV RL 35 RX5 yX5_weigh wsX5_weigh) := goodIn_app (goodIn_of _ (by decide +kernel)) ggL_law_X5_weigh
set_option maxRecDepth 20000 in
theorem ggL_law_X4_rule : GoodIn wsL_law wsX4_rule := goodIn_r _ [191, 15, 192, 19, 92, 104, 105, 2, 106, 622, 623, 624, 654, 655, 656, 657, 658, 659, 660, 661, 662, 663, 664, 665, 666, 667, 668, 669, 670, 671, 672, 673, 674, 675, 676] (by decide +kernel) (by decide +kernel)
set_option maxRecDepth 20000 in
theorem gL_law_X4_rule : GoodIn wsL_law (wsV RL 36 RX4 yX4_rule wsX4_rule) := goodIn_app (goodIn_of _ (by decide +kernel)) ggL_law_X4_rule
set_option maxRecDepth 20000 in
theorem ggL_law_X5_rule : GoodIn wsL_law wsX5_rule := goodIn_r _ [196, 197, 98, 117, 118, 5, 119, 625, 626, 627, 628, 629, 630, 631, 632, 633, 634, 635, 636, 637, 638, 639, 640, 641, 642, 643, 644, 645, 646, 647, 648, 649, 650, 651, 652, 653] (by decide +kernel) (by decide +kernel)
set_option maxRecDepth 20000 in
theorem gL_law_X5_rule : GoodIn wsL_law (wsV RL 40 RX5 yX5_rule wsX5_rule) := goodIn_app (goodIn_of _ (by decide +kernel)) ggL_law_X5_rule
set_option maxRecDepth 20000 in
theorem ggL_law_X4_about : GoodIn wsL_law wsX4_about := goodIn_r _ [201, 15, 183, 202, 203, 204, 124, 125, 126, 14, 127, 111, 105, 2, 106, 622, 623, 624, 654, 655, 656, 657, 658, 659, 660, 661, 662, 663, 664, 665, 666] (by decide +kernel) (by decide +kernel)
set_option maxRecDepth 20000 in
theorem gL_law_X4_about : GoodIn wsL_law (wsV RL 41 RX4 yX4_about wsX4_about) := goodIn_app (goodIn_of _ (by decide +kernel)) ggL_law_X4_about
set_option maxRecDepth 20000 in
theorem ggL_law_X5_about : GoodIn wsL_law wsX5_about := goodIn_r _ [208, 70, 71, 72, 75, 159, 160, 161, 5, 162, 116, 117, 118, 119, 625, 626, 627, 628, 629, 630, 631, 632, 633, 634, 635, 636, 637, 638, 639, 640, 641, 642, 643, 644, 645, 646, 647, 648, 649, 650, 651, 652, 653] (by decide +kernel) (by decide +kernel)
set_option maxRecDepth 20000 in
theorem gL_law_X5_about : GoodIn wsL_law (wsV RL 44 RX5 yX5_about wsX5_about) := goodIn_app (goodIn_of _ (by decide +kernel)) ggL_law_X5_about
set_option maxRecDepth 20000 in
theorem ggL_law_X4_row : GoodIn wsL_law wsX4_row := goodIn_r _ [212, 15, 204, 213, 124, 125, 126, 14, 127, 111, 105, 2, 106, 104, 622, 623, 624, 654, 655, 656, 657, 658, 659, 660, 661, 662, 663, 664, 665, 666] (by decide +kernel) (by decide +kernel)
set_option maxRecDepth 20000 in
theorem gL_law_X4_row : GoodIn wsL_law (wsV RL 45 RX4 yX4_row wsX4_row) := goodIn_app (goodIn_of _ (by decide +kernel)) ggL_law_X4_row
set_option maxRecDepth 20000 in
theorem ggL_law_X5_row : GoodIn wsL_law wsX5_row := goodIn_r _ [217, 75, 74, 159, 160, 161, 5, 162, 116, 117, 118, 119, 625, 626, 627, 628, 629, 630, 631, 632, 633, 634, 635, 636, 637, 638, 639, 640, 641, 642, 643, 644, 645, 646, 647, 648, 649, 650, 651, 652, 653] (by decide +kernel) (by decide +kernel)
set_option maxRecDepth 20000 in
theorem gL_law_X5_row : GoodIn wsL_law (wsV RL 48 RX5 yX5_row wsX5_row) := goodIn_app (goodIn_of _ (by decide +kernel)) ggL_law_X5_row
set_option maxRecDepth 20000 in
theorem ggL_law_X4_place : GoodIn wsL_law wsX4_place := goodIn_r _ [221, 15, 137, 222, 124, 125, 126, 14, 127, 111, 105, 2, 106, 128, 129, 130, 131, 132, 104, 622, 623, 624, 654, 655, 656, 657, 658, 659, 660, 661, 662, 663, 664, 665, 666] (by decide +kernel) (by decide +kernel)
set_option maxRecDepth 20000 in
theorem gL_law_X4_place : GoodIn wsL_law (wsV RL 49 RX4 yX4_place wsX4_place) := goodIn_app (goodIn_of _ (by decide +kernel)) ggL_law_X4_place
set_option maxRecDepth 20000 in
theorem ggL_law_X5_place : GoodIn wsL_law wsX5_place := goodIn_r _ [226, 73, 159, 160, 161, 5, 162, 116, 117, 118, 119, 163, 164, 165, 166, 97, 227, 228, 229, 230, 75, 74, 625, 626, 627, 628, 629, 630, 631, 632, 633, 634, 635, 636, 637, 638, 639, 640, 641, 642, 643, 644, 645, 646, 647, 648, 649, 650, 651, 652, 653] (by decide +kernel) (by decide +kernel)
set_option maxRecDepth 20000 in
theorem gL_law_X5_place : GoodIn wsL_law (wsV RL 52 RX5 yX5_place wsX5_place) := goodIn_app (goodIn_of _ (by decide +kernel)) ggL_law_X5_place
set_option maxRecDepth 20000 in
theorem ggL_law_X4_total : GoodIn wsL_law wsX4_total := goodIn_r _ [234, 15, 128, 129, 130, 14, 131, 132, 105, 2, 106, 235, 236, 237, 238, 111, 37, 34, 239, 240, 241, 242, 29, 243, 244, 245, 246, 247, 248, 249, 27, 622, 623, 624, 654, 655, 656, 657, 658, 659, 660, 661, 662, 663, 664, 665, 666] (by decide +kernel) (by decide +kernel)
set_option maxRecDepth 20000 in
theorem gL_law_X4_total : GoodIn wsL_law (wsV RL 53 RX4 yX4_total wsX4_total) := goodIn_app (goodIn_of _ (by decide +kernel)) ggL_law_X4_total
set_option maxRecDepth 20000 in
theorem ggL_law_X5_total : GoodIn wsL_law wsX5_total := goodIn_r _ [253, 163, 164, 165, 5, 166, 97, 117, 118, 119, 254, 255, 256, 257, 116, 76, 73, 258, 259, 260, 261, 197, 70, 625, 626, 627, 628, 629, 630, 631, 632, 633, 634, 635, 636, 637, 638, 639, 640, 641, 642, 643, 644, 645, 646, 647, 648, 649, 650, 651, 652, 653] (by decide +kernel) (by decide +kernel)
set_option maxRecDepth 20000 in
theorem gL_law_X5_total : GoodIn wsL_law (wsV RL 56 RX5 yX5_total wsX5_total) := goodIn_app (goodIn_of _ (by decide +kernel)) ggL_law_X5_total
set_option maxRecDepth 20000 in
theorem ggL_law_X4_best : GoodIn wsL_law wsX4_best := goodIn_r _ [265, 15, 128, 129, 130, 14, 131, 132, 105, 2, 106, 266, 267, 268, 269, 38, 270, 236, 237, 238, 111, 37, 34, 239, 240, 241, 242, 29, 243, 244, 245, 246, 247, 248, 249, 27, 149, 150, 151, 152, 153, 154, 622, 623, 624, 654, 655, 656, 657, 658, 659, 660, 661, 662, 663, 664, 665, 666] (by decide +kernel) (by decide +kernel)
set_option maxRecDepth 20000 in
theorem gL_law_X4_best : GoodIn wsL_law (wsV RL 57 RX4 yX4_best wsX4_best) := goodIn_app (goodIn_of _ (by decide +kernel)) ggL_law_X4_best
set_option maxRecDepth 20000 in
theorem ggL_law_X5_best : GoodIn wsL_law wsX5_best := goodIn_r _ [274, 97, 163, 164, 165, 5, 166, 117, 118, 119, 254, 255, 256, 257, 116, 76, 73, 258, 259, 260, 261, 197, 70, 625, 626, 627, 628, 629, 630, 631, 632, 633, 634, 635, 636, 637, 638, 639, 640, 641, 642, 643, 644, 645, 646, 647, 648, 649, 650, 651, 652, 653] (by decide +kernel) (by decide +kernel)
set_option maxRecDepth 20000 in
theorem gL_law_X5_best : GoodIn wsL_law (wsV RL 60 RX5 yX5_best wsX5_best) := goodIn_app (goodIn_of _ (by decide +kernel)) ggL_law_X5_best
set_option maxRecDepth 20000 in
theorem ggL_law_X4_begin : GoodIn wsL_law wsX4_begin := goodIn_r _ [278, 15, 19, 279, 280, 281, 282, 14, 283, 132, 105, 2, 106, 104, 284, 285, 286, 18, 287, 288, 289, 290, 291, 292, 293, 294, 47, 295, 296, 297, 298, 46, 299, 52, 53, 300, 301, 302, 303, 56, 304, 55, 305, 306, 307, 308, 309, 54, 310, 311, 312, 313, 314, 315, 316, 317, 318, 319, 320, 321, 322, 323, 324, 325, 240, 241, 242, 111, 29, 243, 244, 245, 246, 247, 248, 249, 27, 326, 327, 328, 329, 330, 331, 332, 333, 334, 335, 336, 337, 338, 339, 340, 341, 342, 343, 344, 345, 346, 347, 348, 153, 154, 349, 143, 144, 622, 623, 624, 667, 668, 669, 670, 671, 672, 673, 674, 675, 676, 654, 655, 656, 657, 658, 659, 660, 661, 662, 663, 664, 665, 666, 680, 681, 682, 683, 684, 685] (by decide +kernel) (by decide +kernel)
set_option maxRecDepth 20000 in
theorem gL_law_X4_begin : GoodIn wsL_law (wsV RL 61 RX4 yX4_begin wsX4_begin) := goodIn_app (goodIn_of _ (by decide +kernel)) ggL_law_X4_begin
set_option maxRecDepth 20000 in
theorem ggL_law_X5_begin : GoodIn wsL_law wsX5_begin := goodIn_r _ [353, 97, 98, 354, 355, 356, 357, 358, 359, 360, 117, 118, 5, 119, 361, 362, 363, 364, 77, 79, 365, 366, 367, 368, 369, 83, 80, 370, 371, 372, 373, 81, 82, 374, 375, 376, 377, 116, 76, 73, 378, 379, 380, 381, 75, 227, 228, 229, 230, 74, 382, 383, 384, 385, 258, 259, 260, 261, 197, 70, 625, 626, 627, 628, 629, 630, 631, 632, 633, 634, 635, 636, 637, 638, 639, 640, 641, 642, 643, 644, 645, 646, 647, 648, 649, 650, 651, 652, 653] (by decide +kernel) (by decide +kernel)
set_option maxRecDepth 20000 in
theorem gL_law_X5_begin : GoodIn wsL_law (wsV RL 64 RX5 yX5_begin wsX5_begin) := goodIn_app (goodIn_of _ (by decide +kernel)) ggL_law_X5_begin
set_option maxRecDepth 20000 in
theorem ggL_law_X4_round : GoodIn wsL_law wsX4_round := goodIn_r _ [389, 19, 92, 279, 390, 391, 392, 18, 393, 292, 43, 394, 295, 47, 289, 291, 395, 316, 317, 46, 318, 52, 56, 319, 396, 397, 398, 399, 400, 401, 294, 402, 290, 300, 301, 302, 303, 304, 55, 305, 306, 307, 308, 309, 54, 310, 311, 312, 313, 314, 53, 315, 320, 321, 322, 323, 324, 325, 240, 241, 14, 242, 111, 29, 243, 244, 245, 246, 247, 248, 249, 27, 326, 327, 328, 329, 330, 331, 332, 333, 334, 335, 336, 337, 338, 339, 340, 341, 342, 343, 344, 345, 346, 347, 348, 153, 2, 154, 403, 404, 405, 406, 293, 407, 408, 409, 410, 411, 412, 413, 414, 415, 416, 417, 418, 419, 420, 421, 422, 423, 424, 425, 426, 427, 428, 429, 430, 349, 143, 144, 622, 623, 624, 667, 668, 669, 670, 671, 672, 673, 674, 675, 676, 654, 655, 656, 657, 658, 659, 660, 661, 662, 663, 664, 665, 666, 680, 681, 682, 683, 684, 685] (by decide +kernel) (by decide +kernel)
set_option maxRecDepth 20000 in
theorem gL_law_X4_round : GoodIn wsL_law (wsV RL 65 RX4 yX4_round wsX4_round) := goodIn_app (goodIn_of _ (by decide +kernel)) ggL_law_X4_round
set_option maxRecDepth 20000 in
theorem ggL_law_X5_round : GoodIn wsL_law wsX5_round := goodIn_r _ [434, 98, 369, 435, 436, 437, 5, 438, 357, 116, 77, 75, 74, 358, 360, 71, 354, 356, 97, 365, 366, 367, 368, 355, 83, 80, 370, 371, 372, 373, 81, 82, 374, 375, 376, 377, 76, 73, 378, 379, 380, 381, 79, 227, 228, 229, 230, 382, 383, 384, 385, 258, 259, 260, 261, 197, 70, 439, 440, 441, 442, 72, 359, 443, 444, 445, 446, 447, 448, 449, 450, 625, 626, 627, 628, 629, 630, 631, 632, 633, 634, 635, 636, 637, 638, 639, 640, 641, 642, 643, 644, 645, 646, 647, 648, 649, 650, 651, 652, 653] (by decide +kernel) (by decide +kernel)
set_option maxRecDepth 20000 in
theorem gL_law_X5_round : GoodIn wsL_law (wsV RL 68 RX5 yX5_round wsX5_round) := goodIn_app (goodIn_of _ (by decide +kernel)) ggL_law_X5_round
set_option maxRecDepth 20000 in
theorem ggL_law_X4_finish : GoodIn wsL_law wsX4_finish := goodIn_r _ [454, 19, 92, 279, 455, 390, 391, 392, 18, 393, 292, 43, 394, 295, 47, 289, 291, 395, 316, 317, 46, 318, 52, 56, 319, 396, 397, 398, 399, 400, 401, 294, 402, 290, 300, 301, 302, 303, 304, 55, 305, 306, 307, 308, 309, 54, 310, 311, 312, 313, 314, 53, 315, 320, 321, 322, 323, 324, 325, 240, 241, 14, 242, 111, 29, 243, 244, 245, 246, 247, 248, 249, 27, 326, 327, 328, 329, 330, 331, 332, 333, 334, 335, 336, 337, 338, 339, 340, 341, 342, 343, 344, 345, 346, 347, 348, 153, 2, 154, 403, 404, 405, 406, 293, 407, 408, 409, 410, 411, 412, 413, 414, 415, 416, 417, 418, 419, 420, 421, 422, 423, 424, 425, 426, 427, 428, 429, 430, 622, 623, 624, 667, 668, 669, 670, 671, 672, 673, 674, 675, 676, 654, 655, 656, 657, 658, 659, 660, 661, 662, 663, 664, 665, 666, 680, 681, 682, 683, 684, 685] (by decide +kernel) (by decide +kernel)
set_option maxRecDepth 20000 in
theorem gL_law_X4_finish : GoodIn wsL_law (wsV RL 69 RX4 yX4_finish wsX4_finish) := goodIn_app (goodIn_of _ (by decide +kernel)) ggL_law_X4_finish
set_option maxRecDepth 20000 in
theorem ggL_law_X5_finish : GoodIn wsL_law wsX5_finish := goodIn_r _ [459, 98, 369, 357, 435, 436, 437, 5, 438, 116, 77, 75, 74, 358, 360, 71, 354, 356, 97, 365, 366, 367, 368, 355, 83, 80, 370, 371, 372, 373, 81, 82, 374, 375, 376, 377, 76, 73, 378, 379, 380, 381, 79, 227, 228, 229, 230, 382, 383, 384, 385, 258, 259, 260, 261, 197, 70, 439, 440, 441, 442, 72, 359, 443, 444, 445, 446, 447, 448, 449, 450, 625, 626, 627, 628, 629, 630, 631, 632, 633, 634, 635, 636, 637, 638, 639, 640, 641, 642, 643, 644, 645, 646, 647, 648, 649, 650, 651, 652, 653] (by decide +kernel) (by decide +kernel)
set_option maxRecDepth 20000 in
theorem gL_law_X5_finish : GoodIn wsL_law (wsV RL 72 RX5 yX5_finish wsX5_finish) := goodIn_app (goodIn_of _ (by decide +kernel)) ggL_law_X5_finish
set_option maxRecDepth 20000 in
theorem ggL_law_X4_reader : GoodIn wsL_law wsX4_reader := goodIn_r _ [463, 19, 92, 464, 465, 455, 466, 467, 468, 279, 469, 470, 471, 46, 472, 56, 309, 52, 349, 143, 2, 144, 473, 474, 475, 476, 304, 477, 423, 424, 425, 320, 321, 322, 323, 310, 324, 622, 623, 624, 667, 668, 669, 670, 671, 672, 673, 674, 675, 676, 680, 681, 682, 683, 684, 685, 654, 655, 656, 657, 658, 659, 660, 661, 662, 663, 664, 665, 666] (by decide +kernel) (by decide +kernel)
set_option maxRecDepth 20000 in
theorem gL_law_X4_reader : GoodIn wsL_law (wsV RL 73 RX4 yX4_reader wsX4_reader) := goodIn_app (goodIn_of _ (by decide +kernel)) ggL_law_X4_reader
set_option maxRecDepth 20000 in
theorem ggL_law_X5_reader : GoodIn wsL_law wsX5_reader := goodIn_r _ [481, 98, 354, 355, 357, 358, 359, 360, 369, 97, 116, 79, 443, 444, 445, 5, 446, 73, 77, 227, 228, 229, 230, 75, 74, 625, 626, 627, 628, 629, 630, 631, 632, 633, 634, 635, 636, 637, 638, 639, 640, 641, 642, 643, 644, 645, 646, 647, 648, 649, 650, 651, 652, 653] (by decide +kernel) (by decide +kernel)
set_option maxRecDepth 20000 in
theorem gL_law_X5_reader : GoodIn wsL_law (wsV RL 76 RX5 yX5_reader wsX5_reader) := goodIn_app (goodIn_of _ (by decide +kernel)) ggL_law_X5_reader
set_option maxRecDepth 20000 in
theorem ggL_law_X4_depth : GoodIn wsL_law wsX4_depth := goodIn_r _ [485, 15, 19, 92, 466, 486, 124, 125, 126, 14, 127, 111, 105, 2, 106, 104, 487, 345, 346, 46, 347, 52, 56, 310, 348, 315, 316, 317, 318, 319, 622, 623, 624, 667, 668, 669, 670, 671, 672, 673, 674, 675, 676, 680, 681, 682, 683, 684, 685, 654, 655, 656, 657, 658, 659, 660, 661, 662, 663, 664, 665, 666] (by decide +kernel) (by decide +kernel)
set_option maxRecDepth 20000 in
theorem gL_law_X4_depth : GoodIn wsL_law (wsV RL 77 RX4 yX4_depth wsX4_depth) := goodIn_app (goodIn_of _ (by decide +kernel)) ggL_law_X4_depth
set_option maxRecDepth 20000 in
theorem ggL_law_X5_depth : GoodIn wsL_law wsX5_depth := goodIn_r _ [491, 98, 77, 159, 160, 161, 5, 162, 116, 117, 118, 119, 382, 383, 384, 385, 75, 73, 74, 625, 626, 627, 628, 629, 630, 631, 632, 633, 634, 635, 636, 637, 638, 639, 640, 641, 642, 643, 644, 645, 646, 647, 648, 649, 650, 651, 652, 653] (by decide +kernel) (by decide +kernel)
set_option maxRecDepth 20000 in
theorem gL_law_X5_depth : GoodIn wsL_law (wsV RL 80 RX5 yX5_depth wsX5_depth) := goodIn_app (goodIn_of _ (by decide +kernel)) ggL_law_X5_depth
set_option maxRecDepth 20000 in
theorem ggL_law_X4_known : GoodIn wsL_law wsX4_known := goodIn_r _ [495, 15, 19, 92, 466, 124, 125, 126, 14, 127, 111, 105, 2, 106, 128, 129, 130, 131, 132, 496, 312, 313, 46, 314, 53, 315, 316, 317, 318, 52, 56, 319, 320, 321, 322, 323, 310, 324, 349, 143, 144, 622, 623, 624, 667, 668, 669, 670, 671, 672, 673, 674, 675, 676, 654, 655, 656, 657, 658, 659, 660, 661, 662, 663, 664, 665, 666, 680, 681, 682, 683, 684, 685] (by decide +kernel) (by decide +kernel)
set_option maxRecDepth 20000 in
theorem gL_law_X4_known : GoodIn wsL_law (wsV RL 81 RX4 yX4_known wsX4_known) := goodIn_app (goodIn_of _ (by decide +kernel)) ggL_law_X4_known
set_option maxRecDepth 20000 in
theorem ggL_law_X5_known : GoodIn wsL_law wsX5_known := goodIn_r _ [500, 98, 159, 160, 161, 5, 162, 116, 117, 118, 119, 163, 164, 165, 166, 97, 378, 379, 380, 381, 79, 77, 75, 73, 227, 228, 229, 230, 74, 625, 626, 627, 628, 629, 630, 631, 632, 633, 634, 635, 636, 637, 638, 639, 640, 641, 642, 643, 644, 645, 646, 647, 648, 649, 650, 651, 652, 653] (by decide +kernel) (by decide +kernel)
set_option maxRecDepth 20000 in
theorem gL_law_X5_known : GoodIn wsL_law (wsV RL 84 RX5 yX5_known wsX5_known) := goodIn_app (goodIn_of _ (by decide +kernel)) ggL_law_X5_known
set_option maxRecDepth 20000 in
theorem ggL_law_X4_bound : GoodIn wsL_law wsX4_bound := goodIn_r _ [504, 15, 19, 92, 466, 128, 129, 130, 14, 131, 132, 105, 2, 106, 104, 505, 341, 342, 46, 343, 56, 309, 54, 310, 311, 312, 313, 314, 53, 315, 316, 317, 318, 52, 319, 320, 321, 322, 323, 324, 344, 345, 346, 347, 348, 325, 240, 241, 242, 111, 29, 243, 244, 245, 246, 247, 248, 249, 27, 506, 306, 307, 308, 622, 623, 624, 667, 668, 669, 670, 671, 672, 673, 674, 675, 676, 654, 655, 656, 657, 658, 659, 660, 661, 662, 663, 664, 665, 666, 680, 681, 682, 683, 684, 685] (by decide +kernel) (by decide +kernel)
set_option maxRecDepth 20000 in
theorem gL_law_X4_bound : GoodIn wsL_law (wsV RL 85 RX4 yX4_bound wsX4_bound) := goodIn_app (goodIn_of _ (by decide +kernel)) ggL_law_X4_bound
set_option maxRecDepth 20000 in
theorem ggL_law_X5_bound : GoodIn wsL_law wsX5_bound := goodIn_r _ [510, 98, 163, 164, 165, 5, 166, 97, 117, 118, 119, 374, 375, 376, 377, 116, 76, 73, 378, 379, 380, 381, 79, 77, 75, 227, 228, 229, 230, 74, 382, 383, 384, 385, 258, 259, 260, 261, 197, 70, 625, 626, 627, 628, 629, 630, 631, 632, 633, 634, 635, 636, 637, 638, 639, 640, 641, 642, 643, 644, 645, 646, 647, 648, 649, 650, 651, 652, 653] (by decide +kernel) (by decide +kernel)
set_option maxRecDepth 20000 in
theorem gL_law_X5_bound : GoodIn wsL_law (wsV RL 88 RX5 yX5_bound wsX5_bound) := goodIn_app (goodIn_of _ (by decide +kernel)) ggL_law_X5_bound
set_option maxRecDepth 20000 in
theorem ggL_law_X4_ahead : GoodIn wsL_law wsX4_ahead := goodIn_r _ [514, 15, 19, 92, 466, 128, 129, 130, 14, 131, 132, 105, 2, 106, 506, 306, 307, 46, 308, 56, 309, 54, 310, 311, 312, 313, 314, 53, 315, 316, 317, 318, 52, 319, 320, 321, 322, 323, 324, 325, 240, 241, 242, 111, 29, 243, 244, 245, 246, 247, 248, 249, 27, 505, 341, 342, 343, 344, 345, 346, 347, 348, 515, 153, 154, 349, 143, 144, 622, 623, 624, 667, 668, 669, 670, 671, 672, 673, 674, 675, 676, 654, 655, 656, 657, 658, 659, 660, 661, 662, 663, 664, 665, 666, 680, 681, 682, 683, 684, 685] (by decide +kernel) (by decide +kernel)
set_option maxRecDepth 20000 in
theorem gL_law_X4_ahead : GoodIn wsL_law (wsV RL 89 RX4 yX4_ahead wsX4_ahead) := goodIn_app (goodIn_of _ (by decide +kernel)) ggL_law_X4_ahead
set_option maxRecDepth 20000 in
theorem ggL_law_X5_ahead : GoodIn wsL_law wsX5_ahead := goodIn_r _ [519, 98, 163, 164, 165, 5, 166, 97, 117, 118, 119, 520, 521, 522, 523, 374, 375, 376, 377, 116, 76, 73, 378, 379, 380, 381, 79, 77, 75, 227, 228, 229, 230, 74, 382, 383, 384, 385, 258, 259, 260, 261, 197, 70, 625, 626, 627, 628, 629, 630, 631, 632, 633, 634, 635, 636, 637, 638, 639, 640, 641, 642, 643, 644, 645, 646, 647, 648, 649, 650, 651, 652, 653] (by decide +kernel) (by decide +kernel)
set_option maxRecDepth 20000 in
theorem gL_law_X5_ahead : GoodIn wsL_law (wsV RL 92 RX5 yX5_ahead wsX5_ahead) := goodIn_app (goodIn_of _ (by decide +kernel)) ggL_law_X5_ahead
set_option maxRecDepth 20000 in
theorem ggL_law_X4_found : GoodIn wsL_law wsX4_found := goodIn_r _ [527, 19, 92, 465, 279, 466, 104, 105, 2, 106, 528, 529, 530, 46, 531, 56, 304, 336, 337, 338, 339, 330, 622, 623, 624, 667, 668, 669, 670, 671, 672, 673, 674, 675, 676, 680, 681, 682, 683, 684, 685, 654, 655, 656, 657, 658, 659, 660, 661, 662, 663, 664, 665, 666] (by decide +kernel) (by decide +kernel)
set_option maxRecDepth 20000 in
theorem gL_law_X4_found : GoodIn wsL_law (wsV RL 93 RX4 yX4_found wsX4_found) := goodIn_app (goodIn_of _ (by decide +kernel)) ggL_law_X4_found
set_option maxRecDepth 20000 in
theorem ggL_law_X5_found : GoodIn wsL_law wsX5_found := goodIn_r _ [535, 98, 355, 369, 97, 83, 117, 118, 5, 119, 625, 626, 627, 628, 629, 630, 631, 632, 633, 634, 635, 636, 637, 638, 639, 640, 641, 642, 643, 644, 645, 646, 647, 648, 649, 650, 651, 652, 653] (by decide +kernel) (by decide +kernel)
set_option maxRecDepth 20000 in
theorem gL_law_X5_found : GoodIn wsL_law (wsV RL 96 RX5 yX5_found wsX5_found) := goodIn_app (goodIn_of _ (by decide +kernel)) ggL_law_X5_found
set_option maxRecDepth 20000 in
theorem ggL_law_X4_enough : GoodIn wsL_law wsX4_enough := goodIn_r _ [539, 15, 23, 280, 281, 282, 14, 283, 132, 105, 2, 106, 540, 541, 542, 543, 32, 544, 125, 126, 127, 111, 545, 546, 547, 22, 548, 64, 549, 550, 301, 302, 46, 303, 56, 304, 55, 305, 306, 307, 308, 309, 54, 310, 311, 312, 313, 314, 53, 315, 316, 317, 318, 52, 319, 320, 321, 322, 323, 324, 325, 240, 241, 242, 29, 243, 244, 245, 246, 247, 248, 249, 27, 326, 327, 328, 329, 330, 331, 332, 333, 334, 335, 336, 337, 338, 339, 340, 341, 342, 343, 344, 345, 346, 347, 348, 153, 154, 349, 143, 144, 622, 623, 624, 654, 655, 656, 657, 658, 659, 660, 661, 662, 663, 664, 665, 666, 677, 678, 679, 680, 681, 682, 683, 684, 685] (by decide +kernel) (by decide +kernel)
set_option maxRecDepth 20000 in
theorem gL_law_X4_enough : GoodIn wsL_law (wsV RL 97 RX4 yX4_enough wsX4_enough) := goodIn_app (goodIn_of _ (by decide +kernel)) ggL_law_X4_enough
set_option maxRecDepth 20000 in
theorem ggL_law_X5_enough : GoodIn wsL_law wsX5_enough := goodIn_r _ [554, 97, 77, 117, 118, 5, 119, 555, 556, 557, 558, 116, 75, 559, 560, 561, 562, 84, 85, 79, 361, 362, 363, 364, 370, 371, 372, 373, 81, 82, 80, 374, 375, 376, 377, 76, 73, 378, 379, 380, 381, 227, 228, 229, 230, 74, 382, 383, 384, 385, 258, 259, 260, 261, 197, 70, 563, 564, 565, 566, 625, 626, 627, 628, 629, 630, 631, 632, 633, 634, 635, 636, 637, 638, 639, 640, 641, 642, 643, 644, 645, 646, 647, 648, 649, 650, 651, 652, 653] (by decide +kernel) (by decide +kernel)
set_option maxRecDepth 20000 in
theorem gL_law_X5_enough : GoodIn wsL_law (wsV RL 101 RX5 yX5_enough wsX5_enough) := goodIn_app (goodIn_of _ (by decide +kernel)) ggL_law_X5_enough
set_option maxRecDepth 20000 in
theorem ggL_law_X4_least : GoodIn wsL_law wsX4_least := goodIn_r _ [570, 15, 23, 280, 281, 282, 14, 283, 132, 105, 2, 106, 571, 572, 573, 574, 111, 32, 575, 576, 577, 22, 578, 64, 62, 549, 61, 579, 580, 581, 582, 583, 297, 298, 46, 299, 52, 53, 584, 585, 586, 587, 588, 589, 590, 550, 301, 302, 303, 56, 304, 55, 305, 306, 307, 308, 309, 54, 310, 311, 312, 313, 314, 315, 316, 317, 318, 319, 320, 321, 322, 323, 324, 325, 240, 241, 242, 29, 243, 244, 245, 246, 247, 248, 249, 27, 326, 327, 328, 329, 330, 331, 332, 333, 334, 335, 336, 337, 338, 339, 340, 341, 342, 343, 344, 345, 346, 347, 348, 153, 154, 591, 592, 593, 594, 595, 622, 623, 624, 654, 655, 656, 657, 658, 659, 660, 661, 662, 663, 664, 665, 666, 677, 678, 679, 680, 681, 682, 683, 684, 685] (by decide +kernel) (by decide +kernel)
set_option maxRecDepth 20000 in
theorem gL_law_X4_least : GoodIn wsL_law (wsV RL 102 RX4 yX4_least wsX4_least) := goodIn_app (goodIn_of _ (by decide +kernel)) ggL_law_X4_least
set_option maxRecDepth 20000 in
theorem ggL_law_X5_least : GoodIn wsL_law wsX5_least := goodIn_r _ [599, 97, 116, 75, 71, 77, 86, 117, 118, 5, 119, 559, 560, 561, 562, 84, 85, 79, 361, 362, 363, 364, 370, 371, 372, 373, 81, 82, 80, 374, 375, 376, 377, 76, 73, 378, 379, 380, 381, 227, 228, 229, 230, 74, 382, 383, 384, 385, 258, 259, 260, 261, 197, 70, 600, 601, 602, 603, 563, 564, 565, 566, 625, 626, 627, 628, 629, 630, 631, 632, 633, 634, 635, 636, 637, 638, 639, 640, 641, 642, 643, 644, 645, 646, 647, 648, 649, 650, 651, 652, 653] (by decide +kernel) (by decide +kernel)
set_option maxRecDepth 20000 in
theorem gL_law_X5_least : GoodIn wsL_law (wsV RL 105 RX5 yX5_least wsX5_least) := goodIn_app (goodIn_of _ (by decide +kernel)) ggL_law_X5_least
set_option maxRecDepth 20000 in
theorem ggL_law_X4_leastDepth : GoodIn wsL_law wsX4_leastDepth := goodIn_r _ [607, 23, 608, 104, 105, 2, 106, 622, 623, 624, 677, 678, 679] (by decide +kernel) (by decide +kernel)
set_option maxRecDepth 20000 in
theorem gL_law_X4_leastDepth : GoodIn wsL_law (wsV RL 106 RX4 yX4_leastDepth wsX4_leastDepth) := goodIn_app (goodIn_of _ (by decide +kernel)) ggL_law_X4_leastDepth
set_option maxRecDepth 20000 in
theorem ggL_law_X5_leastDepth : GoodIn wsL_law wsX5_leastDepth := goodIn_r _ [612, 86, 117, 118, 5, 119, 625, 626, 627, 628, 629, 630, 631, 632, 633, 634, 635, 636, 637, 638, 639, 640, 641, 642, 643, 644, 645, 646, 647, 648, 649, 650, 651, 652, 653] (by decide +kernel) (by decide +kernel)
set_option maxRecDepth 20000 in
theorem gL_law_X5_leastDepth : GoodIn wsL_law (wsV RL 109 RX5 yX5_leastDepth wsX5_leastDepth) := goodIn_app (goodIn_of _ (by decide +kernel)) ggL_law_X5_leastDepth
set_option maxRecDepth 20000 in
theorem ggL_law_X4_count : GoodIn wsL_law wsX4_count := goodIn_r _ [616, 15, 91, 103, 617, 192, 19, 92, 349, 143, 2, 144, 622, 623, 624, 654, 655, 656, 657, 658, 659, 660, 661, 662, 663, 664, 665, 666, 667, 668, 669, 670, 671, 672, 673, 674, 675, 676] (by decide +kernel) (by decide +kernel)
set_option maxRecDepth 20000 in
theorem gL_law_X4_count : GoodIn wsL_law (wsV RL 110 RX4 yX4_count wsX4_count) := goodIn_app (goodIn_of _ (by decide +kernel)) ggL_law_X4_count
set_option maxRecDepth 20000 in
theorem ggL_law_X5_count : GoodIn wsL_law wsX5_count := goodIn_r _ [621, 97, 116, 75, 197, 98, 625, 626, 627, 628, 629, 630, 631, 632, 633, 634, 635, 636, 637, 638, 639, 640, 641, 642, 643, 644, 645, 646, 647, 648, 649, 650, 651, 652, 653] (by decide +kernel) (by decide +kernel)
set_option maxRecDepth 20000 in
theorem gL_law_X5_count : GoodIn wsL_law (wsV RL 113 RX5 yX5_count wsX5_count) := goodIn_app (goodIn_of _ (by decide +kernel)) ggL_law_X5_count
theorem dL_law_0 : decode cL_law 0 = .ok (.new 7, 3) := by decide +kernel
theorem dL_law_3 : decode cL_law 3 = .ok (.dup, 1) := by decide +kernel
theorem dL_law_4 : decode cL_law 4 = .ok (.invokespecial 9, 3) := by decide +kernel
theorem dL_law_7 : decode cL_law 7 = .ok (.astore_n 1, 1) := by decide +kernel
theorem dL_law_8 : decode cL_law 8 = .ok (.new 10, 3) := by decide +kernel
theorem dL_law_11 : decode cL_law 11 = .ok (.dup, 1) := by decide +kernel
theorem dL_law_12 : decode cL_law 12 = .ok (.invokespecial 12, 3) := by decide +kernel
theorem dL_law_15 : decode cL_law 15 = .ok (.astore_n 2, 1) := by decide +kernel
theorem dL_law_16 : decode cL_law 16 = .ok (.iconst 0, 1) := by decide +kernel
theorem dL_law_17 : decode cL_law 17 = .ok (.istore_n 3, 1) := by decide +kernel
theorem dL_law_18 : decode cL_law 18 = .ok (.iload_n 3, 1) := by decide +kernel
theorem dL_law_19 : decode cL_law 19 = .ok (.aload_n 0, 1) := by decide +kernel
theorem dL_law_20 : decode cL_law 20 = .ok (.arraylength, 1) := by decide +kernel
theorem dL_law_21 : decode cL_law 21 = .ok (.bipush 6, 2) := by decide +kernel
theorem dL_law_23 : decode cL_law 23 = .ok (.isub, 1) := by decide +kernel
theorem dL_law_24 : decode cL_law 24 = .ok (.if_icmp .gt 848, 3) := by decide +kernel
theorem dL_law_27 : decode cL_law 27 = .ok (.aload_n 0, 1) := by decide +kernel
theorem dL_law_28 : decode cL_law 28 = .ok (.iload_n 3, 1) := by decide +kernel
theorem dL_law_29 : decode cL_law 29 = .ok (.iaload, 1) := by decide +kernel
theorem dL_law_30 : decode cL_law 30 = .ok (.bipush 31, 2) := by decide +kernel
theorem dL_law_32 : decode cL_law 32 = .ok (.iand, 1) := by decide +kernel
theorem dL_law_33 : decode cL_law 33 = .ok (.tableswitch 833 0 23 #[111, 124, 167, 210, 243, 276, 299, 332, 365, 408, 431, 454, 497, 510, 523, 546, 579, 612, 645, 678, 701, 764, 787, 810], 111) := by decide +kernel
theorem dL_law_144 : decode cL_law 144 = .ok (.aload_n 1, 1) := by decide +kernel
theorem dL_law_145 : decode cL_law 145 = .ok (.invokevirtual 13, 3) := by decide +kernel
theorem dL_law_148 : decode cL_law 148 = .ok (.aload_n 2, 1) := by decide +kernel
theorem dL_law_149 : decode cL_law 149 = .ok (.invokevirtual 17, 3) := by decide +kernel
theorem dL_law_152 : decode cL_law 152 = .ok (.if_icmp .eq 714, 3) := by decide +kernel
theorem dL_law_155 : decode cL_law 155 = .ok (.iconst 0, 1) := by decide +kernel
theorem dL_law_156 : decode cL_law 156 = .ok (.ireturn, 1) := by decide +kernel
theorem dL_law_157 : decode cL_law 157 = .ok (.aload_n 1, 1) := by decide +kernel
theorem dL_law_158 : decode cL_law 158 = .ok (.aload_n 0, 1) := by decide +kernel
theorem dL_law_159 : decode cL_law 159 = .ok (.iload_n 3, 1) := by decide +kernel
theorem dL_law_160 : decode cL_law 160 = .ok (.iconst 1, 1) := by decide +kernel
theorem dL_law_161 : decode cL_law 161 = .ok (.iadd, 1) := by decide +kernel
theorem dL_law_162 : decode cL_law 162 = .ok (.iaload, 1) := by decide +kernel
theorem dL_law_163 : decode cL_law 163 = .ok (.aload_n 0, 1) := by decide +kernel
theorem dL_law_164 : decode cL_law 164 = .ok (.iload_n 3, 1) := by decide +kernel
theorem dL_law_165 : decode cL_law 165 = .ok (.iconst 2, 1) := by decide +kernel
theorem dL_law_166 : decode cL_law 166 = .ok (.iadd, 1) := by decide +kernel
theorem dL_law_167 : decode cL_law 167 = .ok (.iaload, 1) := by decide +kernel
theorem dL_law_168 : decode cL_law 168 = .ok (.aload_n 0, 1) := by decide +kernel
theorem dL_law_169 : decode cL_law 169 = .ok (.iload_n 3, 1) := by decide +kernel
theorem dL_law_170 : decode cL_law 170 = .ok (.iconst 3, 1) := by decide +kernel
theorem dL_law_171 : decode cL_law 171 = .ok (.iadd, 1) := by decide +kernel
theorem dL_law_172 : decode cL_law 172 = .ok (.iaload, 1) := by decide +kernel
theorem dL_law_173 : decode cL_law 173 = .ok (.invokevirtual 18, 3) := by decide +kernel
theorem dL_law_176 : decode cL_law 176 = .ok (.aload_n 2, 1) := by decide +kernel
theorem dL_law_177 : decode cL_law 177 = .ok (.aload_n 0, 1) := by decide +kernel
theorem dL_law_178 : decode cL_law 178 = .ok (.iload_n 3, 1) := by decide +kernel
theorem dL_law_179 : decode cL_law 179 = .ok (.iconst 1, 1) := by decide +kernel
theorem dL_law_180 : decode cL_law 180 = .ok (.iadd, 1) := by decide +kernel
theorem dL_law_181 : decode cL_law 181 = .ok (.iaload, 1) := by decide +kernel
theorem dL_law_182 : decode cL_law 182 = .ok (.aload_n 0, 1) := by decide +kernel
theorem dL_law_183 : decode cL_law 183 = .ok (.iload_n 3, 1) := by decide +kernel
theorem dL_law_184 : decode cL_law 184 = .ok (.iconst 2, 1) := by decide +kernel
theorem dL_law_185 : decode cL_law 185 = .ok (.iadd, 1) := by decide +kernel
theorem dL_law_186 : decode cL_law 186 = .ok (.iaload, 1) := by decide +kernel
theorem dL_law_187 : decode cL_law 187 = .ok (.aload_n 0, 1) := by decide +kernel
theorem dL_law_188 : decode cL_law 188 = .ok (.iload_n 3, 1) := by decide +kernel
theorem dL_law_189 : decode cL_law 189 = .ok (.iconst 3, 1) := by decide +kernel
theorem dL_law_190 : decode cL_law 190 = .ok (.iadd, 1) := by decide +kernel
theorem dL_law_191 : decode cL_law 191 = .ok (.iaload, 1) := by decide +kernel
theorem dL_law_192 : decode cL_law 192 = .ok (.invokevirtual 22, 3) := by decide +kernel
theorem dL_law_195 : decode cL_law 195 = .ok (.if_icmp .eq 671, 3) := by decide +kernel
theorem dL_law_198 : decode cL_law 198 = .ok (.iconst 0, 1) := by decide +kernel
theorem dL_law_199 : decode cL_law 199 = .ok (.ireturn, 1) := by decide +kernel
theorem dL_law_200 : decode cL_law 200 = .ok (.aload_n 1, 1) := by decide +kernel
theorem dL_law_201 : decode cL_law 201 = .ok (.aload_n 0, 1) := by decide +kernel
theorem dL_law_202 : decode cL_law 202 = .ok (.iload_n 3, 1) := by decide +kernel
theorem dL_law_203 : decode cL_law 203 = .ok (.iconst 1, 1) := by decide +kernel
theorem dL_law_204 : decode cL_law 204 = .ok (.iadd, 1) := by decide +kernel
theorem dL_law_205 : decode cL_law 205 = .ok (.iaload, 1) := by decide +kernel
theorem dL_law_206 : decode cL_law 206 = .ok (.aload_n 0, 1) := by decide +kernel
theorem dL_law_207 : decode cL_law 207 = .ok (.iload_n 3, 1) := by decide +kernel
theorem dL_law_208 : decode cL_law 208 = .ok (.iconst 2, 1) := by decide +kernel
theorem dL_law_209 : decode cL_law 209 = .ok (.iadd, 1) := by decide +kernel
theorem dL_law_210 : decode cL_law 210 = .ok (.iaload, 1) := by decide +kernel
theorem dL_law_211 : decode cL_law 211 = .ok (.aload_n 0, 1) := by decide +kernel
theorem dL_law_212 : decode cL_law 212 = .ok (.iload_n 3, 1) := by decide +kernel
theorem dL_law_213 : decode cL_law 213 = .ok (.iconst 3, 1) := by decide +kernel
theorem dL_law_214 : decode cL_law 214 = .ok (.iadd, 1) := by decide +kernel
theorem dL_law_215 : decode cL_law 215 = .ok (.iaload, 1) := by decide +kernel
theorem dL_law_216 : decode cL_law 216 = .ok (.invokevirtual 23, 3) := by decide +kernel
theorem dL_law_219 : decode cL_law 219 = .ok (.aload_n 2, 1) := by decide +kernel
theorem dL_law_220 : decode cL_law 220 = .ok (.aload_n 0, 1) := by decide +kernel
theorem dL_law_221 : decode cL_law 221 = .ok (.iload_n 3, 1) := by decide +kernel
theorem dL_law_222 : decode cL_law 222 = .ok (.iconst 1, 1) := by decide +kernel
theorem dL_law_223 : decode cL_law 223 = .ok (.iadd, 1) := by decide +kernel
theorem dL_law_224 : decode cL_law 224 = .ok (.iaload, 1) := by decide +kernel
theorem dL_law_225 : decode cL_law 225 = .ok (.aload_n 0, 1) := by decide +kernel
theorem dL_law_226 : decode cL_law 226 = .ok (.iload_n 3, 1) := by decide +kernel
theorem dL_law_227 : decode cL_law 227 = .ok (.iconst 2, 1) := by decide +kernel
theorem dL_law_228 : decode cL_law 228 = .ok (.iadd, 1) := by decide +kernel
theorem dL_law_229 : decode cL_law 229 = .ok (.iaload, 1) := by decide +kernel
theorem dL_law_230 : decode cL_law 230 = .ok (.aload_n 0, 1) := by decide +kernel
theorem dL_law_231 : decode cL_law 231 = .ok (.iload_n 3, 1) := by decide +kernel
theorem dL_law_232 : decode cL_law 232 = .ok (.iconst 3, 1) := by decide +kernel
theorem dL_law_233 : decode cL_law 233 = .ok (.iadd, 1) := by decide +kernel
theorem dL_law_234 : decode cL_law 234 = .ok (.iaload, 1) := by decide +kernel
theorem dL_law_235 : decode cL_law 235 = .ok (.invokevirtual 26, 3) := by decide +kernel
theorem dL_law_238 : decode cL_law 238 = .ok (.if_icmp .eq 628, 3) := by decide +kernel
theorem dL_law_241 : decode cL_law 241 = .ok (.iconst 0, 1) := by decide +kernel
theorem dL_law_242 : decode cL_law 242 = .ok (.ireturn, 1) := by decide +kernel
theorem dL_law_243 : decode cL_law 243 = .ok (.aload_n 1, 1) := by decide +kernel
theorem dL_law_244 : decode cL_law 244 = .ok (.aload_n 0, 1) := by decide +kernel
theorem dL_law_245 : decode cL_law 245 = .ok (.iload_n 3, 1) := by decide +kernel
theorem dL_law_246 : decode cL_law 246 = .ok (.iconst 1, 1) := by decide +kernel
theorem dL_law_247 : decode cL_law 247 = .ok (.iadd, 1) := by decide +kernel
theorem dL_law_248 : decode cL_law 248 = .ok (.iaload, 1) := by decide +kernel
theorem dL_law_249 : decode cL_law 249 = .ok (.aload_n 0, 1) := by decide +kernel
theorem dL_law_250 : decode cL_law 250 = .ok (.iload_n 3, 1) := by decide +kernel
theorem dL_law_251 : decode cL_law 251 = .ok (.iconst 2, 1) := by decide +kernel
theorem dL_law_252 : decode cL_law 252 = .ok (.iadd, 1) := by decide +kernel
theorem dL_law_253 : decode cL_law 253 = .ok (.iaload, 1) := by decide +kernel
theorem dL_law_254 : decode cL_law 254 = .ok (.invokevirtual 27, 3) := by decide +kernel
theorem dL_law_257 : decode cL_law 257 = .ok (.aload_n 2, 1) := by decide +kernel
theorem dL_law_258 : decode cL_law 258 = .ok (.aload_n 0, 1) := by decide +kernel
theorem dL_law_259 : decode cL_law 259 = .ok (.iload_n 3, 1) := by decide +kernel
theorem dL_law_260 : decode cL_law 260 = .ok (.iconst 1, 1) := by decide +kernel
theorem dL_law_261 : decode cL_law 261 = .ok (.iadd, 1) := by decide +kernel
theorem dL_law_262 : decode cL_law 262 = .ok (.iaload, 1) := by decide +kernel
theorem dL_law_263 : decode cL_law 263 = .ok (.aload_n 0, 1) := by decide +kernel
theorem dL_law_264 : decode cL_law 264 = .ok (.iload_n 3, 1) := by decide +kernel
theorem dL_law_265 : decode cL_law 265 = .ok (.iconst 2, 1) := by decide +kernel
theorem dL_law_266 : decode cL_law 266 = .ok (.iadd, 1) := by decide +kernel
theorem dL_law_267 : decode cL_law 267 = .ok (.iaload, 1) := by decide +kernel
theorem dL_law_268 : decode cL_law 268 = .ok (.invokevirtual 31, 3) := by decide +kernel
theorem dL_law_271 : decode cL_law 271 = .ok (.if_icmp .eq 595, 3) := by decide +kernel
theorem dL_law_274 : decode cL_law 274 = .ok (.iconst 0, 1) := by decide +kernel
theorem dL_law_275 : decode cL_law 275 = .ok (.ireturn, 1) := by decide +kernel
theorem dL_law_276 : decode cL_law 276 = .ok (.aload_n 1, 1) := by decide +kernel
theorem dL_law_277 : decode cL_law 277 = .ok (.aload_n 0, 1) := by decide +kernel
theorem dL_law_278 : decode cL_law 278 = .ok (.iload_n 3, 1) := by decide +kernel
theorem dL_law_279 : decode cL_law 279 = .ok (.iconst 1, 1) := by decide +kernel
theorem dL_law_280 : decode cL_law 280 = .ok (.iadd, 1) := by decide +kernel
theorem dL_law_281 : decode cL_law 281 = .ok (.iaload, 1) := by decide +kernel
theorem dL_law_282 : decode cL_law 282 = .ok (.aload_n 0, 1) := by decide +kernel
theorem dL_law_283 : decode cL_law 283 = .ok (.iload_n 3, 1) := by decide +kernel
theorem dL_law_284 : decode cL_law 284 = .ok (.iconst 2, 1) := by decide +kernel
theorem dL_law_285 : decode cL_law 285 = .ok (.iadd, 1) := by decide +kernel
theorem dL_law_286 : decode cL_law 286 = .ok (.iaload, 1) := by decide +kernel
theorem dL_law_287 : decode cL_law 287 = .ok (.invokevirtual 32, 3) := by decide +kernel
theorem dL_law_290 : decode cL_law 290 = .ok (.aload_n 2, 1) := by decide +kernel
theorem dL_law_291 : decode cL_law 291 = .ok (.aload_n 0, 1) := by decide +kernel
theorem dL_law_292 : decode cL_law 292 = .ok (.iload_n 3, 1) := by decide +kernel
theorem dL_law_293 : decode cL_law 293 = .ok (.iconst 1, 1) := by decide +kernel
theorem dL_law_294 : decode cL_law 294 = .ok (.iadd, 1) := by decide +kernel
theorem dL_law_295 : decode cL_law 295 = .ok (.iaload, 1) := by decide +kernel
theorem dL_law_296 : decode cL_law 296 = .ok (.aload_n 0, 1) := by decide +kernel
theorem dL_law_297 : decode cL_law 297 = .ok (.iload_n 3, 1) := by decide +kernel
theorem dL_law_298 : decode cL_law 298 = .ok (.iconst 2, 1) := by decide +kernel
theorem dL_law_299 : decode cL_law 299 = .ok (.iadd, 1) := by decide +kernel
theorem dL_law_300 : decode cL_law 300 = .ok (.iaload, 1) := by decide +kernel
theorem dL_law_301 : decode cL_law 301 = .ok (.invokevirtual 35, 3) := by decide +kernel
theorem dL_law_304 : decode cL_law 304 = .ok (.if_icmp .eq 562, 3) := by decide +kernel
theorem dL_law_307 : decode cL_law 307 = .ok (.iconst 0, 1) := by decide +kernel
theorem dL_law_308 : decode cL_law 308 = .ok (.ireturn, 1) := by decide +kernel
theorem dL_law_309 : decode cL_law 309 = .ok (.aload_n 1, 1) := by decide +kernel
theorem dL_law_310 : decode cL_law 310 = .ok (.aload_n 0, 1) := by decide +kernel
theorem dL_law_311 : decode cL_law 311 = .ok (.iload_n 3, 1) := by decide +kernel
theorem dL_law_312 : decode cL_law 312 = .ok (.iconst 1, 1) := by decide +kernel
theorem dL_law_313 : decode cL_law 313 = .ok (.iadd, 1) := by decide +kernel
theorem dL_law_314 : decode cL_law 314 = .ok (.iaload, 1) := by decide +kernel
theorem dL_law_315 : decode cL_law 315 = .ok (.invokevirtual 36, 3) := by decide +kernel
theorem dL_law_318 : decode cL_law 318 = .ok (.aload_n 2, 1) := by decide +kernel
theorem dL_law_319 : decode cL_law 319 = .ok (.aload_n 0, 1) := by decide +kernel
theorem dL_law_320 : decode cL_law 320 = .ok (.iload_n 3, 1) := by decide +kernel
theorem dL_law_321 : decode cL_law 321 = .ok (.iconst 1, 1) := by decide +kernel
theorem dL_law_322 : decode cL_law 322 = .ok (.iadd, 1) := by decide +kernel
theorem dL_law_323 : decode cL_law 323 = .ok (.iaload, 1) := by decide +kernel
theorem dL_law_324 : decode cL_law 324 = .ok (.invokevirtual 40, 3) := by decide +kernel
theorem dL_law_327 : decode cL_law 327 = .ok (.if_icmp .eq 539, 3) := by decide +kernel
theorem dL_law_330 : decode cL_law 330 = .ok (.iconst 0, 1) := by decide +kernel
theorem dL_law_331 : decode cL_law 331 = .ok (.ireturn, 1) := by decide +kernel
theorem dL_law_332 : decode cL_law 332 = .ok (.aload_n 1, 1) := by decide +kernel
theorem dL_law_333 : decode cL_law 333 = .ok (.aload_n 0, 1) := by decide +kernel
theorem dL_law_334 : decode cL_law 334 = .ok (.iload_n 3, 1) := by decide +kernel
theorem dL_law_335 : decode cL_law 335 = .ok (.iconst 1, 1) := by decide +kernel
theorem dL_law_336 : decode cL_law 336 = .ok (.iadd, 1) := by decide +kernel
theorem dL_law_337 : decode cL_law 337 = .ok (.iaload, 1) := by decide +kernel
