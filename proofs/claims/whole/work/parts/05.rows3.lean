theorem dX4_rule_33 : decode cX4_rule 33 = .ok (.aload_n 0, 1) := by decide +kernel
theorem dX4_rule_34 : decode cX4_rule 34 = .ok (.getfield 10, 3) := by decide +kernel
theorem dX4_rule_37 : decode cX4_rule 37 = .ok (.iload_n 1, 1) := by decide +kernel
theorem dX4_rule_38 : decode cX4_rule 38 = .ok (.putfield 65, 3) := by decide +kernel
theorem dX4_rule_41 : decode cX4_rule 41 = .ok (.iload_n 2, 1) := by decide +kernel
theorem dX4_rule_42 : decode cX4_rule 42 = .ok (.ireturn, 1) := by decide +kernel
set_option maxRecDepth 20000 in
theorem ggX4_about_X0_hasList : GoodIn wsX4_about wsX0_hasList := goodIn_r _ [10, 11, 12, 13, 14, 18, 19, 20, 21, 22, 23, 24, 25, 26, 27, 28, 29, 30] (by decide +kernel) (by decide +kernel)
set_option maxRecDepth 20000 in
theorem gX4_about_X0_hasList : GoodIn wsX4_about (wsV RX4 51 RX0 yX0_hasList wsX0_hasList) := goodIn_app (goodIn_of _ (by decide +kernel)) ggX4_about_X0_hasList
theorem dX4_about_0 : decode cX4_about 0 = .ok (.aload_n 0, 1) := by decide +kernel
theorem dX4_about_1 : decode cX4_about 1 = .ok (.getfield 10, 3) := by decide +kernel
theorem dX4_about_4 : decode cX4_about 4 = .ok (.iload_n 1, 1) := by decide +kernel
theorem dX4_about_5 : decode cX4_about 5 = .ok (.invokevirtual 51, 3) := by decide +kernel
theorem dX4_about_8 : decode cX4_about 8 = .ok (.ifCond .ne 5, 3) := by decide +kernel
theorem dX4_about_11 : decode cX4_about 11 = .ok (.iconst (-1), 1) := by decide +kernel
theorem dX4_about_12 : decode cX4_about 12 = .ok (.ireturn, 1) := by decide +kernel
theorem dX4_about_13 : decode cX4_about 13 = .ok (.iload_n 2, 1) := by decide +kernel
theorem dX4_about_14 : decode cX4_about 14 = .ok (.tableswitch 70 0 3 #[30, 40, 50, 60], 30) := by decide +kernel
theorem dX4_about_44 : decode cX4_about 44 = .ok (.aload_n 0, 1) := by decide +kernel
theorem dX4_about_45 : decode cX4_about 45 = .ok (.getfield 10, 3) := by decide +kernel
theorem dX4_about_48 : decode cX4_about 48 = .ok (.getfield 61, 3) := by decide +kernel
theorem dX4_about_51 : decode cX4_about 51 = .ok (.iload_n 1, 1) := by decide +kernel
theorem dX4_about_52 : decode cX4_about 52 = .ok (.iaload, 1) := by decide +kernel
theorem dX4_about_53 : decode cX4_about 53 = .ok (.ireturn, 1) := by decide +kernel
theorem dX4_about_54 : decode cX4_about 54 = .ok (.aload_n 0, 1) := by decide +kernel
theorem dX4_about_55 : decode cX4_about 55 = .ok (.getfield 10, 3) := by decide +kernel
theorem dX4_about_58 : decode cX4_about 58 = .ok (.getfield 68, 3) := by decide +kernel
theorem dX4_about_61 : decode cX4_about 61 = .ok (.iload_n 1, 1) := by decide +kernel
theorem dX4_about_62 : decode cX4_about 62 = .ok (.iaload, 1) := by decide +kernel
theorem dX4_about_63 : decode cX4_about 63 = .ok (.ireturn, 1) := by decide +kernel
theorem dX4_about_64 : decode cX4_about 64 = .ok (.aload_n 0, 1) := by decide +kernel
theorem dX4_about_65 : decode cX4_about 65 = .ok (.getfield 10, 3) := by decide +kernel
theorem dX4_about_68 : decode cX4_about 68 = .ok (.getfield 71, 3) := by decide +kernel
theorem dX4_about_71 : decode cX4_about 71 = .ok (.iload_n 1, 1) := by decide +kernel
theorem dX4_about_72 : decode cX4_about 72 = .ok (.iaload, 1) := by decide +kernel
theorem dX4_about_73 : decode cX4_about 73 = .ok (.ireturn, 1) := by decide +kernel
theorem dX4_about_74 : decode cX4_about 74 = .ok (.aload_n 0, 1) := by decide +kernel
theorem dX4_about_75 : decode cX4_about 75 = .ok (.getfield 10, 3) := by decide +kernel
theorem dX4_about_78 : decode cX4_about 78 = .ok (.getfield 74, 3) := by decide +kernel
theorem dX4_about_81 : decode cX4_about 81 = .ok (.iload_n 1, 1) := by decide +kernel
theorem dX4_about_82 : decode cX4_about 82 = .ok (.iaload, 1) := by decide +kernel
theorem dX4_about_83 : decode cX4_about 83 = .ok (.ireturn, 1) := by decide +kernel
theorem dX4_about_84 : decode cX4_about 84 = .ok (.iconst (-1), 1) := by decide +kernel
theorem dX4_about_85 : decode cX4_about 85 = .ok (.ireturn, 1) := by decide +kernel
set_option maxRecDepth 20000 in
theorem ggX4_row_X0_hasList : GoodIn wsX4_row wsX0_hasList := goodIn_r _ [8, 9, 10, 11, 12, 17, 18, 19, 20, 21, 22, 23, 24, 25, 26, 27, 28, 29] (by decide +kernel) (by decide +kernel)
set_option maxRecDepth 20000 in
theorem gX4_row_X0_hasList : GoodIn wsX4_row (wsV RX4 51 RX0 yX0_hasList wsX0_hasList) := goodIn_app (goodIn_of _ (by decide +kernel)) ggX4_row_X0_hasList
set_option maxRecDepth 20000 in
theorem ggX4_row_X4_within : GoodIn wsX4_row wsX4_within := goodIn_r _ [12] (by decide +kernel) (by decide +kernel)
set_option maxRecDepth 20000 in
theorem gX4_row_X4_within : GoodIn wsX4_row (va_wsS RX4 40 yX4_within wsX4_within) := goodIn_app (goodIn_of _ (by decide +kernel)) ggX4_row_X4_within
theorem dX4_row_0 : decode cX4_row 0 = .ok (.aload_n 0, 1) := by decide +kernel
theorem dX4_row_1 : decode cX4_row 1 = .ok (.getfield 10, 3) := by decide +kernel
theorem dX4_row_4 : decode cX4_row 4 = .ok (.iload_n 1, 1) := by decide +kernel
theorem dX4_row_5 : decode cX4_row 5 = .ok (.invokevirtual 51, 3) := by decide +kernel
theorem dX4_row_8 : decode cX4_row 8 = .ok (.ifCond .eq 22, 3) := by decide +kernel
theorem dX4_row_11 : decode cX4_row 11 = .ok (.iload_n 2, 1) := by decide +kernel
theorem dX4_row_12 : decode cX4_row 12 = .ok (.iconst 0, 1) := by decide +kernel
theorem dX4_row_13 : decode cX4_row 13 = .ok (.aload_n 0, 1) := by decide +kernel
theorem dX4_row_14 : decode cX4_row 14 = .ok (.getfield 10, 3) := by decide +kernel
theorem dX4_row_17 : decode cX4_row 17 = .ok (.getfield 74, 3) := by decide +kernel
theorem dX4_row_20 : decode cX4_row 20 = .ok (.iload_n 1, 1) := by decide +kernel
theorem dX4_row_21 : decode cX4_row 21 = .ok (.iaload, 1) := by decide +kernel
theorem dX4_row_22 : decode cX4_row 22 = .ok (.iconst 1, 1) := by decide +kernel
theorem dX4_row_23 : decode cX4_row 23 = .ok (.isub, 1) := by decide +kernel
theorem dX4_row_24 : decode cX4_row 24 = .ok (.invokestatic 40, 3) := by decide +kernel
theorem dX4_row_27 : decode cX4_row 27 = .ok (.ifCond .ne 5, 3) := by decide +kernel
theorem dX4_row_30 : decode cX4_row 30 = .ok (.iconst (-1), 1) := by decide +kernel
theorem dX4_row_31 : decode cX4_row 31 = .ok (.ireturn, 1) := by decide +kernel
theorem dX4_row_32 : decode cX4_row 32 = .ok (.aload_n 0, 1) := by decide +kernel
theorem dX4_row_33 : decode cX4_row 33 = .ok (.getfield 10, 3) := by decide +kernel
theorem dX4_row_36 : decode cX4_row 36 = .ok (.getfield 77, 3) := by decide +kernel
theorem dX4_row_39 : decode cX4_row 39 = .ok (.iload_n 1, 1) := by decide +kernel
theorem dX4_row_40 : decode cX4_row 40 = .ok (.aaload, 1) := by decide +kernel
theorem dX4_row_41 : decode cX4_row 41 = .ok (.iload_n 2, 1) := by decide +kernel
theorem dX4_row_42 : decode cX4_row 42 = .ok (.iaload, 1) := by decide +kernel
theorem dX4_row_43 : decode cX4_row 43 = .ok (.ireturn, 1) := by decide +kernel
set_option maxRecDepth 20000 in
theorem ggX4_place_X0_hasList : GoodIn wsX4_place wsX0_hasList := goodIn_r _ [8, 9, 10, 11, 12, 22, 23, 24, 25, 26, 27, 28, 29, 30, 31, 32, 33, 34] (by decide +kernel) (by decide +kernel)
set_option maxRecDepth 20000 in
theorem gX4_place_X0_hasList : GoodIn wsX4_place (wsV RX4 51 RX0 yX0_hasList wsX0_hasList) := goodIn_app (goodIn_of _ (by decide +kernel)) ggX4_place_X0_hasList
set_option maxRecDepth 20000 in
theorem ggX4_place_X0_hasThing : GoodIn wsX4_place wsX0_hasThing := goodIn_r _ [16, 17, 10, 11, 12, 22, 23, 24, 25, 26, 27, 28, 29, 30, 31, 32, 33, 34] (by decide +kernel) (by decide +kernel)
set_option maxRecDepth 20000 in
theorem gX4_place_X0_hasThing : GoodIn wsX4_place (wsV RX4 55 RX0 yX0_hasThing wsX0_hasThing) := goodIn_app (goodIn_of _ (by decide +kernel)) ggX4_place_X0_hasThing
set_option maxRecDepth 20000 in
theorem ggX4_place_X4_within : GoodIn wsX4_place wsX4_within := goodIn_r _ [12] (by decide +kernel) (by decide +kernel)
set_option maxRecDepth 20000 in
theorem gX4_place_X4_within : GoodIn wsX4_place (va_wsS RX4 40 yX4_within wsX4_within) := goodIn_app (goodIn_of _ (by decide +kernel)) ggX4_place_X4_within
theorem dX4_place_0 : decode cX4_place 0 = .ok (.aload_n 0, 1) := by decide +kernel
theorem dX4_place_1 : decode cX4_place 1 = .ok (.getfield 10, 3) := by decide +kernel
theorem dX4_place_4 : decode cX4_place 4 = .ok (.iload_n 1, 1) := by decide +kernel
theorem dX4_place_5 : decode cX4_place 5 = .ok (.invokevirtual 51, 3) := by decide +kernel
theorem dX4_place_8 : decode cX4_place 8 = .ok (.ifCond .eq 23, 3) := by decide +kernel
theorem dX4_place_11 : decode cX4_place 11 = .ok (.aload_n 0, 1) := by decide +kernel
theorem dX4_place_12 : decode cX4_place 12 = .ok (.getfield 10, 3) := by decide +kernel
theorem dX4_place_15 : decode cX4_place 15 = .ok (.iload_n 2, 1) := by decide +kernel
theorem dX4_place_16 : decode cX4_place 16 = .ok (.invokevirtual 55, 3) := by decide +kernel
theorem dX4_place_19 : decode cX4_place 19 = .ok (.ifCond .eq 12, 3) := by decide +kernel
theorem dX4_place_22 : decode cX4_place 22 = .ok (.iload_n 3, 1) := by decide +kernel
theorem dX4_place_23 : decode cX4_place 23 = .ok (.iconst 0, 1) := by decide +kernel
theorem dX4_place_24 : decode cX4_place 24 = .ok (.iconst 1, 1) := by decide +kernel
theorem dX4_place_25 : decode cX4_place 25 = .ok (.invokestatic 40, 3) := by decide +kernel
theorem dX4_place_28 : decode cX4_place 28 = .ok (.ifCond .ne 5, 3) := by decide +kernel
theorem dX4_place_31 : decode cX4_place 31 = .ok (.iconst (-1), 1) := by decide +kernel
theorem dX4_place_32 : decode cX4_place 32 = .ok (.ireturn, 1) := by decide +kernel
theorem dX4_place_33 : decode cX4_place 33 = .ok (.aload_n 0, 1) := by decide +kernel
theorem dX4_place_34 : decode cX4_place 34 = .ok (.getfield 10, 3) := by decide +kernel
theorem dX4_place_37 : decode cX4_place 37 = .ok (.getfield 81, 3) := by decide +kernel
theorem dX4_place_40 : decode cX4_place 40 = .ok (.iload_n 1, 1) := by decide +kernel
theorem dX4_place_41 : decode cX4_place 41 = .ok (.aaload, 1) := by decide +kernel
theorem dX4_place_42 : decode cX4_place 42 = .ok (.iload_n 2, 1) := by decide +kernel
theorem dX4_place_43 : decode cX4_place 43 = .ok (.iaload, 1) := by decide +kernel
theorem dX4_place_44 : decode cX4_place 44 = .ok (.ifCond .ne 5, 3) := by decide +kernel
theorem dX4_place_47 : decode cX4_place 47 = .ok (.iconst (-1), 1) := by decide +kernel
theorem dX4_place_48 : decode cX4_place 48 = .ok (.ireturn, 1) := by decide +kernel
theorem dX4_place_49 : decode cX4_place 49 = .ok (.iload_n 3, 1) := by decide +kernel
theorem dX4_place_50 : decode cX4_place 50 = .ok (.ifCond .ne 17, 3) := by decide +kernel
theorem dX4_place_53 : decode cX4_place 53 = .ok (.aload_n 0, 1) := by decide +kernel
theorem dX4_place_54 : decode cX4_place 54 = .ok (.getfield 10, 3) := by decide +kernel
theorem dX4_place_57 : decode cX4_place 57 = .ok (.getfield 84, 3) := by decide +kernel
theorem dX4_place_60 : decode cX4_place 60 = .ok (.iload_n 1, 1) := by decide +kernel
theorem dX4_place_61 : decode cX4_place 61 = .ok (.aaload, 1) := by decide +kernel
theorem dX4_place_62 : decode cX4_place 62 = .ok (.iload_n 2, 1) := by decide +kernel
theorem dX4_place_63 : decode cX4_place 63 = .ok (.iaload, 1) := by decide +kernel
theorem dX4_place_64 : decode cX4_place 64 = .ok (.goto 14, 3) := by decide +kernel
theorem dX4_place_67 : decode cX4_place 67 = .ok (.aload_n 0, 1) := by decide +kernel
theorem dX4_place_68 : decode cX4_place 68 = .ok (.getfield 10, 3) := by decide +kernel
theorem dX4_place_71 : decode cX4_place 71 = .ok (.getfield 81, 3) := by decide +kernel
theorem dX4_place_74 : decode cX4_place 74 = .ok (.iload_n 1, 1) := by decide +kernel
theorem dX4_place_75 : decode cX4_place 75 = .ok (.aaload, 1) := by decide +kernel
theorem dX4_place_76 : decode cX4_place 76 = .ok (.iload_n 2, 1) := by decide +kernel
theorem dX4_place_77 : decode cX4_place 77 = .ok (.iaload, 1) := by decide +kernel
theorem dX4_place_78 : decode cX4_place 78 = .ok (.ireturn, 1) := by decide +kernel
set_option maxRecDepth 20000 in
theorem ggX4_total_X0_hasThing : GoodIn wsX4_total wsX0_hasThing := goodIn_r _ [6, 7, 8, 9, 10, 34, 35, 36, 37, 38, 39, 40, 41, 42, 43, 44, 45, 46] (by decide +kernel) (by decide +kernel)
set_option maxRecDepth 20000 in
theorem gX4_total_X0_hasThing : GoodIn wsX4_total (wsV RX4 55 RX0 yX0_hasThing wsX0_hasThing) := goodIn_app (goodIn_of _ (by decide +kernel)) ggX4_total_X0_hasThing
set_option maxRecDepth 20000 in
theorem ggX4_total_X0_totalOf : GoodIn wsX4_total wsX0_totalOf := goodIn_r _ [14, 15, 16, 17, 18, 19, 20, 5, 21, 22, 23, 24, 25, 26, 27, 28, 29, 30, 34, 35, 36, 37, 38, 39, 40, 41, 42, 43, 44, 45, 46] (by decide +kernel) (by decide +kernel)
set_option maxRecDepth 20000 in
theorem gX4_total_X0_totalOf : GoodIn wsX4_total (wsV RX4 87 RX0 yX0_totalOf wsX0_totalOf) := goodIn_app (goodIn_of _ (by decide +kernel)) ggX4_total_X0_totalOf
theorem dX4_total_0 : decode cX4_total 0 = .ok (.aload_n 0, 1) := by decide +kernel
theorem dX4_total_1 : decode cX4_total 1 = .ok (.getfield 10, 3) := by decide +kernel
theorem dX4_total_4 : decode cX4_total 4 = .ok (.iload_n 1, 1) := by decide +kernel
theorem dX4_total_5 : decode cX4_total 5 = .ok (.invokevirtual 55, 3) := by decide +kernel
theorem dX4_total_8 : decode cX4_total 8 = .ok (.ifCond .eq 14, 3) := by decide +kernel
theorem dX4_total_11 : decode cX4_total 11 = .ok (.aload_n 0, 1) := by decide +kernel
theorem dX4_total_12 : decode cX4_total 12 = .ok (.getfield 10, 3) := by decide +kernel
theorem dX4_total_15 : decode cX4_total 15 = .ok (.iload_n 1, 1) := by decide +kernel
theorem dX4_total_16 : decode cX4_total 16 = .ok (.invokevirtual 87, 3) := by decide +kernel
theorem dX4_total_19 : decode cX4_total 19 = .ok (.goto 4, 3) := by decide +kernel
theorem dX4_total_22 : decode cX4_total 22 = .ok (.iconst (-1), 1) := by decide +kernel
theorem dX4_total_23 : decode cX4_total 23 = .ok (.ireturn, 1) := by decide +kernel
set_option maxRecDepth 20000 in
theorem ggX4_best_X0_hasThing : GoodIn wsX4_best wsX0_hasThing := goodIn_r _ [6, 7, 8, 9, 10, 45, 46, 47, 48, 49, 50, 51, 52, 53, 54, 55, 56, 57] (by decide +kernel) (by decide +kernel)
set_option maxRecDepth 20000 in
theorem gX4_best_X0_hasThing : GoodIn wsX4_best (wsV RX4 55 RX0 yX0_hasThing wsX0_hasThing) := goodIn_app (goodIn_of _ (by decide +kernel)) ggX4_best_X0_hasThing
set_option maxRecDepth 20000 in
theorem ggX4_best_X0_bestAt : GoodIn wsX4_best wsX0_bestAt := goodIn_r _ [14, 7, 15, 16, 17, 18, 5, 19, 20, 21, 22, 23, 24, 25, 26, 27, 28, 29, 30, 31, 32, 33, 34, 35, 36, 37, 38, 39, 40, 9, 41, 45, 46, 47, 48, 49, 50, 51, 52, 53, 54, 55, 56, 57] (by decide +kernel) (by decide +kernel)
set_option maxRecDepth 20000 in
theorem gX4_best_X0_bestAt : GoodIn wsX4_best (wsV RX4 91 RX0 yX0_bestAt wsX0_bestAt) := goodIn_app (goodIn_of _ (by decide +kernel)) ggX4_best_X0_bestAt
theorem dX4_best_0 : decode cX4_best 0 = .ok (.aload_n 0, 1) := by decide +kernel
theorem dX4_best_1 : decode cX4_best 1 = .ok (.getfield 10, 3) := by decide +kernel
theorem dX4_best_4 : decode cX4_best 4 = .ok (.iload_n 1, 1) := by decide +kernel
theorem dX4_best_5 : decode cX4_best 5 = .ok (.invokevirtual 55, 3) := by decide +kernel
theorem dX4_best_8 : decode cX4_best 8 = .ok (.ifCond .eq 14, 3) := by decide +kernel
theorem dX4_best_11 : decode cX4_best 11 = .ok (.aload_n 0, 1) := by decide +kernel
theorem dX4_best_12 : decode cX4_best 12 = .ok (.getfield 10, 3) := by decide +kernel
theorem dX4_best_15 : decode cX4_best 15 = .ok (.iload_n 1, 1) := by decide +kernel
theorem dX4_best_16 : decode cX4_best 16 = .ok (.invokevirtual 91, 3) := by decide +kernel
theorem dX4_best_19 : decode cX4_best 19 = .ok (.goto 4, 3) := by decide +kernel
theorem dX4_best_22 : decode cX4_best 22 = .ok (.iconst (-1), 1) := by decide +kernel
theorem dX4_best_23 : decode cX4_best 23 = .ok (.ireturn, 1) := by decide +kernel
set_option maxRecDepth 20000 in
theorem ggX4_begin_X0_mayAskFor : GoodIn wsX4_begin wsX0_mayAskFor := goodIn_r _ [8, 9, 10, 11, 12, 118, 119, 120, 121, 122, 123, 124, 125, 126, 127, 128, 129, 130] (by decide +kernel) (by decide +kernel)
set_option maxRecDepth 20000 in
theorem gX4_begin_X0_mayAskFor : GoodIn wsX4_begin (wsV RX4 94 RX0 yX0_mayAskFor wsX0_mayAskFor) := goodIn_app (goodIn_of _ (by decide +kernel)) ggX4_begin_X0_mayAskFor
set_option maxRecDepth 20000 in
theorem ggX4_begin_X4_within : GoodIn wsX4_begin wsX4_within := goodIn_r _ [12] (by decide +kernel) (by decide +kernel)
set_option maxRecDepth 20000 in
theorem gX4_begin_X4_within : GoodIn wsX4_begin (va_wsS RX4 40 yX4_within wsX4_within) := goodIn_app (goodIn_of _ (by decide +kernel)) ggX4_begin_X4_within
set_option maxRecDepth 20000 in
theorem ggX4_begin_X1_start : GoodIn wsX4_begin wsX1_start := goodIn_r _ [18, 19, 20, 21, 22, 23, 24, 25, 26, 27, 28, 29, 30, 31, 32, 33, 34, 35, 36, 37, 38, 39, 40, 41, 42, 43, 44, 45, 46, 47, 48, 49, 50, 51, 52, 53, 54, 55, 56, 57, 58, 59, 60, 61, 62, 63, 64, 65, 7, 66, 67, 68, 69, 70, 71, 72, 73, 74, 75, 76, 77, 78, 79, 80, 81, 82, 83, 84, 85, 86, 87, 88, 89, 90, 91, 92, 93, 94, 95, 96, 97, 98, 99, 100, 11, 101, 108, 109, 110, 111, 112, 113, 114, 115, 116, 117, 131, 132, 133, 134, 135, 136, 118, 119, 120, 121, 122, 123, 124, 125, 126, 127, 128, 129, 130] (by decide +kernel) (by decide +kernel)
set_option maxRecDepth 20000 in
theorem gX4_begin_X1_start : GoodIn wsX4_begin (wsV RX4 97 RX1 yX1_start wsX1_start) := goodIn_app (goodIn_of _ (by decide +kernel)) ggX4_begin_X1_start
set_option maxRecDepth 20000 in
theorem ggX4_begin_X4_yes : GoodIn wsX4_begin wsX4_yes := goodIn_r _ [104] (by decide +kernel) (by decide +kernel)
set_option maxRecDepth 20000 in
theorem gX4_begin_X4_yes : GoodIn wsX4_begin (va_wsS RX4 104 yX4_yes wsX4_yes) := goodIn_app (goodIn_of _ (by decide +kernel)) ggX4_begin_X4_yes
theorem dX4_begin_0 : decode cX4_begin 0 = .ok (.aload_n 0, 1) := by decide +kernel
theorem dX4_begin_1 : decode cX4_begin 1 = .ok (.getfield 10, 3) := by decide +kernel
theorem dX4_begin_4 : decode cX4_begin 4 = .ok (.iload_n 2, 1) := by decide +kernel
theorem dX4_begin_5 : decode cX4_begin 5 = .ok (.invokevirtual 94, 3) := by decide +kernel
theorem dX4_begin_8 : decode cX4_begin 8 = .ok (.ifCond .eq 12, 3) := by decide +kernel
theorem dX4_begin_11 : decode cX4_begin 11 = .ok (.iload_n 1, 1) := by decide +kernel
theorem dX4_begin_12 : decode cX4_begin 12 = .ok (.iconst 0, 1) := by decide +kernel
theorem dX4_begin_13 : decode cX4_begin 13 = .ok (.iconst 2, 1) := by decide +kernel
theorem dX4_begin_14 : decode cX4_begin 14 = .ok (.invokestatic 40, 3) := by decide +kernel
theorem dX4_begin_17 : decode cX4_begin 17 = .ok (.ifCond .ne 6, 3) := by decide +kernel
theorem dX4_begin_20 : decode cX4_begin 20 = .ok (.bipush (-2), 2) := by decide +kernel
theorem dX4_begin_22 : decode cX4_begin 22 = .ok (.ireturn, 1) := by decide +kernel
theorem dX4_begin_23 : decode cX4_begin 23 = .ok (.iload_n 1, 1) := by decide +kernel
theorem dX4_begin_24 : decode cX4_begin 24 = .ok (.iconst 2, 1) := by decide +kernel
theorem dX4_begin_25 : decode cX4_begin 25 = .ok (.if_icmp .ne 16, 3) := by decide +kernel
theorem dX4_begin_28 : decode cX4_begin 28 = .ok (.iload_n 3, 1) := by decide +kernel
theorem dX4_begin_29 : decode cX4_begin 29 = .ok (.iconst 1, 1) := by decide +kernel
theorem dX4_begin_30 : decode cX4_begin 30 = .ok (.bipush 10, 2) := by decide +kernel
theorem dX4_begin_32 : decode cX4_begin 32 = .ok (.invokestatic 40, 3) := by decide +kernel
theorem dX4_begin_35 : decode cX4_begin 35 = .ok (.ifCond .ne 13, 3) := by decide +kernel
theorem dX4_begin_38 : decode cX4_begin 38 = .ok (.goto 7, 3) := by decide +kernel
theorem dX4_begin_41 : decode cX4_begin 41 = .ok (.iload_n 3, 1) := by decide +kernel
theorem dX4_begin_42 : decode cX4_begin 42 = .ok (.ifCond .eq 6, 3) := by decide +kernel
theorem dX4_begin_45 : decode cX4_begin 45 = .ok (.bipush (-2), 2) := by decide +kernel
theorem dX4_begin_47 : decode cX4_begin 47 = .ok (.ireturn, 1) := by decide +kernel
theorem dX4_begin_48 : decode cX4_begin 48 = .ok (.aload_n 0, 1) := by decide +kernel
theorem dX4_begin_49 : decode cX4_begin 49 = .ok (.getfield 21, 3) := by decide +kernel
theorem dX4_begin_52 : decode cX4_begin 52 = .ok (.iload_n 1, 1) := by decide +kernel
theorem dX4_begin_53 : decode cX4_begin 53 = .ok (.iload_n 2, 1) := by decide +kernel
theorem dX4_begin_54 : decode cX4_begin 54 = .ok (.iload_n 3, 1) := by decide +kernel
theorem dX4_begin_55 : decode cX4_begin 55 = .ok (.invokevirtual 97, 3) := by decide +kernel
theorem dX4_begin_58 : decode cX4_begin 58 = .ok (.aload_n 0, 1) := by decide +kernel
theorem dX4_begin_59 : decode cX4_begin 59 = .ok (.getfield 21, 3) := by decide +kernel
theorem dX4_begin_62 : decode cX4_begin 62 = .ok (.getfield 101, 3) := by decide +kernel
theorem dX4_begin_65 : decode cX4_begin 65 = .ok (.invokestatic 104, 3) := by decide +kernel
theorem dX4_begin_68 : decode cX4_begin 68 = .ok (.ireturn, 1) := by decide +kernel
set_option maxRecDepth 20000 in
theorem ggX4_round_X1_workRound : GoodIn wsX4_round wsX1_workRound := goodIn_r _ [8, 9, 10, 11, 12, 13, 14, 15, 16, 17, 18, 19, 20, 21, 22, 23, 24, 25, 26, 7, 27, 28, 29, 30, 31, 32, 33, 34, 35, 36, 37, 38, 39, 40, 41, 42, 43, 44, 45, 46, 47, 48, 49, 50, 51, 52, 53, 54, 55, 56, 57, 58, 59, 60, 61, 62, 63, 64, 65, 66, 67, 68, 69, 70, 71, 72, 73, 74, 75, 76, 77, 78, 79, 80, 81, 82, 83, 84, 85, 86, 87, 88, 89, 90, 91, 92, 93, 94, 95, 96, 97, 98, 99, 100, 101, 102, 103, 104, 105, 106, 107, 108, 109, 110, 111, 112, 113, 114, 115, 116, 117, 118, 119, 120, 121, 122, 123, 124, 125, 126, 133, 134, 135, 136, 137, 138, 139, 140, 141, 142, 143, 144, 145, 146, 147, 148, 149, 150, 151, 152, 153, 154, 155, 156, 157, 158, 159, 160, 161] (by decide +kernel) (by decide +kernel)
set_option maxRecDepth 20000 in
theorem gX4_round_X1_workRound : GoodIn wsX4_round (wsV RX4 108 RX1 yX1_workRound wsX1_workRound) := goodIn_app (goodIn_of _ (by decide +kernel)) ggX4_round_X1_workRound
set_option maxRecDepth 20000 in
theorem ggX4_round_X4_yes : GoodIn wsX4_round wsX4_yes := goodIn_r _ [129] (by decide +kernel) (by decide +kernel)
set_option maxRecDepth 20000 in
theorem gX4_round_X4_yes : GoodIn wsX4_round (va_wsS RX4 104 yX4_yes wsX4_yes) := goodIn_app (goodIn_of _ (by decide +kernel)) ggX4_round_X4_yes
theorem dX4_round_0 : decode cX4_round 0 = .ok (.aload_n 0, 1) := by decide +kernel
theorem dX4_round_1 : decode cX4_round 1 = .ok (.getfield 21, 3) := by decide +kernel
theorem dX4_round_4 : decode cX4_round 4 = .ok (.getfield 36, 3) := by decide +kernel
theorem dX4_round_7 : decode cX4_round 7 = .ok (.ifCond .ne 5, 3) := by decide +kernel
theorem dX4_round_10 : decode cX4_round 10 = .ok (.iconst (-1), 1) := by decide +kernel
theorem dX4_round_11 : decode cX4_round 11 = .ok (.ireturn, 1) := by decide +kernel
theorem dX4_round_12 : decode cX4_round 12 = .ok (.aload_n 0, 1) := by decide +kernel
theorem dX4_round_13 : decode cX4_round 13 = .ok (.getfield 21, 3) := by decide +kernel
theorem dX4_round_16 : decode cX4_round 16 = .ok (.getfield 101, 3) := by decide +kernel
theorem dX4_round_19 : decode cX4_round 19 = .ok (.ifCond .eq 6, 3) := by decide +kernel
theorem dX4_round_22 : decode cX4_round 22 = .ok (.bipush (-3), 2) := by decide +kernel
theorem dX4_round_24 : decode cX4_round 24 = .ok (.ireturn, 1) := by decide +kernel
theorem dX4_round_25 : decode cX4_round 25 = .ok (.aload_n 0, 1) := by decide +kernel
theorem dX4_round_26 : decode cX4_round 26 = .ok (.getfield 21, 3) := by decide +kernel
theorem dX4_round_29 : decode cX4_round 29 = .ok (.invokevirtual 108, 3) := by decide +kernel
theorem dX4_round_32 : decode cX4_round 32 = .ok (.aload_n 0, 1) := by decide +kernel
theorem dX4_round_33 : decode cX4_round 33 = .ok (.getfield 21, 3) := by decide +kernel
theorem dX4_round_36 : decode cX4_round 36 = .ok (.getfield 101, 3) := by decide +kernel
theorem dX4_round_39 : decode cX4_round 39 = .ok (.invokestatic 104, 3) := by decide +kernel
theorem dX4_round_42 : decode cX4_round 42 = .ok (.ireturn, 1) := by decide +kernel
set_option maxRecDepth 20000 in
theorem ggX4_finish_X1_workRound : GoodIn wsX4_finish wsX1_workRound := goodIn_r _ [9, 10, 11, 12, 13, 14, 15, 16, 17, 18, 19, 20, 21, 22, 23, 24, 25, 26, 27, 8, 28, 29, 30, 31, 32, 33, 34, 35, 36, 37, 38, 39, 40, 41, 42, 43, 44, 45, 46, 47, 48, 49, 50, 51, 52, 53, 54, 55, 56, 57, 58, 59, 60, 61, 62, 63, 64, 65, 66, 67, 68, 69, 70, 71, 72, 73, 74, 75, 76, 77, 78, 79, 80, 81, 82, 83, 84, 85, 86, 87, 88, 89, 90, 91, 92, 93, 94, 95, 96, 97, 98, 99, 100, 101, 102, 103, 104, 105, 106, 107, 108, 109, 110, 111, 112, 113, 114, 115, 116, 117, 118, 119, 120, 121, 122, 123, 124, 125, 126, 127, 131, 132, 133, 134, 135, 136, 137, 138, 139, 140, 141, 142, 143, 144, 145, 146, 147, 148, 149, 150, 151, 152, 153, 154, 155, 156, 157, 158, 159] (by decide +kernel) (by decide +kernel)
set_option maxRecDepth 20000 in
theorem gX4_finish_X1_workRound : GoodIn wsX4_finish (wsV RX4 108 RX1 yX1_workRound wsX1_workRound) := goodIn_app (goodIn_of _ (by decide +kernel)) ggX4_finish_X1_workRound
theorem dX4_finish_0 : decode cX4_finish 0 = .ok (.aload_n 0, 1) := by decide +kernel
theorem dX4_finish_1 : decode cX4_finish 1 = .ok (.getfield 21, 3) := by decide +kernel
theorem dX4_finish_4 : decode cX4_finish 4 = .ok (.getfield 36, 3) := by decide +kernel
theorem dX4_finish_7 : decode cX4_finish 7 = .ok (.ifCond .ne 5, 3) := by decide +kernel
theorem dX4_finish_10 : decode cX4_finish 10 = .ok (.iconst (-1), 1) := by decide +kernel
theorem dX4_finish_11 : decode cX4_finish 11 = .ok (.ireturn, 1) := by decide +kernel
theorem dX4_finish_12 : decode cX4_finish 12 = .ok (.aload_n 0, 1) := by decide +kernel
theorem dX4_finish_13 : decode cX4_finish 13 = .ok (.getfield 21, 3) := by decide +kernel
theorem dX4_finish_16 : decode cX4_finish 16 = .ok (.getfield 101, 3) := by decide +kernel
theorem dX4_finish_19 : decode cX4_finish 19 = .ok (.ifCond .eq 6, 3) := by decide +kernel
theorem dX4_finish_22 : decode cX4_finish 22 = .ok (.bipush (-3), 2) := by decide +kernel
theorem dX4_finish_24 : decode cX4_finish 24 = .ok (.ireturn, 1) := by decide +kernel
theorem dX4_finish_25 : decode cX4_finish 25 = .ok (.aload_n 0, 1) := by decide +kernel
theorem dX4_finish_26 : decode cX4_finish 26 = .ok (.getfield 21, 3) := by decide +kernel
theorem dX4_finish_29 : decode cX4_finish 29 = .ok (.getfield 111, 3) := by decide +kernel
theorem dX4_finish_32 : decode cX4_finish 32 = .ok (.istore_n 1, 1) := by decide +kernel
theorem dX4_finish_33 : decode cX4_finish 33 = .ok (.iconst 0, 1) := by decide +kernel
theorem dX4_finish_34 : decode cX4_finish 34 = .ok (.istore_n 2, 1) := by decide +kernel
theorem dX4_finish_35 : decode cX4_finish 35 = .ok (.iload_n 2, 1) := by decide +kernel
theorem dX4_finish_36 : decode cX4_finish 36 = .ok (.bipush 20, 2) := by decide +kernel
theorem dX4_finish_38 : decode cX4_finish 38 = .ok (.if_icmp .ge 26, 3) := by decide +kernel
theorem dX4_finish_41 : decode cX4_finish 41 = .ok (.aload_n 0, 1) := by decide +kernel
theorem dX4_finish_42 : decode cX4_finish 42 = .ok (.getfield 21, 3) := by decide +kernel
theorem dX4_finish_45 : decode cX4_finish 45 = .ok (.getfield 101, 3) := by decide +kernel
theorem dX4_finish_48 : decode cX4_finish 48 = .ok (.ifCond .ne 16, 3) := by decide +kernel
theorem dX4_finish_51 : decode cX4_finish 51 = .ok (.aload_n 0, 1) := by decide +kernel
theorem dX4_finish_52 : decode cX4_finish 52 = .ok (.getfield 21, 3) := by decide +kernel
theorem dX4_finish_55 : decode cX4_finish 55 = .ok (.invokevirtual 108, 3) := by decide +kernel
theorem dX4_finish_58 : decode cX4_finish 58 = .ok (.iinc 2 1, 3) := by decide +kernel
theorem dX4_finish_61 : decode cX4_finish 61 = .ok (.goto (-26), 3) := by decide +kernel
theorem dX4_finish_64 : decode cX4_finish 64 = .ok (.aload_n 0, 1) := by decide +kernel
theorem dX4_finish_65 : decode cX4_finish 65 = .ok (.getfield 21, 3) := by decide +kernel
theorem dX4_finish_68 : decode cX4_finish 68 = .ok (.getfield 111, 3) := by decide +kernel
theorem dX4_finish_71 : decode cX4_finish 71 = .ok (.iload_n 1, 1) := by decide +kernel
theorem dX4_finish_72 : decode cX4_finish 72 = .ok (.isub, 1) := by decide +kernel
theorem dX4_finish_73 : decode cX4_finish 73 = .ok (.ireturn, 1) := by decide +kernel
set_option maxRecDepth 20000 in
theorem ggX4_reader_X2_placesSeen : GoodIn wsX4_reader wsX2_placesSeen := goodIn_r _ [14, 15, 16, 17, 50, 51, 52, 53, 54, 55, 56, 57, 58, 59, 60, 61, 62, 63, 64, 65, 66, 67, 68] (by decide +kernel) (by decide +kernel)
set_option maxRecDepth 20000 in
theorem gX4_reader_X2_placesSeen : GoodIn wsX4_reader (wsV RX4 124 RX2 yX2_placesSeen wsX2_placesSeen) := goodIn_app (goodIn_of _ (by decide +kernel)) ggX4_reader_X2_placesSeen
set_option maxRecDepth 20000 in
theorem ggX4_reader_X4_yes : GoodIn wsX4_reader wsX4_yes := goodIn_r _ [21] (by decide +kernel) (by decide +kernel)
set_option maxRecDepth 20000 in
theorem gX4_reader_X4_yes : GoodIn wsX4_reader (va_wsS RX4 104 yX4_yes wsX4_yes) := goodIn_app (goodIn_of _ (by decide +kernel)) ggX4_reader_X4_yes
set_option maxRecDepth 20000 in
theorem ggX4_reader_X2_thingsSeen : GoodIn wsX4_reader wsX2_thingsSeen := goodIn_r _ [25, 15, 26, 27, 28, 29, 13, 30, 16, 31, 32, 33, 34, 35, 36, 17, 19, 20, 21, 50, 51, 52, 53, 54, 55, 56, 57, 58, 59, 60, 61, 62, 63, 64, 65, 66, 67, 68] (by decide +kernel) (by decide +kernel)
set_option maxRecDepth 20000 in
theorem gX4_reader_X2_thingsSeen : GoodIn wsX4_reader (wsV RX4 136 RX2 yX2_thingsSeen wsX2_thingsSeen) := goodIn_app (goodIn_of _ (by decide +kernel)) ggX4_reader_X2_thingsSeen
theorem dX4_reader_0 : decode cX4_reader 0 = .ok (.aload_n 0, 1) := by decide +kernel
theorem dX4_reader_1 : decode cX4_reader 1 = .ok (.getfield 21, 3) := by decide +kernel
theorem dX4_reader_4 : decode cX4_reader 4 = .ok (.getfield 36, 3) := by decide +kernel
theorem dX4_reader_7 : decode cX4_reader 7 = .ok (.ifCond .ne 5, 3) := by decide +kernel
theorem dX4_reader_10 : decode cX4_reader 10 = .ok (.iconst (-1), 1) := by decide +kernel
theorem dX4_reader_11 : decode cX4_reader 11 = .ok (.ireturn, 1) := by decide +kernel
theorem dX4_reader_12 : decode cX4_reader 12 = .ok (.iload_n 1, 1) := by decide +kernel
theorem dX4_reader_13 : decode cX4_reader 13 = .ok (.tableswitch 120 0 7 #[47, 55, 63, 71, 82, 90, 98, 109], 47) := by decide +kernel
theorem dX4_reader_60 : decode cX4_reader 60 = .ok (.aload_n 0, 1) := by decide +kernel
theorem dX4_reader_61 : decode cX4_reader 61 = .ok (.getfield 21, 3) := by decide +kernel
theorem dX4_reader_64 : decode cX4_reader 64 = .ok (.getfield 114, 3) := by decide +kernel
theorem dX4_reader_67 : decode cX4_reader 67 = .ok (.ireturn, 1) := by decide +kernel
theorem dX4_reader_68 : decode cX4_reader 68 = .ok (.aload_n 0, 1) := by decide +kernel
theorem dX4_reader_69 : decode cX4_reader 69 = .ok (.getfield 21, 3) := by decide +kernel
theorem dX4_reader_72 : decode cX4_reader 72 = .ok (.getfield 117, 3) := by decide +kernel
theorem dX4_reader_75 : decode cX4_reader 75 = .ok (.ireturn, 1) := by decide +kernel
theorem dX4_reader_76 : decode cX4_reader 76 = .ok (.aload_n 0, 1) := by decide +kernel
theorem dX4_reader_77 : decode cX4_reader 77 = .ok (.getfield 21, 3) := by decide +kernel
theorem dX4_reader_80 : decode cX4_reader 80 = .ok (.getfield 111, 3) := by decide +kernel
theorem dX4_reader_83 : decode cX4_reader 83 = .ok (.ireturn, 1) := by decide +kernel
theorem dX4_reader_84 : decode cX4_reader 84 = .ok (.aload_n 0, 1) := by decide +kernel
theorem dX4_reader_85 : decode cX4_reader 85 = .ok (.getfield 21, 3) := by decide +kernel
theorem dX4_reader_88 : decode cX4_reader 88 = .ok (.getfield 120, 3) := by decide +kernel
theorem dX4_reader_91 : decode cX4_reader 91 = .ok (.invokevirtual 124, 3) := by decide +kernel
theorem dX4_reader_94 : decode cX4_reader 94 = .ok (.ireturn, 1) := by decide +kernel
theorem dX4_reader_95 : decode cX4_reader 95 = .ok (.aload_n 0, 1) := by decide +kernel
theorem dX4_reader_96 : decode cX4_reader 96 = .ok (.getfield 21, 3) := by decide +kernel
theorem dX4_reader_99 : decode cX4_reader 99 = .ok (.getfield 130, 3) := by decide +kernel
theorem dX4_reader_102 : decode cX4_reader 102 = .ok (.ireturn, 1) := by decide +kernel
theorem dX4_reader_103 : decode cX4_reader 103 = .ok (.aload_n 0, 1) := by decide +kernel
theorem dX4_reader_104 : decode cX4_reader 104 = .ok (.getfield 21, 3) := by decide +kernel
theorem dX4_reader_107 : decode cX4_reader 107 = .ok (.getfield 133, 3) := by decide +kernel
theorem dX4_reader_110 : decode cX4_reader 110 = .ok (.ireturn, 1) := by decide +kernel
theorem dX4_reader_111 : decode cX4_reader 111 = .ok (.aload_n 0, 1) := by decide +kernel
theorem dX4_reader_112 : decode cX4_reader 112 = .ok (.getfield 21, 3) := by decide +kernel
theorem dX4_reader_115 : decode cX4_reader 115 = .ok (.getfield 101, 3) := by decide +kernel
theorem dX4_reader_118 : decode cX4_reader 118 = .ok (.invokestatic 104, 3) := by decide +kernel
theorem dX4_reader_121 : decode cX4_reader 121 = .ok (.ireturn, 1) := by decide +kernel
theorem dX4_reader_122 : decode cX4_reader 122 = .ok (.aload_n 0, 1) := by decide +kernel
theorem dX4_reader_123 : decode cX4_reader 123 = .ok (.getfield 21, 3) := by decide +kernel
theorem dX4_reader_126 : decode cX4_reader 126 = .ok (.getfield 120, 3) := by decide +kernel
theorem dX4_reader_129 : decode cX4_reader 129 = .ok (.invokevirtual 136, 3) := by decide +kernel
theorem dX4_reader_132 : decode cX4_reader 132 = .ok (.ireturn, 1) := by decide +kernel
theorem dX4_reader_133 : decode cX4_reader 133 = .ok (.iconst (-1), 1) := by decide +kernel
theorem dX4_reader_134 : decode cX4_reader 134 = .ok (.ireturn, 1) := by decide +kernel
set_option maxRecDepth 20000 in
theorem ggX4_depth_X0_hasList : GoodIn wsX4_depth wsX0_hasList := goodIn_r _ [10, 11, 12, 13, 14, 49, 50, 51, 52, 53, 54, 55, 56, 57, 58, 59, 60, 61] (by decide +kernel) (by decide +kernel)
set_option maxRecDepth 20000 in
theorem gX4_depth_X0_hasList : GoodIn wsX4_depth (wsV RX4 51 RX0 yX0_hasList wsX0_hasList) := goodIn_app (goodIn_of _ (by decide +kernel)) ggX4_depth_X0_hasList
set_option maxRecDepth 20000 in
theorem ggX4_depth_X4_within : GoodIn wsX4_depth wsX4_within := goodIn_r _ [14] (by decide +kernel) (by decide +kernel)
set_option maxRecDepth 20000 in
theorem gX4_depth_X4_within : GoodIn wsX4_depth (va_wsS RX4 40 yX4_within wsX4_within) := goodIn_app (goodIn_of _ (by decide +kernel)) ggX4_depth_X4_within
set_option maxRecDepth 20000 in
theorem ggX4_depth_X2_topOf : GoodIn wsX4_depth wsX2_topOf := goodIn_r _ [20, 21, 22, 23, 24, 25, 26, 27, 19, 28, 29, 43, 44, 45, 46, 47, 48, 49, 50, 51, 52, 53, 54, 55, 56, 57, 58, 59, 60, 61] (by decide +kernel) (by decide +kernel)
set_option maxRecDepth 20000 in
theorem gX4_depth_X2_topOf : GoodIn wsX4_depth (wsV RX4 142 RX2 yX2_topOf wsX2_topOf) := goodIn_app (goodIn_of _ (by decide +kernel)) ggX4_depth_X2_topOf
theorem dX4_depth_0 : decode cX4_depth 0 = .ok (.aload_n 0, 1) := by decide +kernel
theorem dX4_depth_1 : decode cX4_depth 1 = .ok (.getfield 10, 3) := by decide +kernel
theorem dX4_depth_4 : decode cX4_depth 4 = .ok (.iload_n 1, 1) := by decide +kernel
theorem dX4_depth_5 : decode cX4_depth 5 = .ok (.invokevirtual 51, 3) := by decide +kernel
theorem dX4_depth_8 : decode cX4_depth 8 = .ok (.ifCond .eq 22, 3) := by decide +kernel
theorem dX4_depth_11 : decode cX4_depth 11 = .ok (.iload_n 2, 1) := by decide +kernel
theorem dX4_depth_12 : decode cX4_depth 12 = .ok (.iconst 0, 1) := by decide +kernel
theorem dX4_depth_13 : decode cX4_depth 13 = .ok (.iconst 1, 1) := by decide +kernel
theorem dX4_depth_14 : decode cX4_depth 14 = .ok (.invokestatic 40, 3) := by decide +kernel
theorem dX4_depth_17 : decode cX4_depth 17 = .ok (.ifCond .eq 13, 3) := by decide +kernel
theorem dX4_depth_20 : decode cX4_depth 20 = .ok (.aload_n 0, 1) := by decide +kernel
theorem dX4_depth_21 : decode cX4_depth 21 = .ok (.getfield 21, 3) := by decide +kernel
theorem dX4_depth_24 : decode cX4_depth 24 = .ok (.getfield 36, 3) := by decide +kernel
theorem dX4_depth_27 : decode cX4_depth 27 = .ok (.ifCond .ne 5, 3) := by decide +kernel
theorem dX4_depth_30 : decode cX4_depth 30 = .ok (.iconst (-1), 1) := by decide +kernel
theorem dX4_depth_31 : decode cX4_depth 31 = .ok (.ireturn, 1) := by decide +kernel
theorem dX4_depth_32 : decode cX4_depth 32 = .ok (.iload_n 2, 1) := by decide +kernel
theorem dX4_depth_33 : decode cX4_depth 33 = .ok (.ifCond .ne 18, 3) := by decide +kernel
theorem dX4_depth_36 : decode cX4_depth 36 = .ok (.aload_n 0, 1) := by decide +kernel
theorem dX4_depth_37 : decode cX4_depth 37 = .ok (.getfield 21, 3) := by decide +kernel
theorem dX4_depth_40 : decode cX4_depth 40 = .ok (.getfield 120, 3) := by decide +kernel
theorem dX4_depth_43 : decode cX4_depth 43 = .ok (.getfield 139, 3) := by decide +kernel
theorem dX4_depth_46 : decode cX4_depth 46 = .ok (.iload_n 1, 1) := by decide +kernel
theorem dX4_depth_47 : decode cX4_depth 47 = .ok (.iaload, 1) := by decide +kernel
theorem dX4_depth_48 : decode cX4_depth 48 = .ok (.goto 14, 3) := by decide +kernel
theorem dX4_depth_51 : decode cX4_depth 51 = .ok (.aload_n 0, 1) := by decide +kernel
theorem dX4_depth_52 : decode cX4_depth 52 = .ok (.getfield 21, 3) := by decide +kernel
theorem dX4_depth_55 : decode cX4_depth 55 = .ok (.getfield 120, 3) := by decide +kernel
theorem dX4_depth_58 : decode cX4_depth 58 = .ok (.iload_n 1, 1) := by decide +kernel
theorem dX4_depth_59 : decode cX4_depth 59 = .ok (.invokevirtual 142, 3) := by decide +kernel
theorem dX4_depth_62 : decode cX4_depth 62 = .ok (.ireturn, 1) := by decide +kernel
set_option maxRecDepth 20000 in
theorem ggX4_known_X0_hasList : GoodIn wsX4_known wsX0_hasList := goodIn_r _ [9, 10, 11, 12, 13, 54, 55, 56, 57, 58, 59, 60, 61, 62, 63, 64, 65, 66] (by decide +kernel) (by decide +kernel)
set_option maxRecDepth 20000 in
theorem gX4_known_X0_hasList : GoodIn wsX4_known (wsV RX4 51 RX0 yX0_hasList wsX0_hasList) := goodIn_app (goodIn_of _ (by decide +kernel)) ggX4_known_X0_hasList
set_option maxRecDepth 20000 in
theorem ggX4_known_X0_hasThing : GoodIn wsX4_known wsX0_hasThing := goodIn_r _ [17, 18, 11, 12, 13, 54, 55, 56, 57, 58, 59, 60, 61, 62, 63, 64, 65, 66] (by decide +kernel) (by decide +kernel)
set_option maxRecDepth 20000 in
theorem gX4_known_X0_hasThing : GoodIn wsX4_known (wsV RX4 55 RX0 yX0_hasThing wsX0_hasThing) := goodIn_app (goodIn_of _ (by decide +kernel)) ggX4_known_X0_hasThing
set_option maxRecDepth 20000 in
theorem ggX4_known_X2_isKnown : GoodIn wsX4_known wsX2_isKnown := goodIn_r _ [23, 24, 25, 26, 27, 22, 28, 29, 30, 31, 32, 33, 34, 35, 36, 37, 67, 68, 69, 70, 71, 72, 54, 55, 56, 57, 58, 59, 60, 61, 62, 63, 64, 65, 66] (by decide +kernel) (by decide +kernel)
set_option maxRecDepth 20000 in
theorem gX4_known_X2_isKnown : GoodIn wsX4_known (wsV RX4 145 RX2 yX2_isKnown wsX2_isKnown) := goodIn_app (goodIn_of _ (by decide +kernel)) ggX4_known_X2_isKnown
set_option maxRecDepth 20000 in
theorem ggX4_known_X4_yes : GoodIn wsX4_known wsX4_yes := goodIn_r _ [40] (by decide +kernel) (by decide +kernel)
set_option maxRecDepth 20000 in
theorem gX4_known_X4_yes : GoodIn wsX4_known (va_wsS RX4 104 yX4_yes wsX4_yes) := goodIn_app (goodIn_of _ (by decide +kernel)) ggX4_known_X4_yes
theorem dX4_known_0 : decode cX4_known 0 = .ok (.aload_n 0, 1) := by decide +kernel
theorem dX4_known_1 : decode cX4_known 1 = .ok (.getfield 10, 3) := by decide +kernel
theorem dX4_known_4 : decode cX4_known 4 = .ok (.iload_n 1, 1) := by decide +kernel
theorem dX4_known_5 : decode cX4_known 5 = .ok (.invokevirtual 51, 3) := by decide +kernel
theorem dX4_known_8 : decode cX4_known 8 = .ok (.ifCond .eq 24, 3) := by decide +kernel
theorem dX4_known_11 : decode cX4_known 11 = .ok (.aload_n 0, 1) := by decide +kernel
theorem dX4_known_12 : decode cX4_known 12 = .ok (.getfield 10, 3) := by decide +kernel
theorem dX4_known_15 : decode cX4_known 15 = .ok (.iload_n 2, 1) := by decide +kernel
theorem dX4_known_16 : decode cX4_known 16 = .ok (.invokevirtual 55, 3) := by decide +kernel
theorem dX4_known_19 : decode cX4_known 19 = .ok (.ifCond .eq 13, 3) := by decide +kernel
theorem dX4_known_22 : decode cX4_known 22 = .ok (.aload_n 0, 1) := by decide +kernel
theorem dX4_known_23 : decode cX4_known 23 = .ok (.getfield 21, 3) := by decide +kernel
theorem dX4_known_26 : decode cX4_known 26 = .ok (.getfield 36, 3) := by decide +kernel
theorem dX4_known_29 : decode cX4_known 29 = .ok (.ifCond .ne 5, 3) := by decide +kernel
theorem dX4_known_32 : decode cX4_known 32 = .ok (.iconst (-1), 1) := by decide +kernel
theorem dX4_known_33 : decode cX4_known 33 = .ok (.ireturn, 1) := by decide +kernel
theorem dX4_known_34 : decode cX4_known 34 = .ok (.aload_n 0, 1) := by decide +kernel
theorem dX4_known_35 : decode cX4_known 35 = .ok (.getfield 21, 3) := by decide +kernel
theorem dX4_known_38 : decode cX4_known 38 = .ok (.getfield 120, 3) := by decide +kernel
theorem dX4_known_41 : decode cX4_known 41 = .ok (.iload_n 1, 1) := by decide +kernel
theorem dX4_known_42 : decode cX4_known 42 = .ok (.iload_n 2, 1) := by decide +kernel
theorem dX4_known_43 : decode cX4_known 43 = .ok (.invokevirtual 145, 3) := by decide +kernel
theorem dX4_known_46 : decode cX4_known 46 = .ok (.invokestatic 104, 3) := by decide +kernel
theorem dX4_known_49 : decode cX4_known 49 = .ok (.ireturn, 1) := by decide +kernel
set_option maxRecDepth 20000 in
theorem ggX4_bound_X0_hasThing : GoodIn wsX4_bound wsX0_hasThing := goodIn_r _ [9, 10, 11, 12, 13, 76, 77, 78, 79, 80, 81, 82, 83, 84, 85, 86, 87, 88] (by decide +kernel) (by decide +kernel)
set_option maxRecDepth 20000 in
theorem gX4_bound_X0_hasThing : GoodIn wsX4_bound (wsV RX4 55 RX0 yX0_hasThing wsX0_hasThing) := goodIn_app (goodIn_of _ (by decide +kernel)) ggX4_bound_X0_hasThing
set_option maxRecDepth 20000 in
theorem ggX4_bound_X4_within : GoodIn wsX4_bound wsX4_within := goodIn_r _ [13] (by decide +kernel) (by decide +kernel)
set_option maxRecDepth 20000 in
theorem gX4_bound_X4_within : GoodIn wsX4_bound (va_wsS RX4 40 yX4_within wsX4_within) := goodIn_app (goodIn_of _ (by decide +kernel)) ggX4_bound_X4_within
set_option maxRecDepth 20000 in
theorem ggX4_bound_X2_highOf : GoodIn wsX4_bound wsX2_highOf := goodIn_r _ [19, 20, 21, 22, 23, 24, 25, 26, 18, 27, 28, 29, 30, 31, 32, 33, 34, 35, 36, 37, 38, 39, 40, 41, 42, 43, 44, 45, 46, 47, 8, 48, 49, 50, 51, 52, 53, 54, 55, 56, 57, 58, 89, 90, 91, 92, 93, 94, 76, 77, 78, 79, 80, 81, 82, 83, 84, 85, 86, 87, 88] (by decide +kernel) (by decide +kernel)
set_option maxRecDepth 20000 in
theorem gX4_bound_X2_highOf : GoodIn wsX4_bound (wsV RX4 149 RX2 yX2_highOf wsX2_highOf) := goodIn_app (goodIn_of _ (by decide +kernel)) ggX4_bound_X2_highOf
set_option maxRecDepth 20000 in
theorem ggX4_bound_X2_lowOf : GoodIn wsX4_bound wsX2_lowOf := goodIn_r _ [62, 20, 21, 22, 23, 24, 25, 26, 18, 27, 28, 29, 30, 31, 32, 33, 34, 35, 36, 37, 38, 39, 45, 46, 47, 8, 48, 49, 50, 51, 52, 53, 54, 55, 56, 57, 58, 89, 90, 91, 92, 93, 94, 76, 77, 78, 79, 80, 81, 82, 83, 84, 85, 86, 87, 88] (by decide +kernel) (by decide +kernel)
set_option maxRecDepth 20000 in
theorem gX4_bound_X2_lowOf : GoodIn wsX4_bound (wsV RX4 152 RX2 yX2_lowOf wsX2_lowOf) := goodIn_app (goodIn_of _ (by decide +kernel)) ggX4_bound_X2_lowOf
theorem dX4_bound_0 : decode cX4_bound 0 = .ok (.aload_n 0, 1) := by decide +kernel
theorem dX4_bound_1 : decode cX4_bound 1 = .ok (.getfield 10, 3) := by decide +kernel
theorem dX4_bound_4 : decode cX4_bound 4 = .ok (.iload_n 1, 1) := by decide +kernel
theorem dX4_bound_5 : decode cX4_bound 5 = .ok (.invokevirtual 55, 3) := by decide +kernel
theorem dX4_bound_8 : decode cX4_bound 8 = .ok (.ifCond .eq 13, 3) := by decide +kernel
theorem dX4_bound_11 : decode cX4_bound 11 = .ok (.aload_n 0, 1) := by decide +kernel
theorem dX4_bound_12 : decode cX4_bound 12 = .ok (.getfield 21, 3) := by decide +kernel
theorem dX4_bound_15 : decode cX4_bound 15 = .ok (.getfield 36, 3) := by decide +kernel
theorem dX4_bound_18 : decode cX4_bound 18 = .ok (.ifCond .ne 5, 3) := by decide +kernel
theorem dX4_bound_21 : decode cX4_bound 21 = .ok (.iconst (-1), 1) := by decide +kernel
theorem dX4_bound_22 : decode cX4_bound 22 = .ok (.ireturn, 1) := by decide +kernel
theorem dX4_bound_23 : decode cX4_bound 23 = .ok (.iload_n 2, 1) := by decide +kernel
theorem dX4_bound_24 : decode cX4_bound 24 = .ok (.iconst 0, 1) := by decide +kernel
theorem dX4_bound_25 : decode cX4_bound 25 = .ok (.iconst 1, 1) := by decide +kernel
theorem dX4_bound_26 : decode cX4_bound 26 = .ok (.invokestatic 40, 3) := by decide +kernel
theorem dX4_bound_29 : decode cX4_bound 29 = .ok (.ifCond .ne 6, 3) := by decide +kernel
theorem dX4_bound_32 : decode cX4_bound 32 = .ok (.bipush (-2), 2) := by decide +kernel
theorem dX4_bound_34 : decode cX4_bound 34 = .ok (.ireturn, 1) := by decide +kernel
theorem dX4_bound_35 : decode cX4_bound 35 = .ok (.iload_n 2, 1) := by decide +kernel
theorem dX4_bound_36 : decode cX4_bound 36 = .ok (.iconst 1, 1) := by decide +kernel
theorem dX4_bound_37 : decode cX4_bound 37 = .ok (.if_icmp .ne 17, 3) := by decide +kernel
theorem dX4_bound_40 : decode cX4_bound 40 = .ok (.aload_n 0, 1) := by decide +kernel
theorem dX4_bound_41 : decode cX4_bound 41 = .ok (.getfield 21, 3) := by decide +kernel
theorem dX4_bound_44 : decode cX4_bound 44 = .ok (.getfield 120, 3) := by decide +kernel
theorem dX4_bound_47 : decode cX4_bound 47 = .ok (.iload_n 1, 1) := by decide +kernel
theorem dX4_bound_48 : decode cX4_bound 48 = .ok (.invokevirtual 149, 3) := by decide +kernel
theorem dX4_bound_51 : decode cX4_bound 51 = .ok (.goto 14, 3) := by decide +kernel
theorem dX4_bound_54 : decode cX4_bound 54 = .ok (.aload_n 0, 1) := by decide +kernel
theorem dX4_bound_55 : decode cX4_bound 55 = .ok (.getfield 21, 3) := by decide +kernel
theorem dX4_bound_58 : decode cX4_bound 58 = .ok (.getfield 120, 3) := by decide +kernel
theorem dX4_bound_61 : decode cX4_bound 61 = .ok (.iload_n 1, 1) := by decide +kernel
theorem dX4_bound_62 : decode cX4_bound 62 = .ok (.invokevirtual 152, 3) := by decide +kernel
theorem dX4_bound_65 : decode cX4_bound 65 = .ok (.ireturn, 1) := by decide +kernel
set_option maxRecDepth 20000 in
theorem ggX4_ahead_X0_hasThing : GoodIn wsX4_ahead wsX0_hasThing := goodIn_r _ [9, 10, 11, 12, 13, 81, 82, 83, 84, 85, 86, 87, 88, 89, 90, 91, 92, 93] (by decide +kernel) (by decide +kernel)
set_option maxRecDepth 20000 in
theorem gX4_ahead_X0_hasThing : GoodIn wsX4_ahead (wsV RX4 55 RX0 yX0_hasThing wsX0_hasThing) := goodIn_app (goodIn_of _ (by decide +kernel)) ggX4_ahead_X0_hasThing
set_option maxRecDepth 20000 in
theorem ggX4_ahead_X2_lowOf : GoodIn wsX4_ahead wsX2_lowOf := goodIn_r _ [18, 19, 20, 21, 22, 23, 24, 25, 17, 26, 27, 28, 29, 30, 31, 32, 33, 34, 35, 36, 37, 38, 39, 40, 41, 8, 42, 43, 44, 45, 46, 47, 48, 49, 50, 51, 52, 94, 95, 96, 97, 98, 99, 81, 82, 83, 84, 85, 86, 87, 88, 89, 90, 91, 92, 93] (by decide +kernel) (by decide +kernel)
set_option maxRecDepth 20000 in
theorem gX4_ahead_X2_lowOf : GoodIn wsX4_ahead (wsV RX4 152 RX2 yX2_lowOf wsX2_lowOf) := goodIn_app (goodIn_of _ (by decide +kernel)) ggX4_ahead_X2_lowOf
set_option maxRecDepth 20000 in
theorem ggX4_ahead_X2_highOf : GoodIn wsX4_ahead wsX2_highOf := goodIn_r _ [56, 19, 20, 21, 22, 23, 24, 25, 17, 26, 27, 28, 29, 30, 31, 32, 33, 34, 35, 36, 37, 38, 57, 58, 59, 60, 61, 39, 40, 41, 8, 42, 43, 44, 45, 46, 47, 48, 49, 50, 51, 52, 94, 95, 96, 97, 98, 99, 81, 82, 83, 84, 85, 86, 87, 88, 89, 90, 91, 92, 93] (by decide +kernel) (by decide +kernel)
set_option maxRecDepth 20000 in
theorem gX4_ahead_X2_highOf : GoodIn wsX4_ahead (wsV RX4 149 RX2 yX2_highOf wsX2_highOf) := goodIn_app (goodIn_of _ (by decide +kernel)) ggX4_ahead_X2_highOf
set_option maxRecDepth 20000 in
theorem ggX4_ahead_X4_comesFirst : GoodIn wsX4_ahead wsX4_comesFirst := goodIn_r _ [64] (by decide +kernel) (by decide +kernel)
set_option maxRecDepth 20000 in
theorem gX4_ahead_X4_comesFirst : GoodIn wsX4_ahead (va_wsS RX4 155 yX4_comesFirst wsX4_comesFirst) := goodIn_app (goodIn_of _ (by decide +kernel)) ggX4_ahead_X4_comesFirst
set_option maxRecDepth 20000 in
theorem ggX4_ahead_X4_yes : GoodIn wsX4_ahead wsX4_yes := goodIn_r _ [67] (by decide +kernel) (by decide +kernel)
set_option maxRecDepth 20000 in
theorem gX4_ahead_X4_yes : GoodIn wsX4_ahead (va_wsS RX4 104 yX4_yes wsX4_yes) := goodIn_app (goodIn_of _ (by decide +kernel)) ggX4_ahead_X4_yes
theorem dX4_ahead_0 : decode cX4_ahead 0 = .ok (.aload_n 0, 1) := by decide +kernel
theorem dX4_ahead_1 : decode cX4_ahead 1 = .ok (.getfield 10, 3) := by decide +kernel
theorem dX4_ahead_4 : decode cX4_ahead 4 = .ok (.iload_n 1, 1) := by decide +kernel
theorem dX4_ahead_5 : decode cX4_ahead 5 = .ok (.invokevirtual 55, 3) := by decide +kernel
theorem dX4_ahead_8 : decode cX4_ahead 8 = .ok (.ifCond .eq 24, 3) := by decide +kernel
theorem dX4_ahead_11 : decode cX4_ahead 11 = .ok (.aload_n 0, 1) := by decide +kernel
theorem dX4_ahead_12 : decode cX4_ahead 12 = .ok (.getfield 10, 3) := by decide +kernel
theorem dX4_ahead_15 : decode cX4_ahead 15 = .ok (.iload_n 2, 1) := by decide +kernel
theorem dX4_ahead_16 : decode cX4_ahead 16 = .ok (.invokevirtual 55, 3) := by decide +kernel
theorem dX4_ahead_19 : decode cX4_ahead 19 = .ok (.ifCond .eq 13, 3) := by decide +kernel
theorem dX4_ahead_22 : decode cX4_ahead 22 = .ok (.aload_n 0, 1) := by decide +kernel
theorem dX4_ahead_23 : decode cX4_ahead 23 = .ok (.getfield 21, 3) := by decide +kernel
theorem dX4_ahead_26 : decode cX4_ahead 26 = .ok (.getfield 36, 3) := by decide +kernel
theorem dX4_ahead_29 : decode cX4_ahead 29 = .ok (.ifCond .ne 5, 3) := by decide +kernel
theorem dX4_ahead_32 : decode cX4_ahead 32 = .ok (.iconst (-1), 1) := by decide +kernel
theorem dX4_ahead_33 : decode cX4_ahead 33 = .ok (.ireturn, 1) := by decide +kernel
theorem dX4_ahead_34 : decode cX4_ahead 34 = .ok (.iload_n 1, 1) := by decide +kernel
theorem dX4_ahead_35 : decode cX4_ahead 35 = .ok (.iload_n 2, 1) := by decide +kernel
theorem dX4_ahead_36 : decode cX4_ahead 36 = .ok (.if_icmp .ne 6, 3) := by decide +kernel
theorem dX4_ahead_39 : decode cX4_ahead 39 = .ok (.bipush (-2), 2) := by decide +kernel
theorem dX4_ahead_41 : decode cX4_ahead 41 = .ok (.ireturn, 1) := by decide +kernel
theorem dX4_ahead_42 : decode cX4_ahead 42 = .ok (.iload_n 1, 1) := by decide +kernel
theorem dX4_ahead_43 : decode cX4_ahead 43 = .ok (.aload_n 0, 1) := by decide +kernel
theorem dX4_ahead_44 : decode cX4_ahead 44 = .ok (.getfield 21, 3) := by decide +kernel
theorem dX4_ahead_47 : decode cX4_ahead 47 = .ok (.getfield 120, 3) := by decide +kernel
theorem dX4_ahead_50 : decode cX4_ahead 50 = .ok (.iload_n 1, 1) := by decide +kernel
theorem dX4_ahead_51 : decode cX4_ahead 51 = .ok (.invokevirtual 152, 3) := by decide +kernel
theorem dX4_ahead_54 : decode cX4_ahead 54 = .ok (.iload_n 2, 1) := by decide +kernel
theorem dX4_ahead_55 : decode cX4_ahead 55 = .ok (.aload_n 0, 1) := by decide +kernel
theorem dX4_ahead_56 : decode cX4_ahead 56 = .ok (.getfield 21, 3) := by decide +kernel
theorem dX4_ahead_59 : decode cX4_ahead 59 = .ok (.getfield 120, 3) := by decide +kernel
theorem dX4_ahead_62 : decode cX4_ahead 62 = .ok (.iload_n 2, 1) := by decide +kernel
theorem dX4_ahead_63 : decode cX4_ahead 63 = .ok (.invokevirtual 149, 3) := by decide +kernel
theorem dX4_ahead_66 : decode cX4_ahead 66 = .ok (.invokestatic 155, 3) := by decide +kernel
theorem dX4_ahead_69 : decode cX4_ahead 69 = .ok (.invokestatic 104, 3) := by decide +kernel
theorem dX4_ahead_72 : decode cX4_ahead 72 = .ok (.ireturn, 1) := by decide +kernel
set_option maxRecDepth 20000 in
theorem ggX4_found_X4_within : GoodIn wsX4_found wsX4_within := goodIn_r _ [9] (by decide +kernel) (by decide +kernel)
set_option maxRecDepth 20000 in
theorem gX4_found_X4_within : GoodIn wsX4_found (va_wsS RX4 40 yX4_within wsX4_within) := goodIn_app (goodIn_of _ (by decide +kernel)) ggX4_found_X4_within
set_option maxRecDepth 20000 in
theorem ggX4_found_X2_foundAt : GoodIn wsX4_found wsX2_foundAt := goodIn_r _ [14, 15, 16, 17, 18, 19, 13, 20, 21, 35, 36, 37, 38, 39, 40, 41, 42, 43, 44, 45, 46, 47, 48, 49, 50, 51, 52, 53] (by decide +kernel) (by decide +kernel)
set_option maxRecDepth 20000 in
theorem gX4_found_X2_foundAt : GoodIn wsX4_found (wsV RX4 159 RX2 yX2_foundAt wsX2_foundAt) := goodIn_app (goodIn_of _ (by decide +kernel)) ggX4_found_X2_foundAt
theorem dX4_found_0 : decode cX4_found 0 = .ok (.aload_n 0, 1) := by decide +kernel
theorem dX4_found_1 : decode cX4_found 1 = .ok (.getfield 21, 3) := by decide +kernel
theorem dX4_found_4 : decode cX4_found 4 = .ok (.getfield 36, 3) := by decide +kernel
theorem dX4_found_7 : decode cX4_found 7 = .ok (.ifCond .eq 20, 3) := by decide +kernel
theorem dX4_found_10 : decode cX4_found 10 = .ok (.iload_n 1, 1) := by decide +kernel
theorem dX4_found_11 : decode cX4_found 11 = .ok (.iconst 0, 1) := by decide +kernel
theorem dX4_found_12 : decode cX4_found 12 = .ok (.aload_n 0, 1) := by decide +kernel
theorem dX4_found_13 : decode cX4_found 13 = .ok (.getfield 21, 3) := by decide +kernel
theorem dX4_found_16 : decode cX4_found 16 = .ok (.getfield 117, 3) := by decide +kernel
theorem dX4_found_19 : decode cX4_found 19 = .ok (.iconst 1, 1) := by decide +kernel
theorem dX4_found_20 : decode cX4_found 20 = .ok (.isub, 1) := by decide +kernel
theorem dX4_found_21 : decode cX4_found 21 = .ok (.invokestatic 40, 3) := by decide +kernel
theorem dX4_found_24 : decode cX4_found 24 = .ok (.ifCond .ne 5, 3) := by decide +kernel
theorem dX4_found_27 : decode cX4_found 27 = .ok (.iconst (-1), 1) := by decide +kernel
theorem dX4_found_28 : decode cX4_found 28 = .ok (.ireturn, 1) := by decide +kernel
theorem dX4_found_29 : decode cX4_found 29 = .ok (.aload_n 0, 1) := by decide +kernel
theorem dX4_found_30 : decode cX4_found 30 = .ok (.getfield 21, 3) := by decide +kernel
theorem dX4_found_33 : decode cX4_found 33 = .ok (.getfield 101, 3) := by decide +kernel
theorem dX4_found_36 : decode cX4_found 36 = .ok (.ifCond .ne 6, 3) := by decide +kernel
theorem dX4_found_39 : decode cX4_found 39 = .ok (.bipush (-3), 2) := by decide +kernel
theorem dX4_found_41 : decode cX4_found 41 = .ok (.ireturn, 1) := by decide +kernel
theorem dX4_found_42 : decode cX4_found 42 = .ok (.aload_n 0, 1) := by decide +kernel
theorem dX4_found_43 : decode cX4_found 43 = .ok (.getfield 21, 3) := by decide +kernel
theorem dX4_found_46 : decode cX4_found 46 = .ok (.getfield 120, 3) := by decide +kernel
theorem dX4_found_49 : decode cX4_found 49 = .ok (.iload_n 1, 1) := by decide +kernel
theorem dX4_found_50 : decode cX4_found 50 = .ok (.invokevirtual 159, 3) := by decide +kernel
theorem dX4_found_53 : decode cX4_found 53 = .ok (.ireturn, 1) := by decide +kernel
set_option maxRecDepth 20000 in
theorem ggX4_enough_X0_mayAskFor : GoodIn wsX4_enough wsX0_mayAskFor := goodIn_r _ [7, 8, 9, 10, 11, 104, 105, 106, 107, 108, 109, 110, 111, 112, 113, 114, 115, 116] (by decide +kernel) (by decide +kernel)
set_option maxRecDepth 20000 in
theorem gX4_enough_X0_mayAskFor : GoodIn wsX4_enough (wsV RX4 94 RX0 yX0_mayAskFor wsX0_mayAskFor) := goodIn_app (goodIn_of _ (by decide +kernel)) ggX4_enough_X0_mayAskFor
set_option maxRecDepth 20000 in
theorem ggX4_enough_X0_isDepth : GoodIn wsX4_enough wsX0_isDepth := goodIn_r _ [15, 16, 17, 18, 19, 6, 20, 21, 9, 10, 11, 104, 105, 106, 107, 108, 109, 110, 111, 112, 113, 114, 115, 116] (by decide +kernel) (by decide +kernel)
set_option maxRecDepth 20000 in
theorem gX4_enough_X0_isDepth : GoodIn wsX4_enough (wsV RX4 162 RX0 yX0_isDepth wsX0_isDepth) := goodIn_app (goodIn_of _ (by decide +kernel)) ggX4_enough_X0_isDepth
set_option maxRecDepth 20000 in
theorem ggX4_enough_X3_isEnough : GoodIn wsX4_enough wsX3_isEnough := goodIn_r _ [26, 27, 28, 29, 30, 31, 32, 33, 34, 35, 36, 37, 38, 39, 40, 41, 42, 43, 44, 45, 46, 47, 48, 49, 50, 51, 52, 53, 54, 55, 56, 57, 58, 59, 60, 61, 62, 6, 63, 21, 64, 65, 66, 67, 68, 69, 70, 71, 72, 73, 74, 75, 76, 77, 78, 79, 80, 81, 82, 83, 84, 85, 86, 87, 88, 89, 90, 91, 92, 93, 94, 95, 96, 10, 97, 117, 118, 119, 120, 121, 122, 123, 124, 125, 104, 105, 106, 107, 108, 109, 110, 111, 112, 113, 114, 115, 116] (by decide +kernel) (by decide +kernel)
set_option maxRecDepth 20000 in
theorem gX4_enough_X3_isEnough : GoodIn wsX4_enough (wsV RX4 165 RX3 yX3_isEnough wsX3_isEnough) := goodIn_app (goodIn_of _ (by decide +kernel)) ggX4_enough_X3_isEnough
set_option maxRecDepth 20000 in
theorem ggX4_enough_X4_yes : GoodIn wsX4_enough wsX4_yes := goodIn_r _ [100] (by decide +kernel) (by decide +kernel)
set_option maxRecDepth 20000 in
theorem gX4_enough_X4_yes : GoodIn wsX4_enough (va_wsS RX4 104 yX4_yes wsX4_yes) := goodIn_app (goodIn_of _ (by decide +kernel)) ggX4_enough_X4_yes
theorem dX4_enough_0 : decode cX4_enough 0 = .ok (.aload_n 0, 1) := by decide +kernel
theorem dX4_enough_1 : decode cX4_enough 1 = .ok (.getfield 10, 3) := by decide +kernel
theorem dX4_enough_4 : decode cX4_enough 4 = .ok (.iload_n 1, 1) := by decide +kernel
theorem dX4_enough_5 : decode cX4_enough 5 = .ok (.invokevirtual 94, 3) := by decide +kernel
theorem dX4_enough_8 : decode cX4_enough 8 = .ok (.ifCond .ne 6, 3) := by decide +kernel
theorem dX4_enough_11 : decode cX4_enough 11 = .ok (.bipush (-2), 2) := by decide +kernel
theorem dX4_enough_13 : decode cX4_enough 13 = .ok (.ireturn, 1) := by decide +kernel
theorem dX4_enough_14 : decode cX4_enough 14 = .ok (.aload_n 0, 1) := by decide +kernel
theorem dX4_enough_15 : decode cX4_enough 15 = .ok (.getfield 10, 3) := by decide +kernel
theorem dX4_enough_18 : decode cX4_enough 18 = .ok (.iconst 0, 1) := by decide +kernel
theorem dX4_enough_19 : decode cX4_enough 19 = .ok (.iload_n 2, 1) := by decide +kernel
theorem dX4_enough_20 : decode cX4_enough 20 = .ok (.invokevirtual 162, 3) := by decide +kernel
theorem dX4_enough_23 : decode cX4_enough 23 = .ok (.ifCond .eq 41, 3) := by decide +kernel
theorem dX4_enough_26 : decode cX4_enough 26 = .ok (.aload_n 0, 1) := by decide +kernel
theorem dX4_enough_27 : decode cX4_enough 27 = .ok (.getfield 10, 3) := by decide +kernel
theorem dX4_enough_30 : decode cX4_enough 30 = .ok (.iconst 1, 1) := by decide +kernel
theorem dX4_enough_31 : decode cX4_enough 31 = .ok (.iload_n 3, 1) := by decide +kernel
theorem dX4_enough_32 : decode cX4_enough 32 = .ok (.invokevirtual 162, 3) := by decide +kernel
theorem dX4_enough_35 : decode cX4_enough 35 = .ok (.ifCond .eq 29, 3) := by decide +kernel
theorem dX4_enough_38 : decode cX4_enough 38 = .ok (.aload_n 0, 1) := by decide +kernel
theorem dX4_enough_39 : decode cX4_enough 39 = .ok (.getfield 10, 3) := by decide +kernel
theorem dX4_enough_42 : decode cX4_enough 42 = .ok (.iconst 2, 1) := by decide +kernel
theorem dX4_enough_43 : decode cX4_enough 43 = .ok (.iload 4, 2) := by decide +kernel
theorem dX4_enough_45 : decode cX4_enough 45 = .ok (.invokevirtual 162, 3) := by decide +kernel
theorem dX4_enough_48 : decode cX4_enough 48 = .ok (.ifCond .eq 16, 3) := by decide +kernel
theorem dX4_enough_51 : decode cX4_enough 51 = .ok (.aload_n 0, 1) := by decide +kernel
theorem dX4_enough_52 : decode cX4_enough 52 = .ok (.getfield 10, 3) := by decide +kernel
theorem dX4_enough_55 : decode cX4_enough 55 = .ok (.iconst 3, 1) := by decide +kernel
theorem dX4_enough_56 : decode cX4_enough 56 = .ok (.iload 5, 2) := by decide +kernel
theorem dX4_enough_58 : decode cX4_enough 58 = .ok (.invokevirtual 162, 3) := by decide +kernel
theorem dX4_enough_61 : decode cX4_enough 61 = .ok (.ifCond .ne 6, 3) := by decide +kernel
theorem dX4_enough_64 : decode cX4_enough 64 = .ok (.bipush (-2), 2) := by decide +kernel
theorem dX4_enough_66 : decode cX4_enough 66 = .ok (.ireturn, 1) := by decide +kernel
theorem dX4_enough_67 : decode cX4_enough 67 = .ok (.aload_n 0, 1) := by decide +kernel
theorem dX4_enough_68 : decode cX4_enough 68 = .ok (.getfield 28, 3) := by decide +kernel
theorem dX4_enough_71 : decode cX4_enough 71 = .ok (.iload_n 1, 1) := by decide +kernel
theorem dX4_enough_72 : decode cX4_enough 72 = .ok (.iload_n 2, 1) := by decide +kernel
theorem dX4_enough_73 : decode cX4_enough 73 = .ok (.iload_n 3, 1) := by decide +kernel
theorem dX4_enough_74 : decode cX4_enough 74 = .ok (.iload 4, 2) := by decide +kernel
theorem dX4_enough_76 : decode cX4_enough 76 = .ok (.iload 5, 2) := by decide +kernel
theorem dX4_enough_78 : decode cX4_enough 78 = .ok (.invokevirtual 165, 3) := by decide +kernel
theorem dX4_enough_81 : decode cX4_enough 81 = .ok (.invokestatic 104, 3) := by decide +kernel
theorem dX4_enough_84 : decode cX4_enough 84 = .ok (.ireturn, 1) := by decide +kernel
set_option maxRecDepth 20000 in
theorem ggX4_least_X0_mayAskFor : GoodIn wsX4_least wsX0_mayAskFor := goodIn_r _ [7, 8, 9, 10, 11, 119, 120, 121, 122, 123, 124, 125, 126, 127, 128, 129, 130, 131] (by decide +kernel) (by decide +kernel)
set_option maxRecDepth 20000 in
theorem gX4_least_X0_mayAskFor : GoodIn wsX4_least (wsV RX4 94 RX0 yX0_mayAskFor wsX0_mayAskFor) := goodIn_app (goodIn_of _ (by decide +kernel)) ggX4_least_X0_mayAskFor
set_option maxRecDepth 20000 in
theorem ggX4_least_X0_depthRows : GoodIn wsX4_least wsX0_depthRows := goodIn_r _ [15, 16, 17, 119, 120, 121, 122, 123, 124, 125, 126, 127, 128, 129, 130, 131] (by decide +kernel) (by decide +kernel)
set_option maxRecDepth 20000 in
theorem gX4_least_X0_depthRows : GoodIn wsX4_least (wsV RX4 169 RX0 yX0_depthRows wsX0_depthRows) := goodIn_app (goodIn_of _ (by decide +kernel)) ggX4_least_X0_depthRows
set_option maxRecDepth 20000 in
theorem ggX4_least_X3_cheapest : GoodIn wsX4_least wsX3_cheapest := goodIn_r _ [22, 23, 24, 25, 26, 27, 28, 29, 30, 31, 32, 33, 34, 35, 36, 37, 38, 13, 14, 6, 15, 16, 17, 39, 40, 41, 21, 42, 43, 44, 45, 46, 47, 48, 49, 50, 51, 52, 53, 54, 55, 56, 57, 58, 59, 60, 61, 62, 63, 64, 65, 66, 67, 68, 69, 70, 71, 72, 73, 74, 75, 76, 77, 78, 79, 80, 81, 82, 83, 84, 85, 86, 87, 88, 89, 90, 91, 92, 93, 94, 95, 96, 97, 98, 99, 100, 101, 102, 103, 104, 105, 106, 107, 108, 109, 10, 110, 111, 112, 113, 114, 115, 132, 133, 134, 135, 136, 137, 138, 139, 140, 119, 120, 121, 122, 123, 124, 125, 126, 127, 128, 129, 130, 131] (by decide +kernel) (by decide +kernel)
set_option maxRecDepth 20000 in
theorem gX4_least_X3_cheapest : GoodIn wsX4_least (wsV RX4 172 RX3 yX3_cheapest wsX3_cheapest) := goodIn_app (goodIn_of _ (by decide +kernel)) ggX4_least_X3_cheapest
theorem dX4_least_0 : decode cX4_least 0 = .ok (.aload_n 0, 1) := by decide +kernel
theorem dX4_least_1 : decode cX4_least 1 = .ok (.getfield 10, 3) := by decide +kernel
theorem dX4_least_4 : decode cX4_least 4 = .ok (.iload_n 1, 1) := by decide +kernel
theorem dX4_least_5 : decode cX4_least 5 = .ok (.invokevirtual 94, 3) := by decide +kernel
theorem dX4_least_8 : decode cX4_least 8 = .ok (.ifCond .ne 6, 3) := by decide +kernel
theorem dX4_least_11 : decode cX4_least 11 = .ok (.bipush (-2), 2) := by decide +kernel
theorem dX4_least_13 : decode cX4_least 13 = .ok (.ireturn, 1) := by decide +kernel
theorem dX4_least_14 : decode cX4_least 14 = .ok (.aload_n 0, 1) := by decide +kernel
theorem dX4_least_15 : decode cX4_least 15 = .ok (.getfield 10, 3) := by decide +kernel
theorem dX4_least_18 : decode cX4_least 18 = .ok (.invokevirtual 169, 3) := by decide +kernel
theorem dX4_least_21 : decode cX4_least 21 = .ok (.sipush 500, 3) := by decide +kernel
theorem dX4_least_24 : decode cX4_least 24 = .ok (.if_icmp .le 6, 3) := by decide +kernel
theorem dX4_least_27 : decode cX4_least 27 = .ok (.bipush (-3), 2) := by decide +kernel
theorem dX4_least_29 : decode cX4_least 29 = .ok (.ireturn, 1) := by decide +kernel
theorem dX4_least_30 : decode cX4_least 30 = .ok (.aload_n 0, 1) := by decide +kernel
theorem dX4_least_31 : decode cX4_least 31 = .ok (.getfield 28, 3) := by decide +kernel
theorem dX4_least_34 : decode cX4_least 34 = .ok (.iload_n 1, 1) := by decide +kernel
theorem dX4_least_35 : decode cX4_least 35 = .ok (.invokevirtual 172, 3) := by decide +kernel
theorem dX4_least_38 : decode cX4_least 38 = .ok (.ireturn, 1) := by decide +kernel
set_option maxRecDepth 20000 in
theorem ggX4_leastDepth_X4_within : GoodIn wsX4_leastDepth wsX4_within := goodIn_r _ [6] (by decide +kernel) (by decide +kernel)
set_option maxRecDepth 20000 in
theorem gX4_leastDepth_X4_within : GoodIn wsX4_leastDepth (va_wsS RX4 40 yX4_within wsX4_within) := goodIn_app (goodIn_of _ (by decide +kernel)) ggX4_leastDepth_X4_within
theorem dX4_leastDepth_0 : decode cX4_leastDepth 0 = .ok (.iload_n 1, 1) := by decide +kernel
theorem dX4_leastDepth_1 : decode cX4_leastDepth 1 = .ok (.iconst 0, 1) := by decide +kernel
theorem dX4_leastDepth_2 : decode cX4_leastDepth 2 = .ok (.iconst 3, 1) := by decide +kernel
theorem dX4_leastDepth_3 : decode cX4_leastDepth 3 = .ok (.invokestatic 40, 3) := by decide +kernel
theorem dX4_leastDepth_6 : decode cX4_leastDepth 6 = .ok (.ifCond .eq 15, 3) := by decide +kernel
theorem dX4_leastDepth_9 : decode cX4_leastDepth 9 = .ok (.aload_n 0, 1) := by decide +kernel
theorem dX4_leastDepth_10 : decode cX4_leastDepth 10 = .ok (.getfield 28, 3) := by decide +kernel
theorem dX4_leastDepth_13 : decode cX4_leastDepth 13 = .ok (.getfield 175, 3) := by decide +kernel
theorem dX4_leastDepth_16 : decode cX4_leastDepth 16 = .ok (.iload_n 1, 1) := by decide +kernel
theorem dX4_leastDepth_17 : decode cX4_leastDepth 17 = .ok (.iaload, 1) := by decide +kernel
theorem dX4_leastDepth_18 : decode cX4_leastDepth 18 = .ok (.goto 4, 3) := by decide +kernel
theorem dX4_leastDepth_21 : decode cX4_leastDepth 21 = .ok (.iconst (-1), 1) := by decide +kernel
theorem dX4_leastDepth_22 : decode cX4_leastDepth 22 = .ok (.ireturn, 1) := by decide +kernel
set_option maxRecDepth 20000 in
theorem ggX4_count_X4_yes : GoodIn wsX4_count wsX4_yes := goodIn_r _ [11] (by decide +kernel) (by decide +kernel)
set_option maxRecDepth 20000 in
theorem gX4_count_X4_yes : GoodIn wsX4_count (va_wsS RX4 104 yX4_yes wsX4_yes) := goodIn_app (goodIn_of _ (by decide +kernel)) ggX4_count_X4_yes
theorem dX4_count_0 : decode cX4_count 0 = .ok (.iload_n 1, 1) := by decide +kernel
theorem dX4_count_1 : decode cX4_count 1 = .ok (.tableswitch 78 0 4 #[35, 43, 51, 59, 67], 35) := by decide +kernel
theorem dX4_count_36 : decode cX4_count 36 = .ok (.aload_n 0, 1) := by decide +kernel
theorem dX4_count_37 : decode cX4_count 37 = .ok (.getfield 10, 3) := by decide +kernel
theorem dX4_count_40 : decode cX4_count 40 = .ok (.getfield 32, 3) := by decide +kernel
theorem dX4_count_43 : decode cX4_count 43 = .ok (.ireturn, 1) := by decide +kernel
theorem dX4_count_44 : decode cX4_count 44 = .ok (.aload_n 0, 1) := by decide +kernel
theorem dX4_count_45 : decode cX4_count 45 = .ok (.getfield 10, 3) := by decide +kernel
theorem dX4_count_48 : decode cX4_count 48 = .ok (.getfield 44, 3) := by decide +kernel
theorem dX4_count_51 : decode cX4_count 51 = .ok (.ireturn, 1) := by decide +kernel
theorem dX4_count_52 : decode cX4_count 52 = .ok (.aload_n 0, 1) := by decide +kernel
theorem dX4_count_53 : decode cX4_count 53 = .ok (.getfield 10, 3) := by decide +kernel
theorem dX4_count_56 : decode cX4_count 56 = .ok (.getfield 178, 3) := by decide +kernel
theorem dX4_count_59 : decode cX4_count 59 = .ok (.ireturn, 1) := by decide +kernel
theorem dX4_count_60 : decode cX4_count 60 = .ok (.aload_n 0, 1) := by decide +kernel
theorem dX4_count_61 : decode cX4_count 61 = .ok (.getfield 10, 3) := by decide +kernel
theorem dX4_count_64 : decode cX4_count 64 = .ok (.getfield 65, 3) := by decide +kernel
theorem dX4_count_67 : decode cX4_count 67 = .ok (.ireturn, 1) := by decide +kernel
theorem dX4_count_68 : decode cX4_count 68 = .ok (.aload_n 0, 1) := by decide +kernel
theorem dX4_count_69 : decode cX4_count 69 = .ok (.getfield 21, 3) := by decide +kernel
theorem dX4_count_72 : decode cX4_count 72 = .ok (.getfield 36, 3) := by decide +kernel
theorem dX4_count_75 : decode cX4_count 75 = .ok (.invokestatic 104, 3) := by decide +kernel
theorem dX4_count_78 : decode cX4_count 78 = .ok (.ireturn, 1) := by decide +kernel
theorem dX4_count_79 : decode cX4_count 79 = .ok (.iconst (-1), 1) := by decide +kernel
theorem dX4_count_80 : decode cX4_count 80 = .ok (.ireturn, 1) := by decide +kernel
set_option maxRecDepth 20000 in
theorem ggX4_changeMark_X0_setMark : GoodIn wsX4_changeMark wsX0_setMark := goodIn_r _ [9, 10, 11, 12, 13, 14, 15, 16, 17, 18, 8, 19, 20, 21, 22, 23, 24, 25, 26, 27, 28, 32, 33, 34, 35, 36, 37, 38, 39, 40, 41, 42, 43, 44] (by decide +kernel) (by decide +kernel)
set_option maxRecDepth 20000 in
theorem gX4_changeMark_X0_setMark : GoodIn wsX4_changeMark (wsV RX4 181 RX0 yX0_setMark wsX0_setMark) := goodIn_app (goodIn_of _ (by decide +kernel)) ggX4_changeMark_X0_setMark
theorem dX4_changeMark_0 : decode cX4_changeMark 0 = .ok (.aload_n 0, 1) := by decide +kernel
theorem dX4_changeMark_1 : decode cX4_changeMark 1 = .ok (.getfield 10, 3) := by decide +kernel
theorem dX4_changeMark_4 : decode cX4_changeMark 4 = .ok (.getfield 81, 3) := by decide +kernel
theorem dX4_changeMark_7 : decode cX4_changeMark 7 = .ok (.iload_n 1, 1) := by decide +kernel
theorem dX4_changeMark_8 : decode cX4_changeMark 8 = .ok (.aaload, 1) := by decide +kernel
theorem dX4_changeMark_9 : decode cX4_changeMark 9 = .ok (.iload_n 2, 1) := by decide +kernel
theorem dX4_changeMark_10 : decode cX4_changeMark 10 = .ok (.iaload, 1) := by decide +kernel
theorem dX4_changeMark_11 : decode cX4_changeMark 11 = .ok (.istore 4, 2) := by decide +kernel
theorem dX4_changeMark_13 : decode cX4_changeMark 13 = .ok (.iload 4, 2) := by decide +kernel
theorem dX4_changeMark_15 : decode cX4_changeMark 15 = .ok (.iload_n 3, 1) := by decide +kernel
theorem dX4_changeMark_16 : decode cX4_changeMark 16 = .ok (.if_icmp .eq 21, 3) := by decide +kernel
theorem dX4_changeMark_19 : decode cX4_changeMark 19 = .ok (.aload_n 0, 1) := by decide +kernel
theorem dX4_changeMark_20 : decode cX4_changeMark 20 = .ok (.getfield 21, 3) := by decide +kernel
theorem dX4_changeMark_23 : decode cX4_changeMark 23 = .ok (.iconst 0, 1) := by decide +kernel
theorem dX4_changeMark_24 : decode cX4_changeMark 24 = .ok (.putfield 36, 3) := by decide +kernel
theorem dX4_changeMark_27 : decode cX4_changeMark 27 = .ok (.aload_n 0, 1) := by decide +kernel
theorem dX4_changeMark_28 : decode cX4_changeMark 28 = .ok (.getfield 10, 3) := by decide +kernel
theorem dX4_changeMark_31 : decode cX4_changeMark 31 = .ok (.iload_n 1, 1) := by decide +kernel
theorem dX4_changeMark_32 : decode cX4_changeMark 32 = .ok (.iload_n 2, 1) := by decide +kernel
theorem dX4_changeMark_33 : decode cX4_changeMark 33 = .ok (.iload_n 3, 1) := by decide +kernel
theorem dX4_changeMark_34 : decode cX4_changeMark 34 = .ok (.invokevirtual 181, 3) := by decide +kernel
theorem dX4_changeMark_37 : decode cX4_changeMark 37 = .ok (.iload 4, 2) := by decide +kernel
theorem dX4_changeMark_39 : decode cX4_changeMark 39 = .ok (.ireturn, 1) := by decide +kernel
theorem dX4_within_0 : decode cX4_within 0 = .ok (.iload_n 0, 1) := by decide +kernel
theorem dX4_within_1 : decode cX4_within 1 = .ok (.iload_n 1, 1) := by decide +kernel
theorem dX4_within_2 : decode cX4_within 2 = .ok (.if_icmp .lt 12, 3) := by decide +kernel
theorem dX4_within_5 : decode cX4_within 5 = .ok (.iload_n 0, 1) := by decide +kernel
theorem dX4_within_6 : decode cX4_within 6 = .ok (.iload_n 2, 1) := by decide +kernel
theorem dX4_within_7 : decode cX4_within 7 = .ok (.if_icmp .gt 7, 3) := by decide +kernel
theorem dX4_within_10 : decode cX4_within 10 = .ok (.iconst 1, 1) := by decide +kernel
theorem dX4_within_11 : decode cX4_within 11 = .ok (.goto 4, 3) := by decide +kernel
theorem dX4_within_14 : decode cX4_within 14 = .ok (.iconst 0, 1) := by decide +kernel
theorem dX4_within_15 : decode cX4_within 15 = .ok (.ireturn, 1) := by decide +kernel
theorem dX4_yes_0 : decode cX4_yes 0 = .ok (.iload_n 0, 1) := by decide +kernel
theorem dX4_yes_1 : decode cX4_yes 1 = .ok (.ifCond .eq 7, 3) := by decide +kernel
theorem dX4_yes_4 : decode cX4_yes 4 = .ok (.iconst 1, 1) := by decide +kernel
theorem dX4_yes_5 : decode cX4_yes 5 = .ok (.goto 4, 3) := by decide +kernel
theorem dX4_yes_8 : decode cX4_yes 8 = .ok (.iconst 0, 1) := by decide +kernel
theorem dX4_yes_9 : decode cX4_yes 9 = .ok (.ireturn, 1) := by decide +kernel
theorem dX4_comesFirst_0 : decode cX4_comesFirst 0 = .ok (.iload_n 1, 1) := by decide +kernel
theorem dX4_comesFirst_1 : decode cX4_comesFirst 1 = .ok (.iload_n 3, 1) := by decide +kernel
theorem dX4_comesFirst_2 : decode cX4_comesFirst 2 = .ok (.if_icmp .gt 13, 3) := by decide +kernel
theorem dX4_comesFirst_5 : decode cX4_comesFirst 5 = .ok (.iload_n 1, 1) := by decide +kernel
theorem dX4_comesFirst_6 : decode cX4_comesFirst 6 = .ok (.iload_n 3, 1) := by decide +kernel
theorem dX4_comesFirst_7 : decode cX4_comesFirst 7 = .ok (.if_icmp .ne 12, 3) := by decide +kernel
theorem dX4_comesFirst_10 : decode cX4_comesFirst 10 = .ok (.iload_n 0, 1) := by decide +kernel
theorem dX4_comesFirst_11 : decode cX4_comesFirst 11 = .ok (.iload_n 2, 1) := by decide +kernel
theorem dX4_comesFirst_12 : decode cX4_comesFirst 12 = .ok (.if_icmp .ge 7, 3) := by decide +kernel
theorem dX4_comesFirst_15 : decode cX4_comesFirst 15 = .ok (.iconst 1, 1) := by decide +kernel
theorem dX4_comesFirst_16 : decode cX4_comesFirst 16 = .ok (.goto 4, 3) := by decide +kernel
theorem dX4_comesFirst_19 : decode cX4_comesFirst 19 = .ok (.iconst 0, 1) := by decide +kernel
theorem dX4_comesFirst_20 : decode cX4_comesFirst 20 = .ok (.ireturn, 1) := by decide +kernel
theorem dX5_init_0 : decode cX5_init 0 = .ok (.aload_n 0, 1) := by decide +kernel
theorem dX5_init_1 : decode cX5_init 1 = .ok (.invokespecial 1, 3) := by decide +kernel
theorem dX5_init_4 : decode cX5_init 4 = .ok (.aload_n 0, 1) := by decide +kernel
theorem dX5_init_5 : decode cX5_init 5 = .ok (.iconst 4, 1) := by decide +kernel
theorem dX5_init_6 : decode cX5_init 6 = .ok (.newarray .int, 2) := by decide +kernel
theorem dX5_init_8 : decode cX5_init 8 = .ok (.putfield 7, 3) := by decide +kernel
theorem dX5_init_11 : decode cX5_init 11 = .ok (.aload_n 0, 1) := by decide +kernel
theorem dX5_init_12 : decode cX5_init 12 = .ok (.iconst 4, 1) := by decide +kernel
theorem dX5_init_13 : decode cX5_init 13 = .ok (.newarray .int, 2) := by decide +kernel
theorem dX5_init_15 : decode cX5_init 15 = .ok (.putfield 13, 3) := by decide +kernel
theorem dX5_init_18 : decode cX5_init 18 = .ok (.aload_n 0, 1) := by decide +kernel
theorem dX5_init_19 : decode cX5_init 19 = .ok (.iconst 4, 1) := by decide +kernel
theorem dX5_init_20 : decode cX5_init 20 = .ok (.newarray .int, 2) := by decide +kernel
theorem dX5_init_22 : decode cX5_init 22 = .ok (.putfield 16, 3) := by decide +kernel
theorem dX5_init_25 : decode cX5_init 25 = .ok (.aload_n 0, 1) := by decide +kernel
theorem dX5_init_26 : decode cX5_init 26 = .ok (.bipush 80, 2) := by decide +kernel
theorem dX5_init_28 : decode cX5_init 28 = .ok (.newarray .int, 2) := by decide +kernel
theorem dX5_init_30 : decode cX5_init 30 = .ok (.putfield 19, 3) := by decide +kernel
theorem dX5_init_33 : decode cX5_init 33 = .ok (.aload_n 0, 1) := by decide +kernel
theorem dX5_init_34 : decode cX5_init 34 = .ok (.bipush 80, 2) := by decide +kernel
theorem dX5_init_36 : decode cX5_init 36 = .ok (.newarray .int, 2) := by decide +kernel
theorem dX5_init_38 : decode cX5_init 38 = .ok (.putfield 22, 3) := by decide +kernel
theorem dX5_init_41 : decode cX5_init 41 = .ok (.aload_n 0, 1) := by decide +kernel
theorem dX5_init_42 : decode cX5_init 42 = .ok (.iconst 4, 1) := by decide +kernel
theorem dX5_init_43 : decode cX5_init 43 = .ok (.newarray .int, 2) := by decide +kernel
theorem dX5_init_45 : decode cX5_init 45 = .ok (.putfield 25, 3) := by decide +kernel
theorem dX5_init_48 : decode cX5_init 48 = .ok (.aload_n 0, 1) := by decide +kernel
theorem dX5_init_49 : decode cX5_init 49 = .ok (.iconst 4, 1) := by decide +kernel
theorem dX5_init_50 : decode cX5_init 50 = .ok (.newarray .int, 2) := by decide +kernel
theorem dX5_init_52 : decode cX5_init 52 = .ok (.putfield 28, 3) := by decide +kernel
theorem dX5_init_55 : decode cX5_init 55 = .ok (.aload_n 0, 1) := by decide +kernel
theorem dX5_init_56 : decode cX5_init 56 = .ok (.iconst 4, 1) := by decide +kernel
theorem dX5_init_57 : decode cX5_init 57 = .ok (.newarray .int, 2) := by decide +kernel
theorem dX5_init_59 : decode cX5_init 59 = .ok (.putfield 31, 3) := by decide +kernel
theorem dX5_init_62 : decode cX5_init 62 = .ok (.aload_n 0, 1) := by decide +kernel
theorem dX5_init_63 : decode cX5_init 63 = .ok (.bipush 80, 2) := by decide +kernel
theorem dX5_init_65 : decode cX5_init 65 = .ok (.newarray .boolean, 2) := by decide +kernel
theorem dX5_init_67 : decode cX5_init 67 = .ok (.putfield 34, 3) := by decide +kernel
theorem dX5_init_70 : decode cX5_init 70 = .ok (.aload_n 0, 1) := by decide +kernel
theorem dX5_init_71 : decode cX5_init 71 = .ok (.bipush 20, 2) := by decide +kernel
theorem dX5_init_73 : decode cX5_init 73 = .ok (.newarray .boolean, 2) := by decide +kernel
theorem dX5_init_75 : decode cX5_init 75 = .ok (.putfield 38, 3) := by decide +kernel
theorem dX5_init_78 : decode cX5_init 78 = .ok (.aload_n 0, 1) := by decide +kernel
theorem dX5_init_79 : decode cX5_init 79 = .ok (.bipush 20, 2) := by decide +kernel
theorem dX5_init_81 : decode cX5_init 81 = .ok (.newarray .int, 2) := by decide +kernel
theorem dX5_init_83 : decode cX5_init 83 = .ok (.putfield 41, 3) := by decide +kernel
theorem dX5_init_86 : decode cX5_init 86 = .ok (.aload_n 0, 1) := by decide +kernel
theorem dX5_init_87 : decode cX5_init 87 = .ok (.bipush 20, 2) := by decide +kernel
theorem dX5_init_89 : decode cX5_init 89 = .ok (.newarray .int, 2) := by decide +kernel
theorem dX5_init_91 : decode cX5_init 91 = .ok (.putfield 44, 3) := by decide +kernel
theorem dX5_init_94 : decode cX5_init 94 = .ok (.aload_n 0, 1) := by decide +kernel
theorem dX5_init_95 : decode cX5_init 95 = .ok (.bipush 20, 2) := by decide +kernel
theorem dX5_init_97 : decode cX5_init 97 = .ok (.newarray .boolean, 2) := by decide +kernel
theorem dX5_init_99 : decode cX5_init 99 = .ok (.putfield 47, 3) := by decide +kernel
theorem dX5_init_102 : decode cX5_init 102 = .ok (.aload_n 0, 1) := by decide +kernel
theorem dX5_init_103 : decode cX5_init 103 = .ok (.iconst 4, 1) := by decide +kernel
theorem dX5_init_104 : decode cX5_init 104 = .ok (.newarray .int, 2) := by decide +kernel
theorem dX5_init_106 : decode cX5_init 106 = .ok (.putfield 50, 3) := by decide +kernel
theorem dX5_init_109 : decode cX5_init 109 = .ok (.aload_n 0, 1) := by decide +kernel
theorem dX5_init_110 : decode cX5_init 110 = .ok (.bipush 80, 2) := by decide +kernel
theorem dX5_init_112 : decode cX5_init 112 = .ok (.newarray .boolean, 2) := by decide +kernel
theorem dX5_init_114 : decode cX5_init 114 = .ok (.putfield 53, 3) := by decide +kernel
theorem dX5_init_117 : decode cX5_init 117 = .ok (.aload_n 0, 1) := by decide +kernel
theorem dX5_init_118 : decode cX5_init 118 = .ok (.iconst 4, 1) := by decide +kernel
theorem dX5_init_119 : decode cX5_init 119 = .ok (.newarray .int, 2) := by decide +kernel
theorem dX5_init_121 : decode cX5_init 121 = .ok (.putfield 56, 3) := by decide +kernel
theorem dX5_init_124 : decode cX5_init 124 = .ok (.return_, 1) := by decide +kernel
theorem dX5_in_0 : decode cX5_in 0 = .ok (.iload_n 0, 1) := by decide +kernel
theorem dX5_in_1 : decode cX5_in 1 = .ok (.iload_n 1, 1) := by decide +kernel
theorem dX5_in_2 : decode cX5_in 2 = .ok (.if_icmp .lt 12, 3) := by decide +kernel
theorem dX5_in_5 : decode cX5_in 5 = .ok (.iload_n 0, 1) := by decide +kernel
theorem dX5_in_6 : decode cX5_in 6 = .ok (.iload_n 2, 1) := by decide +kernel
theorem dX5_in_7 : decode cX5_in 7 = .ok (.if_icmp .gt 7, 3) := by decide +kernel
theorem dX5_in_10 : decode cX5_in 10 = .ok (.iconst 1, 1) := by decide +kernel
theorem dX5_in_11 : decode cX5_in 11 = .ok (.goto 4, 3) := by decide +kernel
theorem dX5_in_14 : decode cX5_in 14 = .ok (.iconst 0, 1) := by decide +kernel
theorem dX5_in_15 : decode cX5_in 15 = .ok (.ireturn, 1) := by decide +kernel
set_option maxRecDepth 20000 in
theorem ggX5_isThing_X5_in : GoodIn wsX5_isThing wsX5_in := goodIn_r _ [5] (by decide +kernel) (by decide +kernel)
