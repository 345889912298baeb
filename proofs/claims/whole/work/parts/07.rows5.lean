theorem dX5_topOf_54 : decode cX5_topOf 54 = .ok (.iadd, 1) := by decide +kernel
theorem dX5_topOf_55 : decode cX5_topOf 55 = .ok (.iconst 1, 1) := by decide +kernel
theorem dX5_topOf_56 : decode cX5_topOf 56 = .ok (.isub, 1) := by decide +kernel
theorem dX5_topOf_57 : decode cX5_topOf 57 = .ok (.iaload, 1) := by decide +kernel
theorem dX5_topOf_58 : decode cX5_topOf 58 = .ok (.iadd, 1) := by decide +kernel
theorem dX5_topOf_59 : decode cX5_topOf 59 = .ok (.iaload, 1) := by decide +kernel
theorem dX5_topOf_60 : decode cX5_topOf 60 = .ok (.ireturn, 1) := by decide +kernel
set_option maxRecDepth 20000 in
theorem ggX5_boundOf_X5_isKnown : GoodIn wsX5_boundOf wsX5_isKnown := goodIn_r _ [8, 9, 10, 11, 3, 12, 13, 14, 7, 15, 16, 27, 28, 29, 30, 31, 32, 33, 34, 35, 36, 37, 38, 39, 40, 41, 42, 43, 44, 45, 46, 47, 48, 49, 50, 51, 52, 53, 54, 55] (by decide +kernel) (by decide +kernel)
set_option maxRecDepth 20000 in
theorem gX5_boundOf_X5_isKnown : GoodIn wsX5_boundOf (wsV RX5 103 RX5 yX5_isKnown wsX5_isKnown) := goodIn_app (goodIn_of _ (by decide +kernel)) ggX5_boundOf_X5_isKnown
set_option maxRecDepth 20000 in
theorem ggX5_boundOf_X5_topOf : GoodIn wsX5_boundOf wsX5_topOf := goodIn_r _ [20, 10, 11, 3, 16, 27, 28, 29, 30, 31, 32, 33, 34, 35, 36, 37, 38, 39, 40, 41, 42, 43, 44, 45, 46, 47, 48, 49, 50, 51, 52, 53, 54, 55] (by decide +kernel) (by decide +kernel)
set_option maxRecDepth 20000 in
theorem gX5_boundOf_X5_topOf : GoodIn wsX5_boundOf (wsV RX5 107 RX5 yX5_topOf wsX5_topOf) := goodIn_app (goodIn_of _ (by decide +kernel)) ggX5_boundOf_X5_topOf
set_option maxRecDepth 20000 in
theorem ggX5_boundOf_X5_totalOfHand : GoodIn wsX5_boundOf wsX5_totalOfHand := goodIn_r _ [24, 1, 25, 26, 2, 27, 28, 29, 30, 31, 32, 33, 34, 35, 36, 37, 38, 39, 40, 41, 42, 43, 44, 45, 46, 47, 48, 49, 50, 51, 52, 53, 54, 55] (by decide +kernel) (by decide +kernel)
set_option maxRecDepth 20000 in
theorem gX5_boundOf_X5_totalOfHand : GoodIn wsX5_boundOf (wsV RX5 95 RX5 yX5_totalOfHand wsX5_totalOfHand) := goodIn_app (goodIn_of _ (by decide +kernel)) ggX5_boundOf_X5_totalOfHand
theorem dX5_boundOf_0 : decode cX5_boundOf 0 = .ok (.iconst 0, 1) := by decide +kernel
theorem dX5_boundOf_1 : decode cX5_boundOf 1 = .ok (.istore_n 3, 1) := by decide +kernel
theorem dX5_boundOf_2 : decode cX5_boundOf 2 = .ok (.iload_n 3, 1) := by decide +kernel
theorem dX5_boundOf_3 : decode cX5_boundOf 3 = .ok (.aload_n 0, 1) := by decide +kernel
theorem dX5_boundOf_4 : decode cX5_boundOf 4 = .ok (.getfield 70, 3) := by decide +kernel
theorem dX5_boundOf_7 : decode cX5_boundOf 7 = .ok (.if_icmp .ge 51, 3) := by decide +kernel
theorem dX5_boundOf_10 : decode cX5_boundOf 10 = .ok (.aload_n 0, 1) := by decide +kernel
theorem dX5_boundOf_11 : decode cX5_boundOf 11 = .ok (.getfield 28, 3) := by decide +kernel
theorem dX5_boundOf_14 : decode cX5_boundOf 14 = .ok (.iload_n 3, 1) := by decide +kernel
theorem dX5_boundOf_15 : decode cX5_boundOf 15 = .ok (.aload_n 0, 1) := by decide +kernel
theorem dX5_boundOf_16 : decode cX5_boundOf 16 = .ok (.iload_n 3, 1) := by decide +kernel
theorem dX5_boundOf_17 : decode cX5_boundOf 17 = .ok (.iload_n 1, 1) := by decide +kernel
theorem dX5_boundOf_18 : decode cX5_boundOf 18 = .ok (.invokevirtual 103, 3) := by decide +kernel
theorem dX5_boundOf_21 : decode cX5_boundOf 21 = .ok (.ifCond .eq 17, 3) := by decide +kernel
theorem dX5_boundOf_24 : decode cX5_boundOf 24 = .ok (.aload_n 0, 1) := by decide +kernel
theorem dX5_boundOf_25 : decode cX5_boundOf 25 = .ok (.getfield 19, 3) := by decide +kernel
theorem dX5_boundOf_28 : decode cX5_boundOf 28 = .ok (.bipush 20, 2) := by decide +kernel
theorem dX5_boundOf_30 : decode cX5_boundOf 30 = .ok (.iload_n 3, 1) := by decide +kernel
theorem dX5_boundOf_31 : decode cX5_boundOf 31 = .ok (.imul, 1) := by decide +kernel
theorem dX5_boundOf_32 : decode cX5_boundOf 32 = .ok (.iload_n 1, 1) := by decide +kernel
theorem dX5_boundOf_33 : decode cX5_boundOf 33 = .ok (.iadd, 1) := by decide +kernel
theorem dX5_boundOf_34 : decode cX5_boundOf 34 = .ok (.iaload, 1) := by decide +kernel
theorem dX5_boundOf_35 : decode cX5_boundOf 35 = .ok (.goto 16, 3) := by decide +kernel
theorem dX5_boundOf_38 : decode cX5_boundOf 38 = .ok (.iload_n 2, 1) := by decide +kernel
theorem dX5_boundOf_39 : decode cX5_boundOf 39 = .ok (.ifCond .eq 11, 3) := by decide +kernel
theorem dX5_boundOf_42 : decode cX5_boundOf 42 = .ok (.aload_n 0, 1) := by decide +kernel
theorem dX5_boundOf_43 : decode cX5_boundOf 43 = .ok (.iload_n 3, 1) := by decide +kernel
theorem dX5_boundOf_44 : decode cX5_boundOf 44 = .ok (.invokevirtual 107, 3) := by decide +kernel
theorem dX5_boundOf_47 : decode cX5_boundOf 47 = .ok (.goto 4, 3) := by decide +kernel
theorem dX5_boundOf_50 : decode cX5_boundOf 50 = .ok (.iconst 0, 1) := by decide +kernel
theorem dX5_boundOf_51 : decode cX5_boundOf 51 = .ok (.iastore, 1) := by decide +kernel
theorem dX5_boundOf_52 : decode cX5_boundOf 52 = .ok (.iinc 3 1, 3) := by decide +kernel
theorem dX5_boundOf_55 : decode cX5_boundOf 55 = .ok (.goto (-53), 3) := by decide +kernel
theorem dX5_boundOf_58 : decode cX5_boundOf 58 = .ok (.aload_n 0, 1) := by decide +kernel
theorem dX5_boundOf_59 : decode cX5_boundOf 59 = .ok (.invokevirtual 95, 3) := by decide +kernel
theorem dX5_boundOf_62 : decode cX5_boundOf 62 = .ok (.ireturn, 1) := by decide +kernel
set_option maxRecDepth 20000 in
theorem ggX5_isAhead_X5_boundOf : GoodIn wsX5_isAhead wsX5_boundOf := goodIn_r _ [5, 6, 7, 8, 9, 10, 11, 4, 12, 13, 14, 15, 16, 17, 18, 19, 20, 21, 22, 23, 24, 25, 26, 27, 28, 29, 30, 31, 32, 33, 34, 35, 36, 37, 38, 39, 40, 41, 42, 43, 44, 45, 46, 47, 48, 49, 50, 51, 52, 53, 54, 55, 56, 57, 58, 59] (by decide +kernel) (by decide +kernel)
set_option maxRecDepth 20000 in
theorem gX5_isAhead_X5_boundOf : GoodIn wsX5_isAhead (wsV RX5 110 RX5 yX5_boundOf wsX5_boundOf) := goodIn_app (goodIn_of _ (by decide +kernel)) ggX5_isAhead_X5_boundOf
theorem dX5_isAhead_0 : decode cX5_isAhead 0 = .ok (.aload_n 0, 1) := by decide +kernel
theorem dX5_isAhead_1 : decode cX5_isAhead 1 = .ok (.iload_n 1, 1) := by decide +kernel
theorem dX5_isAhead_2 : decode cX5_isAhead 2 = .ok (.iconst 0, 1) := by decide +kernel
theorem dX5_isAhead_3 : decode cX5_isAhead 3 = .ok (.invokevirtual 110, 3) := by decide +kernel
theorem dX5_isAhead_6 : decode cX5_isAhead 6 = .ok (.istore_n 3, 1) := by decide +kernel
theorem dX5_isAhead_7 : decode cX5_isAhead 7 = .ok (.aload_n 0, 1) := by decide +kernel
theorem dX5_isAhead_8 : decode cX5_isAhead 8 = .ok (.iload_n 2, 1) := by decide +kernel
theorem dX5_isAhead_9 : decode cX5_isAhead 9 = .ok (.iconst 1, 1) := by decide +kernel
theorem dX5_isAhead_10 : decode cX5_isAhead 10 = .ok (.invokevirtual 110, 3) := by decide +kernel
theorem dX5_isAhead_13 : decode cX5_isAhead 13 = .ok (.istore 4, 2) := by decide +kernel
theorem dX5_isAhead_15 : decode cX5_isAhead 15 = .ok (.iload_n 3, 1) := by decide +kernel
theorem dX5_isAhead_16 : decode cX5_isAhead 16 = .ok (.iload 4, 2) := by decide +kernel
theorem dX5_isAhead_18 : decode cX5_isAhead 18 = .ok (.if_icmp .gt 14, 3) := by decide +kernel
theorem dX5_isAhead_21 : decode cX5_isAhead 21 = .ok (.iload_n 3, 1) := by decide +kernel
theorem dX5_isAhead_22 : decode cX5_isAhead 22 = .ok (.iload 4, 2) := by decide +kernel
theorem dX5_isAhead_24 : decode cX5_isAhead 24 = .ok (.if_icmp .ne 12, 3) := by decide +kernel
theorem dX5_isAhead_27 : decode cX5_isAhead 27 = .ok (.iload_n 1, 1) := by decide +kernel
theorem dX5_isAhead_28 : decode cX5_isAhead 28 = .ok (.iload_n 2, 1) := by decide +kernel
theorem dX5_isAhead_29 : decode cX5_isAhead 29 = .ok (.if_icmp .ge 7, 3) := by decide +kernel
theorem dX5_isAhead_32 : decode cX5_isAhead 32 = .ok (.iconst 1, 1) := by decide +kernel
theorem dX5_isAhead_33 : decode cX5_isAhead 33 = .ok (.goto 4, 3) := by decide +kernel
theorem dX5_isAhead_36 : decode cX5_isAhead 36 = .ok (.iconst 0, 1) := by decide +kernel
theorem dX5_isAhead_37 : decode cX5_isAhead 37 = .ok (.ireturn, 1) := by decide +kernel
set_option maxRecDepth 20000 in
theorem ggX5_isSure_X5_boundOf : GoodIn wsX5_isSure wsX5_boundOf := goodIn_r _ [9, 10, 11, 12, 13, 14, 15, 8, 16, 17, 18, 19, 20, 21, 22, 23, 24, 25, 26, 27, 28, 29, 30, 31, 32, 33, 34, 35, 36, 37, 38, 39, 40, 41, 42, 43, 44, 45, 46, 47, 48, 49, 50, 51, 52, 53, 54, 55, 56, 57, 58, 59, 60, 61, 62, 63] (by decide +kernel) (by decide +kernel)
set_option maxRecDepth 20000 in
theorem gX5_isSure_X5_boundOf : GoodIn wsX5_isSure (wsV RX5 110 RX5 yX5_boundOf wsX5_boundOf) := goodIn_app (goodIn_of _ (by decide +kernel)) ggX5_isSure_X5_boundOf
theorem dX5_isSure_0 : decode cX5_isSure 0 = .ok (.iconst 0, 1) := by decide +kernel
theorem dX5_isSure_1 : decode cX5_isSure 1 = .ok (.istore_n 2, 1) := by decide +kernel
theorem dX5_isSure_2 : decode cX5_isSure 2 = .ok (.iload_n 2, 1) := by decide +kernel
theorem dX5_isSure_3 : decode cX5_isSure 3 = .ok (.aload_n 0, 1) := by decide +kernel
theorem dX5_isSure_4 : decode cX5_isSure 4 = .ok (.getfield 63, 3) := by decide +kernel
theorem dX5_isSure_7 : decode cX5_isSure 7 = .ok (.if_icmp .ge 33, 3) := by decide +kernel
theorem dX5_isSure_10 : decode cX5_isSure 10 = .ok (.aload_n 0, 1) := by decide +kernel
theorem dX5_isSure_11 : decode cX5_isSure 11 = .ok (.getfield 41, 3) := by decide +kernel
theorem dX5_isSure_14 : decode cX5_isSure 14 = .ok (.iload_n 2, 1) := by decide +kernel
theorem dX5_isSure_15 : decode cX5_isSure 15 = .ok (.aload_n 0, 1) := by decide +kernel
theorem dX5_isSure_16 : decode cX5_isSure 16 = .ok (.iload_n 2, 1) := by decide +kernel
theorem dX5_isSure_17 : decode cX5_isSure 17 = .ok (.iconst 0, 1) := by decide +kernel
theorem dX5_isSure_18 : decode cX5_isSure 18 = .ok (.invokevirtual 110, 3) := by decide +kernel
theorem dX5_isSure_21 : decode cX5_isSure 21 = .ok (.iastore, 1) := by decide +kernel
theorem dX5_isSure_22 : decode cX5_isSure 22 = .ok (.aload_n 0, 1) := by decide +kernel
theorem dX5_isSure_23 : decode cX5_isSure 23 = .ok (.getfield 44, 3) := by decide +kernel
theorem dX5_isSure_26 : decode cX5_isSure 26 = .ok (.iload_n 2, 1) := by decide +kernel
theorem dX5_isSure_27 : decode cX5_isSure 27 = .ok (.aload_n 0, 1) := by decide +kernel
theorem dX5_isSure_28 : decode cX5_isSure 28 = .ok (.iload_n 2, 1) := by decide +kernel
theorem dX5_isSure_29 : decode cX5_isSure 29 = .ok (.iconst 1, 1) := by decide +kernel
theorem dX5_isSure_30 : decode cX5_isSure 30 = .ok (.invokevirtual 110, 3) := by decide +kernel
theorem dX5_isSure_33 : decode cX5_isSure 33 = .ok (.iastore, 1) := by decide +kernel
theorem dX5_isSure_34 : decode cX5_isSure 34 = .ok (.iinc 2 1, 3) := by decide +kernel
theorem dX5_isSure_37 : decode cX5_isSure 37 = .ok (.goto (-35), 3) := by decide +kernel
theorem dX5_isSure_40 : decode cX5_isSure 40 = .ok (.iconst 0, 1) := by decide +kernel
theorem dX5_isSure_41 : decode cX5_isSure 41 = .ok (.istore_n 2, 1) := by decide +kernel
theorem dX5_isSure_42 : decode cX5_isSure 42 = .ok (.iload_n 2, 1) := by decide +kernel
theorem dX5_isSure_43 : decode cX5_isSure 43 = .ok (.aload_n 0, 1) := by decide +kernel
theorem dX5_isSure_44 : decode cX5_isSure 44 = .ok (.getfield 63, 3) := by decide +kernel
theorem dX5_isSure_47 : decode cX5_isSure 47 = .ok (.if_icmp .ge 91, 3) := by decide +kernel
theorem dX5_isSure_50 : decode cX5_isSure 50 = .ok (.iconst 0, 1) := by decide +kernel
theorem dX5_isSure_51 : decode cX5_isSure 51 = .ok (.istore_n 3, 1) := by decide +kernel
theorem dX5_isSure_52 : decode cX5_isSure 52 = .ok (.iconst 0, 1) := by decide +kernel
theorem dX5_isSure_53 : decode cX5_isSure 53 = .ok (.istore 4, 2) := by decide +kernel
theorem dX5_isSure_55 : decode cX5_isSure 55 = .ok (.iload 4, 2) := by decide +kernel
theorem dX5_isSure_57 : decode cX5_isSure 57 = .ok (.aload_n 0, 1) := by decide +kernel
theorem dX5_isSure_58 : decode cX5_isSure 58 = .ok (.getfield 63, 3) := by decide +kernel
theorem dX5_isSure_61 : decode cX5_isSure 61 = .ok (.if_icmp .ge 55, 3) := by decide +kernel
theorem dX5_isSure_64 : decode cX5_isSure 64 = .ok (.iload_n 3, 1) := by decide +kernel
theorem dX5_isSure_65 : decode cX5_isSure 65 = .ok (.aload_n 0, 1) := by decide +kernel
theorem dX5_isSure_66 : decode cX5_isSure 66 = .ok (.getfield 41, 3) := by decide +kernel
theorem dX5_isSure_69 : decode cX5_isSure 69 = .ok (.iload 4, 2) := by decide +kernel
theorem dX5_isSure_71 : decode cX5_isSure 71 = .ok (.iaload, 1) := by decide +kernel
theorem dX5_isSure_72 : decode cX5_isSure 72 = .ok (.aload_n 0, 1) := by decide +kernel
theorem dX5_isSure_73 : decode cX5_isSure 73 = .ok (.getfield 41, 3) := by decide +kernel
theorem dX5_isSure_76 : decode cX5_isSure 76 = .ok (.iload_n 2, 1) := by decide +kernel
theorem dX5_isSure_77 : decode cX5_isSure 77 = .ok (.iaload, 1) := by decide +kernel
theorem dX5_isSure_78 : decode cX5_isSure 78 = .ok (.if_icmp .gt 25, 3) := by decide +kernel
theorem dX5_isSure_81 : decode cX5_isSure 81 = .ok (.aload_n 0, 1) := by decide +kernel
theorem dX5_isSure_82 : decode cX5_isSure 82 = .ok (.getfield 41, 3) := by decide +kernel
theorem dX5_isSure_85 : decode cX5_isSure 85 = .ok (.iload 4, 2) := by decide +kernel
theorem dX5_isSure_87 : decode cX5_isSure 87 = .ok (.iaload, 1) := by decide +kernel
theorem dX5_isSure_88 : decode cX5_isSure 88 = .ok (.aload_n 0, 1) := by decide +kernel
theorem dX5_isSure_89 : decode cX5_isSure 89 = .ok (.getfield 41, 3) := by decide +kernel
theorem dX5_isSure_92 : decode cX5_isSure 92 = .ok (.iload_n 2, 1) := by decide +kernel
theorem dX5_isSure_93 : decode cX5_isSure 93 = .ok (.iaload, 1) := by decide +kernel
theorem dX5_isSure_94 : decode cX5_isSure 94 = .ok (.if_icmp .ne 13, 3) := by decide +kernel
theorem dX5_isSure_97 : decode cX5_isSure 97 = .ok (.iload 4, 2) := by decide +kernel
theorem dX5_isSure_99 : decode cX5_isSure 99 = .ok (.iload_n 2, 1) := by decide +kernel
theorem dX5_isSure_100 : decode cX5_isSure 100 = .ok (.if_icmp .ge 7, 3) := by decide +kernel
theorem dX5_isSure_103 : decode cX5_isSure 103 = .ok (.iconst 1, 1) := by decide +kernel
theorem dX5_isSure_104 : decode cX5_isSure 104 = .ok (.goto 4, 3) := by decide +kernel
theorem dX5_isSure_107 : decode cX5_isSure 107 = .ok (.iconst 0, 1) := by decide +kernel
theorem dX5_isSure_108 : decode cX5_isSure 108 = .ok (.iadd, 1) := by decide +kernel
theorem dX5_isSure_109 : decode cX5_isSure 109 = .ok (.istore_n 3, 1) := by decide +kernel
theorem dX5_isSure_110 : decode cX5_isSure 110 = .ok (.iinc 4 1, 3) := by decide +kernel
theorem dX5_isSure_113 : decode cX5_isSure 113 = .ok (.goto (-58), 3) := by decide +kernel
theorem dX5_isSure_116 : decode cX5_isSure 116 = .ok (.aload_n 0, 1) := by decide +kernel
theorem dX5_isSure_117 : decode cX5_isSure 117 = .ok (.getfield 38, 3) := by decide +kernel
theorem dX5_isSure_120 : decode cX5_isSure 120 = .ok (.iload_n 2, 1) := by decide +kernel
theorem dX5_isSure_121 : decode cX5_isSure 121 = .ok (.iload_n 3, 1) := by decide +kernel
theorem dX5_isSure_122 : decode cX5_isSure 122 = .ok (.iload_n 1, 1) := by decide +kernel
theorem dX5_isSure_123 : decode cX5_isSure 123 = .ok (.if_icmp .ge 7, 3) := by decide +kernel
theorem dX5_isSure_126 : decode cX5_isSure 126 = .ok (.iconst 1, 1) := by decide +kernel
theorem dX5_isSure_127 : decode cX5_isSure 127 = .ok (.goto 4, 3) := by decide +kernel
theorem dX5_isSure_130 : decode cX5_isSure 130 = .ok (.iconst 0, 1) := by decide +kernel
theorem dX5_isSure_131 : decode cX5_isSure 131 = .ok (.bastore, 1) := by decide +kernel
theorem dX5_isSure_132 : decode cX5_isSure 132 = .ok (.iinc 2 1, 3) := by decide +kernel
theorem dX5_isSure_135 : decode cX5_isSure 135 = .ok (.goto (-93), 3) := by decide +kernel
theorem dX5_isSure_138 : decode cX5_isSure 138 = .ok (.iconst 0, 1) := by decide +kernel
theorem dX5_isSure_139 : decode cX5_isSure 139 = .ok (.istore_n 2, 1) := by decide +kernel
theorem dX5_isSure_140 : decode cX5_isSure 140 = .ok (.iload_n 2, 1) := by decide +kernel
theorem dX5_isSure_141 : decode cX5_isSure 141 = .ok (.aload_n 0, 1) := by decide +kernel
theorem dX5_isSure_142 : decode cX5_isSure 142 = .ok (.getfield 63, 3) := by decide +kernel
theorem dX5_isSure_145 : decode cX5_isSure 145 = .ok (.if_icmp .ge 80, 3) := by decide +kernel
theorem dX5_isSure_148 : decode cX5_isSure 148 = .ok (.iconst 0, 1) := by decide +kernel
theorem dX5_isSure_149 : decode cX5_isSure 149 = .ok (.istore_n 3, 1) := by decide +kernel
theorem dX5_isSure_150 : decode cX5_isSure 150 = .ok (.iload_n 3, 1) := by decide +kernel
theorem dX5_isSure_151 : decode cX5_isSure 151 = .ok (.aload_n 0, 1) := by decide +kernel
theorem dX5_isSure_152 : decode cX5_isSure 152 = .ok (.getfield 63, 3) := by decide +kernel
theorem dX5_isSure_155 : decode cX5_isSure 155 = .ok (.if_icmp .ge 64, 3) := by decide +kernel
theorem dX5_isSure_158 : decode cX5_isSure 158 = .ok (.aload_n 0, 1) := by decide +kernel
theorem dX5_isSure_159 : decode cX5_isSure 159 = .ok (.getfield 38, 3) := by decide +kernel
theorem dX5_isSure_162 : decode cX5_isSure 162 = .ok (.iload_n 2, 1) := by decide +kernel
theorem dX5_isSure_163 : decode cX5_isSure 163 = .ok (.baload, 1) := by decide +kernel
theorem dX5_isSure_164 : decode cX5_isSure 164 = .ok (.ifCond .eq 49, 3) := by decide +kernel
theorem dX5_isSure_167 : decode cX5_isSure 167 = .ok (.aload_n 0, 1) := by decide +kernel
theorem dX5_isSure_168 : decode cX5_isSure 168 = .ok (.getfield 38, 3) := by decide +kernel
theorem dX5_isSure_171 : decode cX5_isSure 171 = .ok (.iload_n 3, 1) := by decide +kernel
theorem dX5_isSure_172 : decode cX5_isSure 172 = .ok (.baload, 1) := by decide +kernel
theorem dX5_isSure_173 : decode cX5_isSure 173 = .ok (.ifCond .ne 40, 3) := by decide +kernel
theorem dX5_isSure_176 : decode cX5_isSure 176 = .ok (.aload_n 0, 1) := by decide +kernel
theorem dX5_isSure_177 : decode cX5_isSure 177 = .ok (.getfield 41, 3) := by decide +kernel
theorem dX5_isSure_180 : decode cX5_isSure 180 = .ok (.iload_n 2, 1) := by decide +kernel
theorem dX5_isSure_181 : decode cX5_isSure 181 = .ok (.iaload, 1) := by decide +kernel
theorem dX5_isSure_182 : decode cX5_isSure 182 = .ok (.aload_n 0, 1) := by decide +kernel
theorem dX5_isSure_183 : decode cX5_isSure 183 = .ok (.getfield 44, 3) := by decide +kernel
theorem dX5_isSure_186 : decode cX5_isSure 186 = .ok (.iload_n 3, 1) := by decide +kernel
theorem dX5_isSure_187 : decode cX5_isSure 187 = .ok (.iaload, 1) := by decide +kernel
theorem dX5_isSure_188 : decode cX5_isSure 188 = .ok (.if_icmp .lt 23, 3) := by decide +kernel
theorem dX5_isSure_191 : decode cX5_isSure 191 = .ok (.aload_n 0, 1) := by decide +kernel
theorem dX5_isSure_192 : decode cX5_isSure 192 = .ok (.getfield 41, 3) := by decide +kernel
theorem dX5_isSure_195 : decode cX5_isSure 195 = .ok (.iload_n 2, 1) := by decide +kernel
theorem dX5_isSure_196 : decode cX5_isSure 196 = .ok (.iaload, 1) := by decide +kernel
theorem dX5_isSure_197 : decode cX5_isSure 197 = .ok (.aload_n 0, 1) := by decide +kernel
theorem dX5_isSure_198 : decode cX5_isSure 198 = .ok (.getfield 44, 3) := by decide +kernel
theorem dX5_isSure_201 : decode cX5_isSure 201 = .ok (.iload_n 3, 1) := by decide +kernel
theorem dX5_isSure_202 : decode cX5_isSure 202 = .ok (.iaload, 1) := by decide +kernel
theorem dX5_isSure_203 : decode cX5_isSure 203 = .ok (.if_icmp .ne 10, 3) := by decide +kernel
theorem dX5_isSure_206 : decode cX5_isSure 206 = .ok (.iload_n 2, 1) := by decide +kernel
theorem dX5_isSure_207 : decode cX5_isSure 207 = .ok (.iload_n 3, 1) := by decide +kernel
theorem dX5_isSure_208 : decode cX5_isSure 208 = .ok (.if_icmp .le 5, 3) := by decide +kernel
theorem dX5_isSure_211 : decode cX5_isSure 211 = .ok (.iconst 0, 1) := by decide +kernel
theorem dX5_isSure_212 : decode cX5_isSure 212 = .ok (.ireturn, 1) := by decide +kernel
theorem dX5_isSure_213 : decode cX5_isSure 213 = .ok (.iinc 3 1, 3) := by decide +kernel
theorem dX5_isSure_216 : decode cX5_isSure 216 = .ok (.goto (-66), 3) := by decide +kernel
theorem dX5_isSure_219 : decode cX5_isSure 219 = .ok (.iinc 2 1, 3) := by decide +kernel
theorem dX5_isSure_222 : decode cX5_isSure 222 = .ok (.goto (-82), 3) := by decide +kernel
theorem dX5_isSure_225 : decode cX5_isSure 225 = .ok (.iconst 1, 1) := by decide +kernel
theorem dX5_isSure_226 : decode cX5_isSure 226 = .ok (.ireturn, 1) := by decide +kernel
set_option maxRecDepth 20000 in
theorem ggX5_looks_X5_isSure : GoodIn wsX5_looks wsX5_isSure := goodIn_r _ [9, 10, 11, 12, 4, 13, 14, 15, 8, 16, 17, 18, 19, 20, 21, 22, 23, 24, 25, 26, 27, 28, 29, 30, 31, 32, 33, 34, 35, 36, 37, 38, 39, 40, 41, 42, 43, 44, 45, 46, 47, 48, 49, 50, 51, 52, 53, 54, 55, 56, 57, 58, 59, 60, 61, 62, 63, 64, 65, 66, 67, 68, 69, 70] (by decide +kernel) (by decide +kernel)
set_option maxRecDepth 20000 in
theorem gX5_looks_X5_isSure : GoodIn wsX5_looks (wsV RX5 117 RX5 yX5_isSure wsX5_isSure) := goodIn_app (goodIn_of _ (by decide +kernel)) ggX5_looks_X5_isSure
theorem dX5_looks_0 : decode cX5_looks 0 = .ok (.aload_n 0, 1) := by decide +kernel
theorem dX5_looks_1 : decode cX5_looks 1 = .ok (.aload_n 0, 1) := by decide +kernel
theorem dX5_looks_2 : decode cX5_looks 2 = .ok (.aload_n 0, 1) := by decide +kernel
theorem dX5_looks_3 : decode cX5_looks 3 = .ok (.getfield 114, 3) := by decide +kernel
theorem dX5_looks_6 : decode cX5_looks 6 = .ok (.invokevirtual 117, 3) := by decide +kernel
theorem dX5_looks_9 : decode cX5_looks 9 = .ok (.putfield 120, 3) := by decide +kernel
theorem dX5_looks_12 : decode cX5_looks 12 = .ok (.iconst 0, 1) := by decide +kernel
theorem dX5_looks_13 : decode cX5_looks 13 = .ok (.istore_n 1, 1) := by decide +kernel
theorem dX5_looks_14 : decode cX5_looks 14 = .ok (.iload_n 1, 1) := by decide +kernel
theorem dX5_looks_15 : decode cX5_looks 15 = .ok (.bipush 20, 2) := by decide +kernel
theorem dX5_looks_17 : decode cX5_looks 17 = .ok (.if_icmp .ge 21, 3) := by decide +kernel
theorem dX5_looks_20 : decode cX5_looks 20 = .ok (.aload_n 0, 1) := by decide +kernel
theorem dX5_looks_21 : decode cX5_looks 21 = .ok (.getfield 47, 3) := by decide +kernel
theorem dX5_looks_24 : decode cX5_looks 24 = .ok (.iload_n 1, 1) := by decide +kernel
theorem dX5_looks_25 : decode cX5_looks 25 = .ok (.aload_n 0, 1) := by decide +kernel
theorem dX5_looks_26 : decode cX5_looks 26 = .ok (.getfield 38, 3) := by decide +kernel
theorem dX5_looks_29 : decode cX5_looks 29 = .ok (.iload_n 1, 1) := by decide +kernel
theorem dX5_looks_30 : decode cX5_looks 30 = .ok (.baload, 1) := by decide +kernel
theorem dX5_looks_31 : decode cX5_looks 31 = .ok (.bastore, 1) := by decide +kernel
theorem dX5_looks_32 : decode cX5_looks 32 = .ok (.iinc 1 1, 3) := by decide +kernel
theorem dX5_looks_35 : decode cX5_looks 35 = .ok (.goto (-21), 3) := by decide +kernel
theorem dX5_looks_38 : decode cX5_looks 38 = .ok (.aload_n 0, 1) := by decide +kernel
theorem dX5_looks_39 : decode cX5_looks 39 = .ok (.getfield 120, 3) := by decide +kernel
theorem dX5_looks_42 : decode cX5_looks 42 = .ok (.ireturn, 1) := by decide +kernel
theorem dX5_clear_0 : decode cX5_clear 0 = .ok (.iconst 0, 1) := by decide +kernel
theorem dX5_clear_1 : decode cX5_clear 1 = .ok (.istore_n 1, 1) := by decide +kernel
theorem dX5_clear_2 : decode cX5_clear 2 = .ok (.iload_n 1, 1) := by decide +kernel
theorem dX5_clear_3 : decode cX5_clear 3 = .ok (.iconst 4, 1) := by decide +kernel
theorem dX5_clear_4 : decode cX5_clear 4 = .ok (.if_icmp .ge 16, 3) := by decide +kernel
theorem dX5_clear_7 : decode cX5_clear 7 = .ok (.aload_n 0, 1) := by decide +kernel
theorem dX5_clear_8 : decode cX5_clear 8 = .ok (.getfield 31, 3) := by decide +kernel
theorem dX5_clear_11 : decode cX5_clear 11 = .ok (.iload_n 1, 1) := by decide +kernel
theorem dX5_clear_12 : decode cX5_clear 12 = .ok (.iconst 0, 1) := by decide +kernel
theorem dX5_clear_13 : decode cX5_clear 13 = .ok (.iastore, 1) := by decide +kernel
theorem dX5_clear_14 : decode cX5_clear 14 = .ok (.iinc 1 1, 3) := by decide +kernel
theorem dX5_clear_17 : decode cX5_clear 17 = .ok (.goto (-15), 3) := by decide +kernel
theorem dX5_clear_20 : decode cX5_clear 20 = .ok (.iconst 0, 1) := by decide +kernel
theorem dX5_clear_21 : decode cX5_clear 21 = .ok (.istore_n 1, 1) := by decide +kernel
theorem dX5_clear_22 : decode cX5_clear 22 = .ok (.iload_n 1, 1) := by decide +kernel
theorem dX5_clear_23 : decode cX5_clear 23 = .ok (.bipush 80, 2) := by decide +kernel
theorem dX5_clear_25 : decode cX5_clear 25 = .ok (.if_icmp .ge 16, 3) := by decide +kernel
theorem dX5_clear_28 : decode cX5_clear 28 = .ok (.aload_n 0, 1) := by decide +kernel
theorem dX5_clear_29 : decode cX5_clear 29 = .ok (.getfield 34, 3) := by decide +kernel
theorem dX5_clear_32 : decode cX5_clear 32 = .ok (.iload_n 1, 1) := by decide +kernel
theorem dX5_clear_33 : decode cX5_clear 33 = .ok (.iconst 0, 1) := by decide +kernel
theorem dX5_clear_34 : decode cX5_clear 34 = .ok (.bastore, 1) := by decide +kernel
theorem dX5_clear_35 : decode cX5_clear 35 = .ok (.iinc 1 1, 3) := by decide +kernel
theorem dX5_clear_38 : decode cX5_clear 38 = .ok (.goto (-16), 3) := by decide +kernel
theorem dX5_clear_41 : decode cX5_clear 41 = .ok (.return_, 1) := by decide +kernel
set_option maxRecDepth 20000 in
theorem ggX5_begin_X5_in : GoodIn wsX5_begin wsX5_in := goodIn_r _ [13] (by decide +kernel) (by decide +kernel)
set_option maxRecDepth 20000 in
theorem gX5_begin_X5_in : GoodIn wsX5_begin (va_wsS RX5 66 yX5_in wsX5_in) := goodIn_app (goodIn_of _ (by decide +kernel)) ggX5_begin_X5_in
set_option maxRecDepth 20000 in
theorem ggX5_begin_X5_clear : GoodIn wsX5_begin wsX5_clear := goodIn_r _ [17, 18, 19, 60, 61, 62, 63, 64, 65, 66, 67, 68, 69, 70, 71, 72, 73, 74, 75, 76, 77, 78, 79, 80, 81, 82, 83, 84, 85, 86, 87, 88] (by decide +kernel) (by decide +kernel)
set_option maxRecDepth 20000 in
theorem gX5_begin_X5_clear : GoodIn wsX5_begin (wsV RX5 141 RX5 yX5_clear wsX5_clear) := goodIn_app (goodIn_of _ (by decide +kernel)) ggX5_begin_X5_clear
set_option maxRecDepth 20000 in
theorem ggX5_begin_X5_looks : GoodIn wsX5_begin wsX5_looks := goodIn_r _ [23, 4, 24, 25, 26, 27, 28, 29, 12, 30, 1, 31, 32, 33, 34, 35, 36, 37, 38, 39, 40, 41, 42, 43, 19, 18, 44, 45, 46, 47, 48, 49, 50, 51, 52, 53, 54, 55, 56, 57, 58, 59, 60, 61, 62, 63, 64, 65, 66, 67, 68, 69, 70, 71, 72, 73, 74, 75, 76, 77, 78, 79, 80, 81, 82, 83, 84, 85, 86, 87, 88] (by decide +kernel) (by decide +kernel)
set_option maxRecDepth 20000 in
theorem gX5_begin_X5_looks : GoodIn wsX5_begin (wsV RX5 144 RX5 yX5_looks wsX5_looks) := goodIn_app (goodIn_of _ (by decide +kernel)) ggX5_begin_X5_looks
theorem dX5_begin_0 : decode cX5_begin 0 = .ok (.iload_n 2, 1) := by decide +kernel
theorem dX5_begin_1 : decode cX5_begin 1 = .ok (.iconst 1, 1) := by decide +kernel
theorem dX5_begin_2 : decode cX5_begin 2 = .ok (.aload_n 0, 1) := by decide +kernel
theorem dX5_begin_3 : decode cX5_begin 3 = .ok (.getfield 63, 3) := by decide +kernel
theorem dX5_begin_6 : decode cX5_begin 6 = .ok (.invokestatic 66, 3) := by decide +kernel
theorem dX5_begin_9 : decode cX5_begin 9 = .ok (.ifCond .eq 34, 3) := by decide +kernel
theorem dX5_begin_12 : decode cX5_begin 12 = .ok (.iload_n 1, 1) := by decide +kernel
theorem dX5_begin_13 : decode cX5_begin 13 = .ok (.iconst 0, 1) := by decide +kernel
theorem dX5_begin_14 : decode cX5_begin 14 = .ok (.iconst 2, 1) := by decide +kernel
theorem dX5_begin_15 : decode cX5_begin 15 = .ok (.invokestatic 66, 3) := by decide +kernel
theorem dX5_begin_18 : decode cX5_begin 18 = .ok (.ifCond .eq 25, 3) := by decide +kernel
theorem dX5_begin_21 : decode cX5_begin 21 = .ok (.iload_n 1, 1) := by decide +kernel
theorem dX5_begin_22 : decode cX5_begin 22 = .ok (.iconst 2, 1) := by decide +kernel
theorem dX5_begin_23 : decode cX5_begin 23 = .ok (.if_icmp .ne 16, 3) := by decide +kernel
theorem dX5_begin_26 : decode cX5_begin 26 = .ok (.iload_n 3, 1) := by decide +kernel
theorem dX5_begin_27 : decode cX5_begin 27 = .ok (.iconst 1, 1) := by decide +kernel
theorem dX5_begin_28 : decode cX5_begin 28 = .ok (.bipush 10, 2) := by decide +kernel
theorem dX5_begin_30 : decode cX5_begin 30 = .ok (.invokestatic 66, 3) := by decide +kernel
theorem dX5_begin_33 : decode cX5_begin 33 = .ok (.ifCond .ne 13, 3) := by decide +kernel
theorem dX5_begin_36 : decode cX5_begin 36 = .ok (.goto 7, 3) := by decide +kernel
theorem dX5_begin_39 : decode cX5_begin 39 = .ok (.iload_n 3, 1) := by decide +kernel
theorem dX5_begin_40 : decode cX5_begin 40 = .ok (.ifCond .eq 6, 3) := by decide +kernel
theorem dX5_begin_43 : decode cX5_begin 43 = .ok (.bipush (-2), 2) := by decide +kernel
theorem dX5_begin_45 : decode cX5_begin 45 = .ok (.ireturn, 1) := by decide +kernel
theorem dX5_begin_46 : decode cX5_begin 46 = .ok (.aload_n 0, 1) := by decide +kernel
theorem dX5_begin_47 : decode cX5_begin 47 = .ok (.iconst 1, 1) := by decide +kernel
theorem dX5_begin_48 : decode cX5_begin 48 = .ok (.putfield 73, 3) := by decide +kernel
theorem dX5_begin_51 : decode cX5_begin 51 = .ok (.aload_n 0, 1) := by decide +kernel
theorem dX5_begin_52 : decode cX5_begin 52 = .ok (.iload_n 1, 1) := by decide +kernel
theorem dX5_begin_53 : decode cX5_begin 53 = .ok (.putfield 123, 3) := by decide +kernel
theorem dX5_begin_56 : decode cX5_begin 56 = .ok (.aload_n 0, 1) := by decide +kernel
theorem dX5_begin_57 : decode cX5_begin 57 = .ok (.iload_n 2, 1) := by decide +kernel
theorem dX5_begin_58 : decode cX5_begin 58 = .ok (.putfield 114, 3) := by decide +kernel
theorem dX5_begin_61 : decode cX5_begin 61 = .ok (.aload_n 0, 1) := by decide +kernel
theorem dX5_begin_62 : decode cX5_begin 62 = .ok (.iload_n 3, 1) := by decide +kernel
theorem dX5_begin_63 : decode cX5_begin 63 = .ok (.putfield 126, 3) := by decide +kernel
theorem dX5_begin_66 : decode cX5_begin 66 = .ok (.aload_n 0, 1) := by decide +kernel
theorem dX5_begin_67 : decode cX5_begin 67 = .ok (.iconst 0, 1) := by decide +kernel
theorem dX5_begin_68 : decode cX5_begin 68 = .ok (.putfield 129, 3) := by decide +kernel
theorem dX5_begin_71 : decode cX5_begin 71 = .ok (.aload_n 0, 1) := by decide +kernel
theorem dX5_begin_72 : decode cX5_begin 72 = .ok (.iconst 0, 1) := by decide +kernel
theorem dX5_begin_73 : decode cX5_begin 73 = .ok (.putfield 132, 3) := by decide +kernel
theorem dX5_begin_76 : decode cX5_begin 76 = .ok (.aload_n 0, 1) := by decide +kernel
theorem dX5_begin_77 : decode cX5_begin 77 = .ok (.iconst 0, 1) := by decide +kernel
theorem dX5_begin_78 : decode cX5_begin 78 = .ok (.putfield 135, 3) := by decide +kernel
theorem dX5_begin_81 : decode cX5_begin 81 = .ok (.aload_n 0, 1) := by decide +kernel
theorem dX5_begin_82 : decode cX5_begin 82 = .ok (.iconst 0, 1) := by decide +kernel
theorem dX5_begin_83 : decode cX5_begin 83 = .ok (.putfield 138, 3) := by decide +kernel
theorem dX5_begin_86 : decode cX5_begin 86 = .ok (.aload_n 0, 1) := by decide +kernel
theorem dX5_begin_87 : decode cX5_begin 87 = .ok (.invokevirtual 141, 3) := by decide +kernel
theorem dX5_begin_90 : decode cX5_begin 90 = .ok (.aload_n 0, 1) := by decide +kernel
theorem dX5_begin_91 : decode cX5_begin 91 = .ok (.invokevirtual 144, 3) := by decide +kernel
theorem dX5_begin_94 : decode cX5_begin 94 = .ok (.ifCond .eq 7, 3) := by decide +kernel
theorem dX5_begin_97 : decode cX5_begin 97 = .ok (.iconst 1, 1) := by decide +kernel
theorem dX5_begin_98 : decode cX5_begin 98 = .ok (.goto 4, 3) := by decide +kernel
theorem dX5_begin_101 : decode cX5_begin 101 = .ok (.iconst 0, 1) := by decide +kernel
theorem dX5_begin_102 : decode cX5_begin 102 = .ok (.ireturn, 1) := by decide +kernel
set_option maxRecDepth 20000 in
theorem ggX5_looksUp_X5_isKnown : GoodIn wsX5_looksUp wsX5_isKnown := goodIn_r _ [10, 3, 11, 12, 13, 14, 15, 16, 9, 17, 18, 49, 50, 51, 52, 53, 54, 55, 56, 57, 58, 59, 60, 61, 62, 63, 64, 65, 66, 67, 68, 69, 70, 71, 72, 73, 74, 75, 76, 77] (by decide +kernel) (by decide +kernel)
set_option maxRecDepth 20000 in
theorem gX5_looksUp_X5_isKnown : GoodIn wsX5_looksUp (wsV RX5 103 RX5 yX5_isKnown wsX5_isKnown) := goodIn_app (goodIn_of _ (by decide +kernel)) ggX5_looksUp_X5_isKnown
set_option maxRecDepth 20000 in
theorem ggX5_looksUp_X5_looks : GoodIn wsX5_looksUp wsX5_looks := goodIn_r _ [22, 23, 24, 25, 26, 27, 28, 29, 9, 30, 31, 32, 33, 34, 35, 36, 37, 1, 38, 13, 6, 7, 8, 10, 3, 11, 12, 14, 15, 16, 17, 18, 39, 40, 41, 42, 43, 44, 45, 46, 47, 48, 49, 50, 51, 52, 53, 54, 55, 56, 57, 58, 59, 60, 61, 62, 63, 64, 65, 66, 67, 68, 69, 70, 71, 72, 73, 74, 75, 76, 77] (by decide +kernel) (by decide +kernel)
set_option maxRecDepth 20000 in
theorem gX5_looksUp_X5_looks : GoodIn wsX5_looksUp (wsV RX5 144 RX5 yX5_looks wsX5_looks) := goodIn_app (goodIn_of _ (by decide +kernel)) ggX5_looksUp_X5_looks
theorem dX5_looksUp_0 : decode cX5_looksUp 0 = .ok (.iconst 0, 1) := by decide +kernel
theorem dX5_looksUp_1 : decode cX5_looksUp 1 = .ok (.istore_n 2, 1) := by decide +kernel
theorem dX5_looksUp_2 : decode cX5_looksUp 2 = .ok (.iload_n 2, 1) := by decide +kernel
theorem dX5_looksUp_3 : decode cX5_looksUp 3 = .ok (.aload_n 0, 1) := by decide +kernel
theorem dX5_looksUp_4 : decode cX5_looksUp 4 = .ok (.getfield 70, 3) := by decide +kernel
theorem dX5_looksUp_7 : decode cX5_looksUp 7 = .ok (.if_icmp .ge 76, 3) := by decide +kernel
theorem dX5_looksUp_10 : decode cX5_looksUp 10 = .ok (.aload_n 0, 1) := by decide +kernel
theorem dX5_looksUp_11 : decode cX5_looksUp 11 = .ok (.getfield 16, 3) := by decide +kernel
theorem dX5_looksUp_14 : decode cX5_looksUp 14 = .ok (.iload_n 2, 1) := by decide +kernel
theorem dX5_looksUp_15 : decode cX5_looksUp 15 = .ok (.iaload, 1) := by decide +kernel
theorem dX5_looksUp_16 : decode cX5_looksUp 16 = .ok (.ifCond .eq 61, 3) := by decide +kernel
theorem dX5_looksUp_19 : decode cX5_looksUp 19 = .ok (.aload_n 0, 1) := by decide +kernel
theorem dX5_looksUp_20 : decode cX5_looksUp 20 = .ok (.iload_n 2, 1) := by decide +kernel
theorem dX5_looksUp_21 : decode cX5_looksUp 21 = .ok (.iload_n 1, 1) := by decide +kernel
theorem dX5_looksUp_22 : decode cX5_looksUp 22 = .ok (.invokevirtual 103, 3) := by decide +kernel
theorem dX5_looksUp_25 : decode cX5_looksUp 25 = .ok (.ifCond .eq 6, 3) := by decide +kernel
theorem dX5_looksUp_28 : decode cX5_looksUp 28 = .ok (.goto 49, 3) := by decide +kernel
theorem dX5_looksUp_31 : decode cX5_looksUp 31 = .ok (.aload_n 0, 1) := by decide +kernel
theorem dX5_looksUp_32 : decode cX5_looksUp 32 = .ok (.getfield 34, 3) := by decide +kernel
theorem dX5_looksUp_35 : decode cX5_looksUp 35 = .ok (.bipush 20, 2) := by decide +kernel
theorem dX5_looksUp_37 : decode cX5_looksUp 37 = .ok (.iload_n 2, 1) := by decide +kernel
theorem dX5_looksUp_38 : decode cX5_looksUp 38 = .ok (.imul, 1) := by decide +kernel
theorem dX5_looksUp_39 : decode cX5_looksUp 39 = .ok (.iload_n 1, 1) := by decide +kernel
theorem dX5_looksUp_40 : decode cX5_looksUp 40 = .ok (.iadd, 1) := by decide +kernel
theorem dX5_looksUp_41 : decode cX5_looksUp 41 = .ok (.iconst 1, 1) := by decide +kernel
theorem dX5_looksUp_42 : decode cX5_looksUp 42 = .ok (.bastore, 1) := by decide +kernel
theorem dX5_looksUp_43 : decode cX5_looksUp 43 = .ok (.aload_n 0, 1) := by decide +kernel
theorem dX5_looksUp_44 : decode cX5_looksUp 44 = .ok (.dup, 1) := by decide +kernel
theorem dX5_looksUp_45 : decode cX5_looksUp 45 = .ok (.getfield 135, 3) := by decide +kernel
theorem dX5_looksUp_48 : decode cX5_looksUp 48 = .ok (.iconst 1, 1) := by decide +kernel
theorem dX5_looksUp_49 : decode cX5_looksUp 49 = .ok (.iadd, 1) := by decide +kernel
theorem dX5_looksUp_50 : decode cX5_looksUp 50 = .ok (.putfield 135, 3) := by decide +kernel
theorem dX5_looksUp_53 : decode cX5_looksUp 53 = .ok (.aload_n 0, 1) := by decide +kernel
theorem dX5_looksUp_54 : decode cX5_looksUp 54 = .ok (.dup, 1) := by decide +kernel
theorem dX5_looksUp_55 : decode cX5_looksUp 55 = .ok (.getfield 138, 3) := by decide +kernel
theorem dX5_looksUp_58 : decode cX5_looksUp 58 = .ok (.aload_n 0, 1) := by decide +kernel
theorem dX5_looksUp_59 : decode cX5_looksUp 59 = .ok (.getfield 16, 3) := by decide +kernel
theorem dX5_looksUp_62 : decode cX5_looksUp 62 = .ok (.iload_n 2, 1) := by decide +kernel
theorem dX5_looksUp_63 : decode cX5_looksUp 63 = .ok (.iaload, 1) := by decide +kernel
theorem dX5_looksUp_64 : decode cX5_looksUp 64 = .ok (.iadd, 1) := by decide +kernel
theorem dX5_looksUp_65 : decode cX5_looksUp 65 = .ok (.putfield 138, 3) := by decide +kernel
theorem dX5_looksUp_68 : decode cX5_looksUp 68 = .ok (.aload_n 0, 1) := by decide +kernel
theorem dX5_looksUp_69 : decode cX5_looksUp 69 = .ok (.invokevirtual 144, 3) := by decide +kernel
theorem dX5_looksUp_72 : decode cX5_looksUp 72 = .ok (.ifCond .eq 5, 3) := by decide +kernel
theorem dX5_looksUp_75 : decode cX5_looksUp 75 = .ok (.iconst 1, 1) := by decide +kernel
theorem dX5_looksUp_76 : decode cX5_looksUp 76 = .ok (.ireturn, 1) := by decide +kernel
theorem dX5_looksUp_77 : decode cX5_looksUp 77 = .ok (.iinc 2 1, 3) := by decide +kernel
theorem dX5_looksUp_80 : decode cX5_looksUp 80 = .ok (.goto (-78), 3) := by decide +kernel
theorem dX5_looksUp_83 : decode cX5_looksUp 83 = .ok (.iconst 0, 1) := by decide +kernel
theorem dX5_looksUp_84 : decode cX5_looksUp 84 = .ok (.ireturn, 1) := by decide +kernel
set_option maxRecDepth 20000 in
theorem ggX5_isSeen_X5_placeOf : GoodIn wsX5_isSeen wsX5_placeOf := goodIn_r _ [8, 9, 10, 11, 12, 13, 14, 15, 16, 17, 18, 19, 20, 21, 22, 23, 24, 25, 26, 27, 28, 29, 30, 31, 32, 33, 34, 35, 36, 37, 38, 39] (by decide +kernel) (by decide +kernel)
set_option maxRecDepth 20000 in
theorem gX5_isSeen_X5_placeOf : GoodIn wsX5_isSeen (wsV RX5 91 RX5 yX5_placeOf wsX5_placeOf) := goodIn_app (goodIn_of _ (by decide +kernel)) ggX5_isSeen_X5_placeOf
theorem dX5_isSeen_0 : decode cX5_isSeen 0 = .ok (.iconst 0, 1) := by decide +kernel
theorem dX5_isSeen_1 : decode cX5_isSeen 1 = .ok (.istore_n 2, 1) := by decide +kernel
theorem dX5_isSeen_2 : decode cX5_isSeen 2 = .ok (.iload_n 2, 1) := by decide +kernel
theorem dX5_isSeen_3 : decode cX5_isSeen 3 = .ok (.aload_n 0, 1) := by decide +kernel
theorem dX5_isSeen_4 : decode cX5_isSeen 4 = .ok (.getfield 70, 3) := by decide +kernel
theorem dX5_isSeen_7 : decode cX5_isSeen 7 = .ok (.if_icmp .ge 40, 3) := by decide +kernel
theorem dX5_isSeen_10 : decode cX5_isSeen 10 = .ok (.aload_n 0, 1) := by decide +kernel
theorem dX5_isSeen_11 : decode cX5_isSeen 11 = .ok (.getfield 19, 3) := by decide +kernel
theorem dX5_isSeen_14 : decode cX5_isSeen 14 = .ok (.bipush 20, 2) := by decide +kernel
theorem dX5_isSeen_16 : decode cX5_isSeen 16 = .ok (.iload_n 2, 1) := by decide +kernel
theorem dX5_isSeen_17 : decode cX5_isSeen 17 = .ok (.imul, 1) := by decide +kernel
theorem dX5_isSeen_18 : decode cX5_isSeen 18 = .ok (.iload_n 1, 1) := by decide +kernel
theorem dX5_isSeen_19 : decode cX5_isSeen 19 = .ok (.iadd, 1) := by decide +kernel
theorem dX5_isSeen_20 : decode cX5_isSeen 20 = .ok (.iaload, 1) := by decide +kernel
theorem dX5_isSeen_21 : decode cX5_isSeen 21 = .ok (.ifCond .le 20, 3) := by decide +kernel
theorem dX5_isSeen_24 : decode cX5_isSeen 24 = .ok (.aload_n 0, 1) := by decide +kernel
theorem dX5_isSeen_25 : decode cX5_isSeen 25 = .ok (.iload_n 2, 1) := by decide +kernel
theorem dX5_isSeen_26 : decode cX5_isSeen 26 = .ok (.iload_n 1, 1) := by decide +kernel
theorem dX5_isSeen_27 : decode cX5_isSeen 27 = .ok (.invokevirtual 91, 3) := by decide +kernel
theorem dX5_isSeen_30 : decode cX5_isSeen 30 = .ok (.aload_n 0, 1) := by decide +kernel
theorem dX5_isSeen_31 : decode cX5_isSeen 31 = .ok (.getfield 31, 3) := by decide +kernel
theorem dX5_isSeen_34 : decode cX5_isSeen 34 = .ok (.iload_n 2, 1) := by decide +kernel
theorem dX5_isSeen_35 : decode cX5_isSeen 35 = .ok (.iaload, 1) := by decide +kernel
theorem dX5_isSeen_36 : decode cX5_isSeen 36 = .ok (.if_icmp .ge 5, 3) := by decide +kernel
theorem dX5_isSeen_39 : decode cX5_isSeen 39 = .ok (.iconst 1, 1) := by decide +kernel
theorem dX5_isSeen_40 : decode cX5_isSeen 40 = .ok (.ireturn, 1) := by decide +kernel
theorem dX5_isSeen_41 : decode cX5_isSeen 41 = .ok (.iinc 2 1, 3) := by decide +kernel
theorem dX5_isSeen_44 : decode cX5_isSeen 44 = .ok (.goto (-42), 3) := by decide +kernel
theorem dX5_isSeen_47 : decode cX5_isSeen 47 = .ok (.iconst 0, 1) := by decide +kernel
theorem dX5_isSeen_48 : decode cX5_isSeen 48 = .ok (.ireturn, 1) := by decide +kernel
set_option maxRecDepth 20000 in
theorem ggX5_isOpen_X5_isKnown : GoodIn wsX5_isOpen wsX5_isKnown := goodIn_r _ [7, 8, 9, 10, 11, 12, 13, 14, 6, 15, 16, 17, 18, 19, 20, 21, 22, 23, 24, 25, 26, 27, 28, 29, 30, 31, 32, 33, 34, 35, 36, 37, 38, 39, 40, 41, 42, 43, 44, 45] (by decide +kernel) (by decide +kernel)
set_option maxRecDepth 20000 in
theorem gX5_isOpen_X5_isKnown : GoodIn wsX5_isOpen (wsV RX5 103 RX5 yX5_isKnown wsX5_isKnown) := goodIn_app (goodIn_of _ (by decide +kernel)) ggX5_isOpen_X5_isKnown
theorem dX5_isOpen_0 : decode cX5_isOpen 0 = .ok (.iconst 0, 1) := by decide +kernel
theorem dX5_isOpen_1 : decode cX5_isOpen 1 = .ok (.istore_n 2, 1) := by decide +kernel
theorem dX5_isOpen_2 : decode cX5_isOpen 2 = .ok (.iload_n 2, 1) := by decide +kernel
theorem dX5_isOpen_3 : decode cX5_isOpen 3 = .ok (.aload_n 0, 1) := by decide +kernel
theorem dX5_isOpen_4 : decode cX5_isOpen 4 = .ok (.getfield 70, 3) := by decide +kernel
theorem dX5_isOpen_7 : decode cX5_isOpen 7 = .ok (.if_icmp .ge 29, 3) := by decide +kernel
theorem dX5_isOpen_10 : decode cX5_isOpen 10 = .ok (.aload_n 0, 1) := by decide +kernel
theorem dX5_isOpen_11 : decode cX5_isOpen 11 = .ok (.getfield 16, 3) := by decide +kernel
theorem dX5_isOpen_14 : decode cX5_isOpen 14 = .ok (.iload_n 2, 1) := by decide +kernel
theorem dX5_isOpen_15 : decode cX5_isOpen 15 = .ok (.iaload, 1) := by decide +kernel
theorem dX5_isOpen_16 : decode cX5_isOpen 16 = .ok (.ifCond .le 14, 3) := by decide +kernel
theorem dX5_isOpen_19 : decode cX5_isOpen 19 = .ok (.aload_n 0, 1) := by decide +kernel
theorem dX5_isOpen_20 : decode cX5_isOpen 20 = .ok (.iload_n 2, 1) := by decide +kernel
theorem dX5_isOpen_21 : decode cX5_isOpen 21 = .ok (.iload_n 1, 1) := by decide +kernel
theorem dX5_isOpen_22 : decode cX5_isOpen 22 = .ok (.invokevirtual 103, 3) := by decide +kernel
theorem dX5_isOpen_25 : decode cX5_isOpen 25 = .ok (.ifCond .ne 5, 3) := by decide +kernel
theorem dX5_isOpen_28 : decode cX5_isOpen 28 = .ok (.iconst 1, 1) := by decide +kernel
theorem dX5_isOpen_29 : decode cX5_isOpen 29 = .ok (.ireturn, 1) := by decide +kernel
theorem dX5_isOpen_30 : decode cX5_isOpen 30 = .ok (.iinc 2 1, 3) := by decide +kernel
theorem dX5_isOpen_33 : decode cX5_isOpen 33 = .ok (.goto (-31), 3) := by decide +kernel
theorem dX5_isOpen_36 : decode cX5_isOpen 36 = .ok (.iconst 0, 1) := by decide +kernel
theorem dX5_isOpen_37 : decode cX5_isOpen 37 = .ok (.ireturn, 1) := by decide +kernel
set_option maxRecDepth 20000 in
theorem ggX5_works_X5_looks : GoodIn wsX5_works wsX5_looks := goodIn_r _ [16, 17, 18, 19, 20, 21, 22, 23, 15, 24, 11, 25, 26, 27, 28, 29, 30, 2, 31, 32, 33, 34, 35, 36, 37, 3, 4, 38, 39, 40, 41, 5, 42, 43, 44, 45, 46, 47, 48, 49, 50, 51, 66, 67, 68, 69, 70, 71, 72, 73, 74, 75, 76, 77, 78, 79, 80, 81, 82, 83, 84, 85, 86, 87, 88, 89, 90, 91, 92, 93, 94] (by decide +kernel) (by decide +kernel)
set_option maxRecDepth 20000 in
theorem gX5_works_X5_looks : GoodIn wsX5_works (wsV RX5 144 RX5 yX5_looks wsX5_looks) := goodIn_app (goodIn_of _ (by decide +kernel)) ggX5_works_X5_looks
set_option maxRecDepth 20000 in
theorem ggX5_works_X5_looksUp : GoodIn wsX5_works wsX5_looksUp := goodIn_r _ [55, 2, 56, 37, 57, 7, 33, 34, 35, 15, 36, 3, 4, 32, 38, 39, 40, 41, 5, 12, 13, 14, 16, 17, 18, 19, 20, 21, 22, 23, 24, 11, 25, 26, 27, 28, 29, 30, 31, 42, 43, 44, 45, 46, 47, 48, 49, 50, 51, 66, 67, 68, 69, 70, 71, 72, 73, 74, 75, 76, 77, 78, 79, 80, 81, 82, 83, 84, 85, 86, 87, 88, 89, 90, 91, 92, 93, 94] (by decide +kernel) (by decide +kernel)
set_option maxRecDepth 20000 in
theorem gX5_works_X5_looksUp : GoodIn wsX5_works (wsV RX5 148 RX5 yX5_looksUp wsX5_looksUp) := goodIn_app (goodIn_of _ (by decide +kernel)) ggX5_works_X5_looksUp
set_option maxRecDepth 20000 in
theorem ggX5_works_X5_isSeen : GoodIn wsX5_works wsX5_isSeen := goodIn_r _ [61, 2, 32, 3, 38, 39, 40, 15, 41, 4, 5, 66, 67, 68, 69, 70, 71, 72, 73, 74, 75, 76, 77, 78, 79, 80, 81, 82, 83, 84, 85, 86, 87, 88, 89, 90, 91, 92, 93, 94] (by decide +kernel) (by decide +kernel)
set_option maxRecDepth 20000 in
theorem gX5_works_X5_isSeen : GoodIn wsX5_works (wsV RX5 151 RX5 yX5_isSeen wsX5_isSeen) := goodIn_app (goodIn_of _ (by decide +kernel)) ggX5_works_X5_isSeen
set_option maxRecDepth 20000 in
theorem ggX5_works_X5_isOpen : GoodIn wsX5_works wsX5_isOpen := goodIn_r _ [65, 2, 56, 33, 34, 35, 15, 36, 37, 3, 4, 32, 38, 39, 40, 41, 5, 66, 67, 68, 69, 70, 71, 72, 73, 74, 75, 76, 77, 78, 79, 80, 81, 82, 83, 84, 85, 86, 87, 88, 89, 90, 91, 92, 93, 94] (by decide +kernel) (by decide +kernel)
set_option maxRecDepth 20000 in
theorem gX5_works_X5_isOpen : GoodIn wsX5_works (wsV RX5 154 RX5 yX5_isOpen wsX5_isOpen) := goodIn_app (goodIn_of _ (by decide +kernel)) ggX5_works_X5_isOpen
set_option maxRecDepth 20000 in
theorem ggX5_works_X5_boundOf : GoodIn wsX5_works wsX5_boundOf := goodIn_r _ [30, 2, 31, 32, 33, 34, 35, 15, 36, 37, 3, 4, 38, 39, 40, 41, 5, 42, 43, 44, 45, 46, 47, 48, 49, 50, 51, 66, 67, 68, 69, 70, 71, 72, 73, 74, 75, 76, 77, 78, 79, 80, 81, 82, 83, 84, 85, 86, 87, 88, 89, 90, 91, 92, 93, 94] (by decide +kernel) (by decide +kernel)
set_option maxRecDepth 20000 in
theorem gX5_works_X5_boundOf : GoodIn wsX5_works (wsV RX5 110 RX5 yX5_boundOf wsX5_boundOf) := goodIn_app (goodIn_of _ (by decide +kernel)) ggX5_works_X5_boundOf
theorem dX5_works_0 : decode cX5_works 0 = .ok (.aload_n 0, 1) := by decide +kernel
theorem dX5_works_1 : decode cX5_works 1 = .ok (.dup, 1) := by decide +kernel
theorem dX5_works_2 : decode cX5_works 2 = .ok (.getfield 129, 3) := by decide +kernel
theorem dX5_works_5 : decode cX5_works 5 = .ok (.iconst 1, 1) := by decide +kernel
theorem dX5_works_6 : decode cX5_works 6 = .ok (.iadd, 1) := by decide +kernel
theorem dX5_works_7 : decode cX5_works 7 = .ok (.putfield 129, 3) := by decide +kernel
theorem dX5_works_10 : decode cX5_works 10 = .ok (.iconst 0, 1) := by decide +kernel
theorem dX5_works_11 : decode cX5_works 11 = .ok (.istore_n 1, 1) := by decide +kernel
theorem dX5_works_12 : decode cX5_works 12 = .ok (.iload_n 1, 1) := by decide +kernel
theorem dX5_works_13 : decode cX5_works 13 = .ok (.aload_n 0, 1) := by decide +kernel
theorem dX5_works_14 : decode cX5_works 14 = .ok (.getfield 70, 3) := by decide +kernel
theorem dX5_works_17 : decode cX5_works 17 = .ok (.if_icmp .ge 103, 3) := by decide +kernel
theorem dX5_works_20 : decode cX5_works 20 = .ok (.aload_n 0, 1) := by decide +kernel
theorem dX5_works_21 : decode cX5_works 21 = .ok (.getfield 31, 3) := by decide +kernel
theorem dX5_works_24 : decode cX5_works 24 = .ok (.iload_n 1, 1) := by decide +kernel
theorem dX5_works_25 : decode cX5_works 25 = .ok (.iaload, 1) := by decide +kernel
theorem dX5_works_26 : decode cX5_works 26 = .ok (.aload_n 0, 1) := by decide +kernel
theorem dX5_works_27 : decode cX5_works 27 = .ok (.getfield 25, 3) := by decide +kernel
theorem dX5_works_30 : decode cX5_works 30 = .ok (.iload_n 1, 1) := by decide +kernel
theorem dX5_works_31 : decode cX5_works 31 = .ok (.iaload, 1) := by decide +kernel
theorem dX5_works_32 : decode cX5_works 32 = .ok (.if_icmp .ne 6, 3) := by decide +kernel
theorem dX5_works_35 : decode cX5_works 35 = .ok (.goto 79, 3) := by decide +kernel
theorem dX5_works_38 : decode cX5_works 38 = .ok (.aload_n 0, 1) := by decide +kernel
theorem dX5_works_39 : decode cX5_works 39 = .ok (.getfield 22, 3) := by decide +kernel
theorem dX5_works_42 : decode cX5_works 42 = .ok (.bipush 20, 2) := by decide +kernel
theorem dX5_works_44 : decode cX5_works 44 = .ok (.iload_n 1, 1) := by decide +kernel
theorem dX5_works_45 : decode cX5_works 45 = .ok (.imul, 1) := by decide +kernel
theorem dX5_works_46 : decode cX5_works 46 = .ok (.aload_n 0, 1) := by decide +kernel
theorem dX5_works_47 : decode cX5_works 47 = .ok (.getfield 31, 3) := by decide +kernel
theorem dX5_works_50 : decode cX5_works 50 = .ok (.iload_n 1, 1) := by decide +kernel
theorem dX5_works_51 : decode cX5_works 51 = .ok (.iaload, 1) := by decide +kernel
theorem dX5_works_52 : decode cX5_works 52 = .ok (.iadd, 1) := by decide +kernel
theorem dX5_works_53 : decode cX5_works 53 = .ok (.iaload, 1) := by decide +kernel
theorem dX5_works_54 : decode cX5_works 54 = .ok (.istore_n 2, 1) := by decide +kernel
theorem dX5_works_55 : decode cX5_works 55 = .ok (.aload_n 0, 1) := by decide +kernel
theorem dX5_works_56 : decode cX5_works 56 = .ok (.getfield 31, 3) := by decide +kernel
theorem dX5_works_59 : decode cX5_works 59 = .ok (.iload_n 1, 1) := by decide +kernel
theorem dX5_works_60 : decode cX5_works 60 = .ok (.dup2, 1) := by decide +kernel
theorem dX5_works_61 : decode cX5_works 61 = .ok (.iaload, 1) := by decide +kernel
theorem dX5_works_62 : decode cX5_works 62 = .ok (.iconst 1, 1) := by decide +kernel
theorem dX5_works_63 : decode cX5_works 63 = .ok (.iadd, 1) := by decide +kernel
theorem dX5_works_64 : decode cX5_works 64 = .ok (.iastore, 1) := by decide +kernel
theorem dX5_works_65 : decode cX5_works 65 = .ok (.aload_n 0, 1) := by decide +kernel
theorem dX5_works_66 : decode cX5_works 66 = .ok (.dup, 1) := by decide +kernel
theorem dX5_works_67 : decode cX5_works 67 = .ok (.getfield 132, 3) := by decide +kernel
theorem dX5_works_70 : decode cX5_works 70 = .ok (.iconst 1, 1) := by decide +kernel
theorem dX5_works_71 : decode cX5_works 71 = .ok (.iadd, 1) := by decide +kernel
theorem dX5_works_72 : decode cX5_works 72 = .ok (.putfield 132, 3) := by decide +kernel
theorem dX5_works_75 : decode cX5_works 75 = .ok (.aload_n 0, 1) := by decide +kernel
theorem dX5_works_76 : decode cX5_works 76 = .ok (.dup, 1) := by decide +kernel
theorem dX5_works_77 : decode cX5_works 77 = .ok (.getfield 138, 3) := by decide +kernel
theorem dX5_works_80 : decode cX5_works 80 = .ok (.aload_n 0, 1) := by decide +kernel
theorem dX5_works_81 : decode cX5_works 81 = .ok (.getfield 13, 3) := by decide +kernel
theorem dX5_works_84 : decode cX5_works 84 = .ok (.iload_n 1, 1) := by decide +kernel
theorem dX5_works_85 : decode cX5_works 85 = .ok (.iaload, 1) := by decide +kernel
theorem dX5_works_86 : decode cX5_works 86 = .ok (.iadd, 1) := by decide +kernel
theorem dX5_works_87 : decode cX5_works 87 = .ok (.putfield 138, 3) := by decide +kernel
theorem dX5_works_90 : decode cX5_works 90 = .ok (.aload_n 0, 1) := by decide +kernel
theorem dX5_works_91 : decode cX5_works 91 = .ok (.invokevirtual 144, 3) := by decide +kernel
theorem dX5_works_94 : decode cX5_works 94 = .ok (.ifCond .ne 19, 3) := by decide +kernel
theorem dX5_works_97 : decode cX5_works 97 = .ok (.aload_n 0, 1) := by decide +kernel
theorem dX5_works_98 : decode cX5_works 98 = .ok (.getfield 123, 3) := by decide +kernel
theorem dX5_works_101 : decode cX5_works 101 = .ok (.iconst 1, 1) := by decide +kernel
theorem dX5_works_102 : decode cX5_works 102 = .ok (.if_icmp .ne 12, 3) := by decide +kernel
theorem dX5_works_105 : decode cX5_works 105 = .ok (.aload_n 0, 1) := by decide +kernel
theorem dX5_works_106 : decode cX5_works 106 = .ok (.iload_n 2, 1) := by decide +kernel
theorem dX5_works_107 : decode cX5_works 107 = .ok (.invokevirtual 148, 3) := by decide +kernel
theorem dX5_works_110 : decode cX5_works 110 = .ok (.ifCond .eq 4, 3) := by decide +kernel
theorem dX5_works_113 : decode cX5_works 113 = .ok (.return_, 1) := by decide +kernel
theorem dX5_works_114 : decode cX5_works 114 = .ok (.iinc 1 1, 3) := by decide +kernel
theorem dX5_works_117 : decode cX5_works 117 = .ok (.goto (-105), 3) := by decide +kernel
theorem dX5_works_120 : decode cX5_works 120 = .ok (.aload_n 0, 1) := by decide +kernel
theorem dX5_works_121 : decode cX5_works 121 = .ok (.getfield 123, 3) := by decide +kernel
theorem dX5_works_124 : decode cX5_works 124 = .ok (.iconst 2, 1) := by decide +kernel
theorem dX5_works_125 : decode cX5_works 125 = .ok (.if_icmp .lt 15, 3) := by decide +kernel
theorem dX5_works_128 : decode cX5_works 128 = .ok (.aload_n 0, 1) := by decide +kernel
theorem dX5_works_129 : decode cX5_works 129 = .ok (.getfield 129, 3) := by decide +kernel
theorem dX5_works_132 : decode cX5_works 132 = .ok (.aload_n 0, 1) := by decide +kernel
theorem dX5_works_133 : decode cX5_works 133 = .ok (.getfield 126, 3) := by decide +kernel
theorem dX5_works_136 : decode cX5_works 136 = .ok (.irem, 1) := by decide +kernel
theorem dX5_works_137 : decode cX5_works 137 = .ok (.ifCond .eq 4, 3) := by decide +kernel
theorem dX5_works_140 : decode cX5_works 140 = .ok (.return_, 1) := by decide +kernel
theorem dX5_works_141 : decode cX5_works 141 = .ok (.iconst (-1), 1) := by decide +kernel
theorem dX5_works_142 : decode cX5_works 142 = .ok (.istore_n 1, 1) := by decide +kernel
theorem dX5_works_143 : decode cX5_works 143 = .ok (.iconst 0, 1) := by decide +kernel
theorem dX5_works_144 : decode cX5_works 144 = .ok (.istore_n 2, 1) := by decide +kernel
theorem dX5_works_145 : decode cX5_works 145 = .ok (.iload_n 2, 1) := by decide +kernel
theorem dX5_works_146 : decode cX5_works 146 = .ok (.aload_n 0, 1) := by decide +kernel
theorem dX5_works_147 : decode cX5_works 147 = .ok (.getfield 63, 3) := by decide +kernel
theorem dX5_works_150 : decode cX5_works 150 = .ok (.if_icmp .ge 47, 3) := by decide +kernel
theorem dX5_works_153 : decode cX5_works 153 = .ok (.aload_n 0, 1) := by decide +kernel
theorem dX5_works_154 : decode cX5_works 154 = .ok (.iload_n 2, 1) := by decide +kernel
theorem dX5_works_155 : decode cX5_works 155 = .ok (.invokevirtual 151, 3) := by decide +kernel
theorem dX5_works_158 : decode cX5_works 158 = .ok (.ifCond .eq 33, 3) := by decide +kernel
theorem dX5_works_161 : decode cX5_works 161 = .ok (.aload_n 0, 1) := by decide +kernel
theorem dX5_works_162 : decode cX5_works 162 = .ok (.iload_n 2, 1) := by decide +kernel
theorem dX5_works_163 : decode cX5_works 163 = .ok (.invokevirtual 154, 3) := by decide +kernel
theorem dX5_works_166 : decode cX5_works 166 = .ok (.ifCond .eq 25, 3) := by decide +kernel
theorem dX5_works_169 : decode cX5_works 169 = .ok (.iload_n 1, 1) := by decide +kernel
theorem dX5_works_170 : decode cX5_works 170 = .ok (.iconst (-1), 1) := by decide +kernel
theorem dX5_works_171 : decode cX5_works 171 = .ok (.if_icmp .eq 18, 3) := by decide +kernel
theorem dX5_works_174 : decode cX5_works 174 = .ok (.aload_n 0, 1) := by decide +kernel
theorem dX5_works_175 : decode cX5_works 175 = .ok (.iload_n 2, 1) := by decide +kernel
theorem dX5_works_176 : decode cX5_works 176 = .ok (.iconst 1, 1) := by decide +kernel
theorem dX5_works_177 : decode cX5_works 177 = .ok (.invokevirtual 110, 3) := by decide +kernel
theorem dX5_works_180 : decode cX5_works 180 = .ok (.aload_n 0, 1) := by decide +kernel
theorem dX5_works_181 : decode cX5_works 181 = .ok (.iload_n 1, 1) := by decide +kernel
theorem dX5_works_182 : decode cX5_works 182 = .ok (.iconst 1, 1) := by decide +kernel
theorem dX5_works_183 : decode cX5_works 183 = .ok (.invokevirtual 110, 3) := by decide +kernel
theorem dX5_works_186 : decode cX5_works 186 = .ok (.if_icmp .le 5, 3) := by decide +kernel
theorem dX5_works_189 : decode cX5_works 189 = .ok (.iload_n 2, 1) := by decide +kernel
theorem dX5_works_190 : decode cX5_works 190 = .ok (.istore_n 1, 1) := by decide +kernel
theorem dX5_works_191 : decode cX5_works 191 = .ok (.iinc 2 1, 3) := by decide +kernel
theorem dX5_works_194 : decode cX5_works 194 = .ok (.goto (-49), 3) := by decide +kernel
theorem dX5_works_197 : decode cX5_works 197 = .ok (.iload_n 1, 1) := by decide +kernel
theorem dX5_works_198 : decode cX5_works 198 = .ok (.iconst (-1), 1) := by decide +kernel
theorem dX5_works_199 : decode cX5_works 199 = .ok (.if_icmp .eq 12, 3) := by decide +kernel
theorem dX5_works_202 : decode cX5_works 202 = .ok (.aload_n 0, 1) := by decide +kernel
theorem dX5_works_203 : decode cX5_works 203 = .ok (.iload_n 1, 1) := by decide +kernel
theorem dX5_works_204 : decode cX5_works 204 = .ok (.invokevirtual 148, 3) := by decide +kernel
theorem dX5_works_207 : decode cX5_works 207 = .ok (.ifCond .eq 4, 3) := by decide +kernel
theorem dX5_works_210 : decode cX5_works 210 = .ok (.return_, 1) := by decide +kernel
theorem dX5_works_211 : decode cX5_works 211 = .ok (.return_, 1) := by decide +kernel
set_option maxRecDepth 20000 in
theorem ggX5_round_X5_works : GoodIn wsX5_round wsX5_works := goodIn_r _ [7, 8, 9, 10, 11, 12, 13, 14, 15, 16, 17, 18, 19, 20, 21, 6, 22, 23, 2, 24, 25, 26, 27, 28, 29, 30, 31, 32, 33, 34, 35, 36, 37, 38, 39, 40, 41, 42, 43, 44, 45, 46, 47, 48, 49, 50, 51, 52, 53, 54, 55, 56, 57, 58, 59, 60, 61, 62, 63, 64, 65, 66, 67, 68, 69, 70, 71, 72, 73, 74, 75, 76, 77, 78, 79, 80, 81, 82, 83, 84, 85, 86, 87, 88, 89, 90, 91, 92, 93, 94, 95, 96, 97, 98, 99] (by decide +kernel) (by decide +kernel)
set_option maxRecDepth 20000 in
theorem gX5_round_X5_works : GoodIn wsX5_round (wsV RX5 157 RX5 yX5_works wsX5_works) := goodIn_app (goodIn_of _ (by decide +kernel)) ggX5_round_X5_works
theorem dX5_round_0 : decode cX5_round 0 = .ok (.aload_n 0, 1) := by decide +kernel
theorem dX5_round_1 : decode cX5_round 1 = .ok (.getfield 73, 3) := by decide +kernel
theorem dX5_round_4 : decode cX5_round 4 = .ok (.ifCond .ne 5, 3) := by decide +kernel
theorem dX5_round_7 : decode cX5_round 7 = .ok (.iconst (-1), 1) := by decide +kernel
theorem dX5_round_8 : decode cX5_round 8 = .ok (.ireturn, 1) := by decide +kernel
theorem dX5_round_9 : decode cX5_round 9 = .ok (.aload_n 0, 1) := by decide +kernel
theorem dX5_round_10 : decode cX5_round 10 = .ok (.getfield 120, 3) := by decide +kernel
theorem dX5_round_13 : decode cX5_round 13 = .ok (.ifCond .eq 6, 3) := by decide +kernel
theorem dX5_round_16 : decode cX5_round 16 = .ok (.bipush (-3), 2) := by decide +kernel
theorem dX5_round_18 : decode cX5_round 18 = .ok (.ireturn, 1) := by decide +kernel
theorem dX5_round_19 : decode cX5_round 19 = .ok (.aload_n 0, 1) := by decide +kernel
theorem dX5_round_20 : decode cX5_round 20 = .ok (.invokevirtual 157, 3) := by decide +kernel
theorem dX5_round_23 : decode cX5_round 23 = .ok (.aload_n 0, 1) := by decide +kernel
theorem dX5_round_24 : decode cX5_round 24 = .ok (.getfield 120, 3) := by decide +kernel
theorem dX5_round_27 : decode cX5_round 27 = .ok (.ifCond .eq 7, 3) := by decide +kernel
theorem dX5_round_30 : decode cX5_round 30 = .ok (.iconst 1, 1) := by decide +kernel
theorem dX5_round_31 : decode cX5_round 31 = .ok (.goto 4, 3) := by decide +kernel
theorem dX5_round_34 : decode cX5_round 34 = .ok (.iconst 0, 1) := by decide +kernel
theorem dX5_round_35 : decode cX5_round 35 = .ok (.ireturn, 1) := by decide +kernel
set_option maxRecDepth 20000 in
theorem ggX5_finish_X5_works : GoodIn wsX5_finish wsX5_works := goodIn_r _ [8, 3, 9, 10, 11, 12, 13, 14, 15, 16, 17, 18, 19, 20, 21, 7, 22, 23, 2, 24, 25, 26, 27, 28, 29, 30, 31, 32, 33, 34, 35, 36, 37, 38, 39, 40, 41, 42, 43, 44, 45, 46, 47, 48, 49, 50, 51, 52, 53, 54, 55, 56, 57, 58, 59, 60, 61, 62, 63, 64, 65, 66, 67, 68, 69, 70, 71, 72, 73, 74, 75, 76, 77, 78, 79, 80, 81, 82, 83, 84, 85, 86, 87, 88, 89, 90, 91, 92, 93, 94, 95, 96, 97, 98, 99] (by decide +kernel) (by decide +kernel)
set_option maxRecDepth 20000 in
theorem gX5_finish_X5_works : GoodIn wsX5_finish (wsV RX5 157 RX5 yX5_works wsX5_works) := goodIn_app (goodIn_of _ (by decide +kernel)) ggX5_finish_X5_works
theorem dX5_finish_0 : decode cX5_finish 0 = .ok (.aload_n 0, 1) := by decide +kernel
theorem dX5_finish_1 : decode cX5_finish 1 = .ok (.getfield 73, 3) := by decide +kernel
theorem dX5_finish_4 : decode cX5_finish 4 = .ok (.ifCond .ne 5, 3) := by decide +kernel
theorem dX5_finish_7 : decode cX5_finish 7 = .ok (.iconst (-1), 1) := by decide +kernel
theorem dX5_finish_8 : decode cX5_finish 8 = .ok (.ireturn, 1) := by decide +kernel
theorem dX5_finish_9 : decode cX5_finish 9 = .ok (.aload_n 0, 1) := by decide +kernel
theorem dX5_finish_10 : decode cX5_finish 10 = .ok (.getfield 120, 3) := by decide +kernel
theorem dX5_finish_13 : decode cX5_finish 13 = .ok (.ifCond .eq 6, 3) := by decide +kernel
theorem dX5_finish_16 : decode cX5_finish 16 = .ok (.bipush (-3), 2) := by decide +kernel
theorem dX5_finish_18 : decode cX5_finish 18 = .ok (.ireturn, 1) := by decide +kernel
theorem dX5_finish_19 : decode cX5_finish 19 = .ok (.aload_n 0, 1) := by decide +kernel
theorem dX5_finish_20 : decode cX5_finish 20 = .ok (.getfield 129, 3) := by decide +kernel
theorem dX5_finish_23 : decode cX5_finish 23 = .ok (.istore_n 1, 1) := by decide +kernel
theorem dX5_finish_24 : decode cX5_finish 24 = .ok (.aload_n 0, 1) := by decide +kernel
theorem dX5_finish_25 : decode cX5_finish 25 = .ok (.getfield 120, 3) := by decide +kernel
theorem dX5_finish_28 : decode cX5_finish 28 = .ok (.ifCond .ne 10, 3) := by decide +kernel
theorem dX5_finish_31 : decode cX5_finish 31 = .ok (.aload_n 0, 1) := by decide +kernel
theorem dX5_finish_32 : decode cX5_finish 32 = .ok (.invokevirtual 157, 3) := by decide +kernel
theorem dX5_finish_35 : decode cX5_finish 35 = .ok (.goto (-11), 3) := by decide +kernel
theorem dX5_finish_38 : decode cX5_finish 38 = .ok (.aload_n 0, 1) := by decide +kernel
theorem dX5_finish_39 : decode cX5_finish 39 = .ok (.getfield 129, 3) := by decide +kernel
theorem dX5_finish_42 : decode cX5_finish 42 = .ok (.iload_n 1, 1) := by decide +kernel
theorem dX5_finish_43 : decode cX5_finish 43 = .ok (.isub, 1) := by decide +kernel
theorem dX5_finish_44 : decode cX5_finish 44 = .ok (.ireturn, 1) := by decide +kernel
set_option maxRecDepth 20000 in
theorem ggX5_reader_X5_isSeen : GoodIn wsX5_reader wsX5_isSeen := goodIn_r _ [16, 10, 17, 18, 19, 20, 21, 15, 22, 23, 24, 25, 26, 27, 28, 29, 30, 31, 32, 33, 34, 35, 36, 37, 38, 39, 40, 41, 42, 43, 44, 45, 46, 47, 48, 49, 50, 51, 52, 53] (by decide +kernel) (by decide +kernel)
set_option maxRecDepth 20000 in
theorem gX5_reader_X5_isSeen : GoodIn wsX5_reader (wsV RX5 151 RX5 yX5_isSeen wsX5_isSeen) := goodIn_app (goodIn_of _ (by decide +kernel)) ggX5_reader_X5_isSeen
theorem dX5_reader_0 : decode cX5_reader 0 = .ok (.aload_n 0, 1) := by decide +kernel
theorem dX5_reader_1 : decode cX5_reader 1 = .ok (.getfield 73, 3) := by decide +kernel
theorem dX5_reader_4 : decode cX5_reader 4 = .ok (.ifCond .ne 5, 3) := by decide +kernel
theorem dX5_reader_7 : decode cX5_reader 7 = .ok (.iconst (-1), 1) := by decide +kernel
theorem dX5_reader_8 : decode cX5_reader 8 = .ok (.ireturn, 1) := by decide +kernel
theorem dX5_reader_9 : decode cX5_reader 9 = .ok (.iconst 0, 1) := by decide +kernel
theorem dX5_reader_10 : decode cX5_reader 10 = .ok (.istore_n 2, 1) := by decide +kernel
theorem dX5_reader_11 : decode cX5_reader 11 = .ok (.iload_n 1, 1) := by decide +kernel
theorem dX5_reader_12 : decode cX5_reader 12 = .ok (.tableswitch 174 0 7 #[48, 53, 58, 63, 68, 73, 78, 91], 48) := by decide +kernel
theorem dX5_reader_60 : decode cX5_reader 60 = .ok (.aload_n 0, 1) := by decide +kernel
theorem dX5_reader_61 : decode cX5_reader 61 = .ok (.getfield 123, 3) := by decide +kernel
theorem dX5_reader_64 : decode cX5_reader 64 = .ok (.ireturn, 1) := by decide +kernel
theorem dX5_reader_65 : decode cX5_reader 65 = .ok (.aload_n 0, 1) := by decide +kernel
theorem dX5_reader_66 : decode cX5_reader 66 = .ok (.getfield 114, 3) := by decide +kernel
theorem dX5_reader_69 : decode cX5_reader 69 = .ok (.ireturn, 1) := by decide +kernel
theorem dX5_reader_70 : decode cX5_reader 70 = .ok (.aload_n 0, 1) := by decide +kernel
theorem dX5_reader_71 : decode cX5_reader 71 = .ok (.getfield 129, 3) := by decide +kernel
theorem dX5_reader_74 : decode cX5_reader 74 = .ok (.ireturn, 1) := by decide +kernel
theorem dX5_reader_75 : decode cX5_reader 75 = .ok (.aload_n 0, 1) := by decide +kernel
theorem dX5_reader_76 : decode cX5_reader 76 = .ok (.getfield 132, 3) := by decide +kernel
theorem dX5_reader_79 : decode cX5_reader 79 = .ok (.ireturn, 1) := by decide +kernel
theorem dX5_reader_80 : decode cX5_reader 80 = .ok (.aload_n 0, 1) := by decide +kernel
theorem dX5_reader_81 : decode cX5_reader 81 = .ok (.getfield 135, 3) := by decide +kernel
theorem dX5_reader_84 : decode cX5_reader 84 = .ok (.ireturn, 1) := by decide +kernel
theorem dX5_reader_85 : decode cX5_reader 85 = .ok (.aload_n 0, 1) := by decide +kernel
theorem dX5_reader_86 : decode cX5_reader 86 = .ok (.getfield 138, 3) := by decide +kernel
theorem dX5_reader_89 : decode cX5_reader 89 = .ok (.ireturn, 1) := by decide +kernel
theorem dX5_reader_90 : decode cX5_reader 90 = .ok (.aload_n 0, 1) := by decide +kernel
theorem dX5_reader_91 : decode cX5_reader 91 = .ok (.getfield 120, 3) := by decide +kernel
theorem dX5_reader_94 : decode cX5_reader 94 = .ok (.ifCond .eq 7, 3) := by decide +kernel
theorem dX5_reader_97 : decode cX5_reader 97 = .ok (.iconst 1, 1) := by decide +kernel
theorem dX5_reader_98 : decode cX5_reader 98 = .ok (.goto 4, 3) := by decide +kernel
theorem dX5_reader_101 : decode cX5_reader 101 = .ok (.iconst 0, 1) := by decide +kernel
theorem dX5_reader_102 : decode cX5_reader 102 = .ok (.ireturn, 1) := by decide +kernel
theorem dX5_reader_103 : decode cX5_reader 103 = .ok (.iconst 0, 1) := by decide +kernel
theorem dX5_reader_104 : decode cX5_reader 104 = .ok (.istore_n 3, 1) := by decide +kernel
theorem dX5_reader_105 : decode cX5_reader 105 = .ok (.iload_n 3, 1) := by decide +kernel
theorem dX5_reader_106 : decode cX5_reader 106 = .ok (.aload_n 0, 1) := by decide +kernel
theorem dX5_reader_107 : decode cX5_reader 107 = .ok (.getfield 63, 3) := by decide +kernel
theorem dX5_reader_110 : decode cX5_reader 110 = .ok (.if_icmp .ge 74, 3) := by decide +kernel
theorem dX5_reader_113 : decode cX5_reader 113 = .ok (.aload_n 0, 1) := by decide +kernel
theorem dX5_reader_114 : decode cX5_reader 114 = .ok (.iload_n 3, 1) := by decide +kernel
theorem dX5_reader_115 : decode cX5_reader 115 = .ok (.invokevirtual 151, 3) := by decide +kernel
theorem dX5_reader_118 : decode cX5_reader 118 = .ok (.istore 4, 2) := by decide +kernel
theorem dX5_reader_120 : decode cX5_reader 120 = .ok (.iconst 0, 1) := by decide +kernel
theorem dX5_reader_121 : decode cX5_reader 121 = .ok (.istore 5, 2) := by decide +kernel
theorem dX5_reader_123 : decode cX5_reader 123 = .ok (.iload 5, 2) := by decide +kernel
theorem dX5_reader_125 : decode cX5_reader 125 = .ok (.aload_n 0, 1) := by decide +kernel
theorem dX5_reader_126 : decode cX5_reader 126 = .ok (.getfield 70, 3) := by decide +kernel
theorem dX5_reader_129 : decode cX5_reader 129 = .ok (.if_icmp .ge 36, 3) := by decide +kernel
theorem dX5_reader_132 : decode cX5_reader 132 = .ok (.iload 4, 2) := by decide +kernel
theorem dX5_reader_134 : decode cX5_reader 134 = .ok (.ifCond .ne 18, 3) := by decide +kernel
theorem dX5_reader_137 : decode cX5_reader 137 = .ok (.aload_n 0, 1) := by decide +kernel
theorem dX5_reader_138 : decode cX5_reader 138 = .ok (.getfield 34, 3) := by decide +kernel
theorem dX5_reader_141 : decode cX5_reader 141 = .ok (.bipush 20, 2) := by decide +kernel
theorem dX5_reader_143 : decode cX5_reader 143 = .ok (.iload 5, 2) := by decide +kernel
theorem dX5_reader_145 : decode cX5_reader 145 = .ok (.imul, 1) := by decide +kernel
theorem dX5_reader_146 : decode cX5_reader 146 = .ok (.iload_n 3, 1) := by decide +kernel
theorem dX5_reader_147 : decode cX5_reader 147 = .ok (.iadd, 1) := by decide +kernel
theorem dX5_reader_148 : decode cX5_reader 148 = .ok (.baload, 1) := by decide +kernel
theorem dX5_reader_149 : decode cX5_reader 149 = .ok (.ifCond .eq 7, 3) := by decide +kernel
theorem dX5_reader_152 : decode cX5_reader 152 = .ok (.iconst 1, 1) := by decide +kernel
theorem dX5_reader_153 : decode cX5_reader 153 = .ok (.goto 4, 3) := by decide +kernel
theorem dX5_reader_156 : decode cX5_reader 156 = .ok (.iconst 0, 1) := by decide +kernel
theorem dX5_reader_157 : decode cX5_reader 157 = .ok (.istore 4, 2) := by decide +kernel
theorem dX5_reader_159 : decode cX5_reader 159 = .ok (.iinc 5 1, 3) := by decide +kernel
theorem dX5_reader_162 : decode cX5_reader 162 = .ok (.goto (-39), 3) := by decide +kernel
theorem dX5_reader_165 : decode cX5_reader 165 = .ok (.iload_n 2, 1) := by decide +kernel
theorem dX5_reader_166 : decode cX5_reader 166 = .ok (.iload 4, 2) := by decide +kernel
theorem dX5_reader_168 : decode cX5_reader 168 = .ok (.ifCond .eq 7, 3) := by decide +kernel
theorem dX5_reader_171 : decode cX5_reader 171 = .ok (.iconst 1, 1) := by decide +kernel
theorem dX5_reader_172 : decode cX5_reader 172 = .ok (.goto 4, 3) := by decide +kernel
theorem dX5_reader_175 : decode cX5_reader 175 = .ok (.iconst 0, 1) := by decide +kernel
theorem dX5_reader_176 : decode cX5_reader 176 = .ok (.iadd, 1) := by decide +kernel
theorem dX5_reader_177 : decode cX5_reader 177 = .ok (.istore_n 2, 1) := by decide +kernel
theorem dX5_reader_178 : decode cX5_reader 178 = .ok (.iinc 3 1, 3) := by decide +kernel
theorem dX5_reader_181 : decode cX5_reader 181 = .ok (.goto (-76), 3) := by decide +kernel
theorem dX5_reader_184 : decode cX5_reader 184 = .ok (.iload_n 2, 1) := by decide +kernel
theorem dX5_reader_185 : decode cX5_reader 185 = .ok (.ireturn, 1) := by decide +kernel
theorem dX5_reader_186 : decode cX5_reader 186 = .ok (.iconst (-1), 1) := by decide +kernel
theorem dX5_reader_187 : decode cX5_reader 187 = .ok (.ireturn, 1) := by decide +kernel
set_option maxRecDepth 20000 in
theorem ggX5_depth_X5_isList : GoodIn wsX5_depth wsX5_isList := goodIn_r _ [7, 8, 9, 10, 6, 11, 19, 20, 21, 22, 23, 24, 25, 26, 27, 28, 29, 30, 31, 32, 33, 34, 35, 36, 37, 38, 39, 40, 41, 42, 43, 44, 45, 46, 47] (by decide +kernel) (by decide +kernel)
set_option maxRecDepth 20000 in
theorem gX5_depth_X5_isList : GoodIn wsX5_depth (wsV RX5 77 RX5 yX5_isList wsX5_isList) := goodIn_app (goodIn_of _ (by decide +kernel)) ggX5_depth_X5_isList
set_option maxRecDepth 20000 in
theorem ggX5_depth_X5_topOf : GoodIn wsX5_depth wsX5_topOf := goodIn_r _ [15, 2, 16, 17, 18, 19, 20, 21, 22, 23, 24, 25, 26, 27, 28, 29, 30, 31, 32, 33, 34, 35, 36, 37, 38, 39, 40, 41, 42, 43, 44, 45, 46, 47] (by decide +kernel) (by decide +kernel)
set_option maxRecDepth 20000 in
theorem gX5_depth_X5_topOf : GoodIn wsX5_depth (wsV RX5 107 RX5 yX5_topOf wsX5_topOf) := goodIn_app (goodIn_of _ (by decide +kernel)) ggX5_depth_X5_topOf
theorem dX5_depth_0 : decode cX5_depth 0 = .ok (.aload_n 0, 1) := by decide +kernel
theorem dX5_depth_1 : decode cX5_depth 1 = .ok (.getfield 73, 3) := by decide +kernel
theorem dX5_depth_4 : decode cX5_depth 4 = .ok (.ifCond .eq 11, 3) := by decide +kernel
theorem dX5_depth_7 : decode cX5_depth 7 = .ok (.aload_n 0, 1) := by decide +kernel
theorem dX5_depth_8 : decode cX5_depth 8 = .ok (.iload_n 1, 1) := by decide +kernel
theorem dX5_depth_9 : decode cX5_depth 9 = .ok (.invokevirtual 77, 3) := by decide +kernel
theorem dX5_depth_12 : decode cX5_depth 12 = .ok (.ifCond .ne 5, 3) := by decide +kernel
theorem dX5_depth_15 : decode cX5_depth 15 = .ok (.iconst (-1), 1) := by decide +kernel
theorem dX5_depth_16 : decode cX5_depth 16 = .ok (.ireturn, 1) := by decide +kernel
theorem dX5_depth_17 : decode cX5_depth 17 = .ok (.iload_n 2, 1) := by decide +kernel
theorem dX5_depth_18 : decode cX5_depth 18 = .ok (.ifCond .ne 12, 3) := by decide +kernel
theorem dX5_depth_21 : decode cX5_depth 21 = .ok (.aload_n 0, 1) := by decide +kernel
theorem dX5_depth_22 : decode cX5_depth 22 = .ok (.getfield 31, 3) := by decide +kernel
theorem dX5_depth_25 : decode cX5_depth 25 = .ok (.iload_n 1, 1) := by decide +kernel
theorem dX5_depth_26 : decode cX5_depth 26 = .ok (.iaload, 1) := by decide +kernel
theorem dX5_depth_27 : decode cX5_depth 27 = .ok (.goto 17, 3) := by decide +kernel
theorem dX5_depth_30 : decode cX5_depth 30 = .ok (.iload_n 2, 1) := by decide +kernel
theorem dX5_depth_31 : decode cX5_depth 31 = .ok (.iconst 1, 1) := by decide +kernel
theorem dX5_depth_32 : decode cX5_depth 32 = .ok (.if_icmp .ne 11, 3) := by decide +kernel
theorem dX5_depth_35 : decode cX5_depth 35 = .ok (.aload_n 0, 1) := by decide +kernel
theorem dX5_depth_36 : decode cX5_depth 36 = .ok (.iload_n 1, 1) := by decide +kernel
theorem dX5_depth_37 : decode cX5_depth 37 = .ok (.invokevirtual 107, 3) := by decide +kernel
theorem dX5_depth_40 : decode cX5_depth 40 = .ok (.goto 4, 3) := by decide +kernel
theorem dX5_depth_43 : decode cX5_depth 43 = .ok (.iconst (-1), 1) := by decide +kernel
theorem dX5_depth_44 : decode cX5_depth 44 = .ok (.ireturn, 1) := by decide +kernel
set_option maxRecDepth 20000 in
theorem ggX5_known_X5_isList : GoodIn wsX5_known wsX5_isList := goodIn_r _ [6, 7, 8, 9, 5, 10, 29, 30, 31, 32, 33, 34, 35, 36, 37, 38, 39, 40, 41, 42, 43, 44, 45, 46, 47, 48, 49, 50, 51, 52, 53, 54, 55, 56, 57] (by decide +kernel) (by decide +kernel)
set_option maxRecDepth 20000 in
theorem gX5_known_X5_isList : GoodIn wsX5_known (wsV RX5 77 RX5 yX5_isList wsX5_isList) := goodIn_app (goodIn_of _ (by decide +kernel)) ggX5_known_X5_isList
set_option maxRecDepth 20000 in
theorem ggX5_known_X5_isThing : GoodIn wsX5_known wsX5_isThing := goodIn_r _ [14, 15, 8, 9, 5, 10, 29, 30, 31, 32, 33, 34, 35, 36, 37, 38, 39, 40, 41, 42, 43, 44, 45, 46, 47, 48, 49, 50, 51, 52, 53, 54, 55, 56, 57] (by decide +kernel) (by decide +kernel)
set_option maxRecDepth 20000 in
theorem gX5_known_X5_isThing : GoodIn wsX5_known (wsV RX5 81 RX5 yX5_isThing wsX5_isThing) := goodIn_app (goodIn_of _ (by decide +kernel)) ggX5_known_X5_isThing
set_option maxRecDepth 20000 in
theorem ggX5_known_X5_isKnown : GoodIn wsX5_known wsX5_isKnown := goodIn_r _ [19, 20, 21, 22, 23, 24, 25, 26, 5, 27, 28, 29, 30, 31, 32, 33, 34, 35, 36, 37, 38, 39, 40, 41, 42, 43, 44, 45, 46, 47, 48, 49, 50, 51, 52, 53, 54, 55, 56, 57] (by decide +kernel) (by decide +kernel)
set_option maxRecDepth 20000 in
theorem gX5_known_X5_isKnown : GoodIn wsX5_known (wsV RX5 103 RX5 yX5_isKnown wsX5_isKnown) := goodIn_app (goodIn_of _ (by decide +kernel)) ggX5_known_X5_isKnown
theorem dX5_known_0 : decode cX5_known 0 = .ok (.aload_n 0, 1) := by decide +kernel
theorem dX5_known_1 : decode cX5_known 1 = .ok (.getfield 73, 3) := by decide +kernel
theorem dX5_known_4 : decode cX5_known 4 = .ok (.ifCond .eq 19, 3) := by decide +kernel
theorem dX5_known_7 : decode cX5_known 7 = .ok (.aload_n 0, 1) := by decide +kernel
theorem dX5_known_8 : decode cX5_known 8 = .ok (.iload_n 1, 1) := by decide +kernel
theorem dX5_known_9 : decode cX5_known 9 = .ok (.invokevirtual 77, 3) := by decide +kernel
theorem dX5_known_12 : decode cX5_known 12 = .ok (.ifCond .eq 11, 3) := by decide +kernel
theorem dX5_known_15 : decode cX5_known 15 = .ok (.aload_n 0, 1) := by decide +kernel
theorem dX5_known_16 : decode cX5_known 16 = .ok (.iload_n 2, 1) := by decide +kernel
theorem dX5_known_17 : decode cX5_known 17 = .ok (.invokevirtual 81, 3) := by decide +kernel
theorem dX5_known_20 : decode cX5_known 20 = .ok (.ifCond .ne 5, 3) := by decide +kernel
theorem dX5_known_23 : decode cX5_known 23 = .ok (.iconst (-1), 1) := by decide +kernel
theorem dX5_known_24 : decode cX5_known 24 = .ok (.ireturn, 1) := by decide +kernel
theorem dX5_known_25 : decode cX5_known 25 = .ok (.aload_n 0, 1) := by decide +kernel
theorem dX5_known_26 : decode cX5_known 26 = .ok (.iload_n 1, 1) := by decide +kernel
theorem dX5_known_27 : decode cX5_known 27 = .ok (.iload_n 2, 1) := by decide +kernel
theorem dX5_known_28 : decode cX5_known 28 = .ok (.invokevirtual 103, 3) := by decide +kernel
theorem dX5_known_31 : decode cX5_known 31 = .ok (.ifCond .eq 7, 3) := by decide +kernel
theorem dX5_known_34 : decode cX5_known 34 = .ok (.iconst 1, 1) := by decide +kernel
theorem dX5_known_35 : decode cX5_known 35 = .ok (.goto 4, 3) := by decide +kernel
theorem dX5_known_38 : decode cX5_known 38 = .ok (.iconst 0, 1) := by decide +kernel
theorem dX5_known_39 : decode cX5_known 39 = .ok (.ireturn, 1) := by decide +kernel
