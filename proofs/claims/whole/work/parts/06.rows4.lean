set_option maxRecDepth 20000 in
theorem gX5_isThing_X5_in : GoodIn wsX5_isThing (va_wsS RX5 66 yX5_in wsX5_in) := goodIn_app (goodIn_of _ (by decide +kernel)) ggX5_isThing_X5_in
theorem dX5_isThing_0 : decode cX5_isThing 0 = .ok (.iload_n 1, 1) := by decide +kernel
theorem dX5_isThing_1 : decode cX5_isThing 1 = .ok (.iconst 0, 1) := by decide +kernel
theorem dX5_isThing_2 : decode cX5_isThing 2 = .ok (.aload_n 0, 1) := by decide +kernel
theorem dX5_isThing_3 : decode cX5_isThing 3 = .ok (.getfield 63, 3) := by decide +kernel
theorem dX5_isThing_6 : decode cX5_isThing 6 = .ok (.iconst 1, 1) := by decide +kernel
theorem dX5_isThing_7 : decode cX5_isThing 7 = .ok (.isub, 1) := by decide +kernel
theorem dX5_isThing_8 : decode cX5_isThing 8 = .ok (.invokestatic 66, 3) := by decide +kernel
theorem dX5_isThing_11 : decode cX5_isThing 11 = .ok (.ireturn, 1) := by decide +kernel
set_option maxRecDepth 20000 in
theorem ggX5_isList_X5_in : GoodIn wsX5_isList wsX5_in := goodIn_r _ [5] (by decide +kernel) (by decide +kernel)
set_option maxRecDepth 20000 in
theorem gX5_isList_X5_in : GoodIn wsX5_isList (va_wsS RX5 66 yX5_in wsX5_in) := goodIn_app (goodIn_of _ (by decide +kernel)) ggX5_isList_X5_in
theorem dX5_isList_0 : decode cX5_isList 0 = .ok (.iload_n 1, 1) := by decide +kernel
theorem dX5_isList_1 : decode cX5_isList 1 = .ok (.iconst 0, 1) := by decide +kernel
theorem dX5_isList_2 : decode cX5_isList 2 = .ok (.aload_n 0, 1) := by decide +kernel
theorem dX5_isList_3 : decode cX5_isList 3 = .ok (.getfield 70, 3) := by decide +kernel
theorem dX5_isList_6 : decode cX5_isList 6 = .ok (.iconst 1, 1) := by decide +kernel
theorem dX5_isList_7 : decode cX5_isList 7 = .ok (.isub, 1) := by decide +kernel
theorem dX5_isList_8 : decode cX5_isList 8 = .ok (.invokestatic 66, 3) := by decide +kernel
theorem dX5_isList_11 : decode cX5_isList 11 = .ok (.ireturn, 1) := by decide +kernel
theorem dX5_thing_0 : decode cX5_thing 0 = .ok (.aload_n 0, 1) := by decide +kernel
theorem dX5_thing_1 : decode cX5_thing 1 = .ok (.getfield 63, 3) := by decide +kernel
theorem dX5_thing_4 : decode cX5_thing 4 = .ok (.bipush 20, 2) := by decide +kernel
theorem dX5_thing_6 : decode cX5_thing 6 = .ok (.if_icmp .ne 6, 3) := by decide +kernel
theorem dX5_thing_9 : decode cX5_thing 9 = .ok (.bipush (-4), 2) := by decide +kernel
theorem dX5_thing_11 : decode cX5_thing 11 = .ok (.ireturn, 1) := by decide +kernel
theorem dX5_thing_12 : decode cX5_thing 12 = .ok (.iconst 0, 1) := by decide +kernel
theorem dX5_thing_13 : decode cX5_thing 13 = .ok (.istore_n 1, 1) := by decide +kernel
theorem dX5_thing_14 : decode cX5_thing 14 = .ok (.iload_n 1, 1) := by decide +kernel
theorem dX5_thing_15 : decode cX5_thing 15 = .ok (.iconst 4, 1) := by decide +kernel
theorem dX5_thing_16 : decode cX5_thing 16 = .ok (.if_icmp .ge 24, 3) := by decide +kernel
theorem dX5_thing_19 : decode cX5_thing 19 = .ok (.aload_n 0, 1) := by decide +kernel
theorem dX5_thing_20 : decode cX5_thing 20 = .ok (.getfield 19, 3) := by decide +kernel
theorem dX5_thing_23 : decode cX5_thing 23 = .ok (.bipush 20, 2) := by decide +kernel
theorem dX5_thing_25 : decode cX5_thing 25 = .ok (.iload_n 1, 1) := by decide +kernel
theorem dX5_thing_26 : decode cX5_thing 26 = .ok (.imul, 1) := by decide +kernel
theorem dX5_thing_27 : decode cX5_thing 27 = .ok (.aload_n 0, 1) := by decide +kernel
theorem dX5_thing_28 : decode cX5_thing 28 = .ok (.getfield 63, 3) := by decide +kernel
theorem dX5_thing_31 : decode cX5_thing 31 = .ok (.iadd, 1) := by decide +kernel
theorem dX5_thing_32 : decode cX5_thing 32 = .ok (.iconst 0, 1) := by decide +kernel
theorem dX5_thing_33 : decode cX5_thing 33 = .ok (.iastore, 1) := by decide +kernel
theorem dX5_thing_34 : decode cX5_thing 34 = .ok (.iinc 1 1, 3) := by decide +kernel
theorem dX5_thing_37 : decode cX5_thing 37 = .ok (.goto (-23), 3) := by decide +kernel
theorem dX5_thing_40 : decode cX5_thing 40 = .ok (.aload_n 0, 1) := by decide +kernel
theorem dX5_thing_41 : decode cX5_thing 41 = .ok (.dup, 1) := by decide +kernel
theorem dX5_thing_42 : decode cX5_thing 42 = .ok (.getfield 63, 3) := by decide +kernel
theorem dX5_thing_45 : decode cX5_thing 45 = .ok (.iconst 1, 1) := by decide +kernel
theorem dX5_thing_46 : decode cX5_thing 46 = .ok (.iadd, 1) := by decide +kernel
theorem dX5_thing_47 : decode cX5_thing 47 = .ok (.putfield 63, 3) := by decide +kernel
theorem dX5_thing_50 : decode cX5_thing 50 = .ok (.aload_n 0, 1) := by decide +kernel
theorem dX5_thing_51 : decode cX5_thing 51 = .ok (.iconst 0, 1) := by decide +kernel
theorem dX5_thing_52 : decode cX5_thing 52 = .ok (.putfield 73, 3) := by decide +kernel
theorem dX5_thing_55 : decode cX5_thing 55 = .ok (.aload_n 0, 1) := by decide +kernel
theorem dX5_thing_56 : decode cX5_thing 56 = .ok (.getfield 63, 3) := by decide +kernel
theorem dX5_thing_59 : decode cX5_thing 59 = .ok (.iconst 1, 1) := by decide +kernel
theorem dX5_thing_60 : decode cX5_thing 60 = .ok (.isub, 1) := by decide +kernel
theorem dX5_thing_61 : decode cX5_thing 61 = .ok (.ireturn, 1) := by decide +kernel
set_option maxRecDepth 20000 in
theorem ggX5_list_X5_in : GoodIn wsX5_list wsX5_in := goodIn_r _ [10] (by decide +kernel) (by decide +kernel)
set_option maxRecDepth 20000 in
theorem gX5_list_X5_in : GoodIn wsX5_list (va_wsS RX5 66 yX5_in wsX5_in) := goodIn_app (goodIn_of _ (by decide +kernel)) ggX5_list_X5_in
theorem dX5_list_0 : decode cX5_list 0 = .ok (.iload_n 1, 1) := by decide +kernel
theorem dX5_list_1 : decode cX5_list 1 = .ok (.iconst 0, 1) := by decide +kernel
theorem dX5_list_2 : decode cX5_list 2 = .ok (.bipush 10, 2) := by decide +kernel
theorem dX5_list_4 : decode cX5_list 4 = .ok (.invokestatic 66, 3) := by decide +kernel
theorem dX5_list_7 : decode cX5_list 7 = .ok (.ifCond .eq 23, 3) := by decide +kernel
theorem dX5_list_10 : decode cX5_list 10 = .ok (.iload_n 2, 1) := by decide +kernel
theorem dX5_list_11 : decode cX5_list 11 = .ok (.iconst 1, 1) := by decide +kernel
theorem dX5_list_12 : decode cX5_list 12 = .ok (.bipush 100, 2) := by decide +kernel
theorem dX5_list_14 : decode cX5_list 14 = .ok (.invokestatic 66, 3) := by decide +kernel
theorem dX5_list_17 : decode cX5_list 17 = .ok (.ifCond .eq 13, 3) := by decide +kernel
theorem dX5_list_20 : decode cX5_list 20 = .ok (.iload_n 3, 1) := by decide +kernel
theorem dX5_list_21 : decode cX5_list 21 = .ok (.iconst 0, 1) := by decide +kernel
theorem dX5_list_22 : decode cX5_list 22 = .ok (.bipush 100, 2) := by decide +kernel
theorem dX5_list_24 : decode cX5_list 24 = .ok (.invokestatic 66, 3) := by decide +kernel
theorem dX5_list_27 : decode cX5_list 27 = .ok (.ifCond .ne 6, 3) := by decide +kernel
theorem dX5_list_30 : decode cX5_list 30 = .ok (.bipush (-2), 2) := by decide +kernel
theorem dX5_list_32 : decode cX5_list 32 = .ok (.ireturn, 1) := by decide +kernel
theorem dX5_list_33 : decode cX5_list 33 = .ok (.aload_n 0, 1) := by decide +kernel
theorem dX5_list_34 : decode cX5_list 34 = .ok (.getfield 70, 3) := by decide +kernel
theorem dX5_list_37 : decode cX5_list 37 = .ok (.iconst 4, 1) := by decide +kernel
theorem dX5_list_38 : decode cX5_list 38 = .ok (.if_icmp .ne 6, 3) := by decide +kernel
theorem dX5_list_41 : decode cX5_list 41 = .ok (.bipush (-4), 2) := by decide +kernel
theorem dX5_list_43 : decode cX5_list 43 = .ok (.ireturn, 1) := by decide +kernel
theorem dX5_list_44 : decode cX5_list 44 = .ok (.aload_n 0, 1) := by decide +kernel
theorem dX5_list_45 : decode cX5_list 45 = .ok (.getfield 7, 3) := by decide +kernel
theorem dX5_list_48 : decode cX5_list 48 = .ok (.aload_n 0, 1) := by decide +kernel
theorem dX5_list_49 : decode cX5_list 49 = .ok (.getfield 70, 3) := by decide +kernel
theorem dX5_list_52 : decode cX5_list 52 = .ok (.iload_n 1, 1) := by decide +kernel
theorem dX5_list_53 : decode cX5_list 53 = .ok (.iastore, 1) := by decide +kernel
theorem dX5_list_54 : decode cX5_list 54 = .ok (.aload_n 0, 1) := by decide +kernel
theorem dX5_list_55 : decode cX5_list 55 = .ok (.getfield 13, 3) := by decide +kernel
theorem dX5_list_58 : decode cX5_list 58 = .ok (.aload_n 0, 1) := by decide +kernel
theorem dX5_list_59 : decode cX5_list 59 = .ok (.getfield 70, 3) := by decide +kernel
theorem dX5_list_62 : decode cX5_list 62 = .ok (.iload_n 2, 1) := by decide +kernel
theorem dX5_list_63 : decode cX5_list 63 = .ok (.iastore, 1) := by decide +kernel
theorem dX5_list_64 : decode cX5_list 64 = .ok (.aload_n 0, 1) := by decide +kernel
theorem dX5_list_65 : decode cX5_list 65 = .ok (.getfield 16, 3) := by decide +kernel
theorem dX5_list_68 : decode cX5_list 68 = .ok (.aload_n 0, 1) := by decide +kernel
theorem dX5_list_69 : decode cX5_list 69 = .ok (.getfield 70, 3) := by decide +kernel
theorem dX5_list_72 : decode cX5_list 72 = .ok (.iload_n 3, 1) := by decide +kernel
theorem dX5_list_73 : decode cX5_list 73 = .ok (.iastore, 1) := by decide +kernel
theorem dX5_list_74 : decode cX5_list 74 = .ok (.aload_n 0, 1) := by decide +kernel
theorem dX5_list_75 : decode cX5_list 75 = .ok (.getfield 25, 3) := by decide +kernel
theorem dX5_list_78 : decode cX5_list 78 = .ok (.aload_n 0, 1) := by decide +kernel
theorem dX5_list_79 : decode cX5_list 79 = .ok (.getfield 70, 3) := by decide +kernel
theorem dX5_list_82 : decode cX5_list 82 = .ok (.iconst 0, 1) := by decide +kernel
theorem dX5_list_83 : decode cX5_list 83 = .ok (.iastore, 1) := by decide +kernel
theorem dX5_list_84 : decode cX5_list 84 = .ok (.aload_n 0, 1) := by decide +kernel
theorem dX5_list_85 : decode cX5_list 85 = .ok (.dup, 1) := by decide +kernel
theorem dX5_list_86 : decode cX5_list 86 = .ok (.getfield 70, 3) := by decide +kernel
theorem dX5_list_89 : decode cX5_list 89 = .ok (.iconst 1, 1) := by decide +kernel
theorem dX5_list_90 : decode cX5_list 90 = .ok (.iadd, 1) := by decide +kernel
theorem dX5_list_91 : decode cX5_list 91 = .ok (.putfield 70, 3) := by decide +kernel
theorem dX5_list_94 : decode cX5_list 94 = .ok (.aload_n 0, 1) := by decide +kernel
theorem dX5_list_95 : decode cX5_list 95 = .ok (.iconst 0, 1) := by decide +kernel
theorem dX5_list_96 : decode cX5_list 96 = .ok (.putfield 73, 3) := by decide +kernel
theorem dX5_list_99 : decode cX5_list 99 = .ok (.aload_n 0, 1) := by decide +kernel
theorem dX5_list_100 : decode cX5_list 100 = .ok (.getfield 70, 3) := by decide +kernel
theorem dX5_list_103 : decode cX5_list 103 = .ok (.iconst 1, 1) := by decide +kernel
theorem dX5_list_104 : decode cX5_list 104 = .ok (.isub, 1) := by decide +kernel
theorem dX5_list_105 : decode cX5_list 105 = .ok (.ireturn, 1) := by decide +kernel
theorem dX5_order_0 : decode cX5_order 0 = .ok (.aload_n 0, 1) := by decide +kernel
theorem dX5_order_1 : decode cX5_order 1 = .ok (.getfield 25, 3) := by decide +kernel
theorem dX5_order_4 : decode cX5_order 4 = .ok (.iload_n 1, 1) := by decide +kernel
theorem dX5_order_5 : decode cX5_order 5 = .ok (.iconst 0, 1) := by decide +kernel
theorem dX5_order_6 : decode cX5_order 6 = .ok (.iastore, 1) := by decide +kernel
theorem dX5_order_7 : decode cX5_order 7 = .ok (.iconst 0, 1) := by decide +kernel
theorem dX5_order_8 : decode cX5_order 8 = .ok (.istore_n 2, 1) := by decide +kernel
theorem dX5_order_9 : decode cX5_order 9 = .ok (.iload_n 2, 1) := by decide +kernel
theorem dX5_order_10 : decode cX5_order 10 = .ok (.aload_n 0, 1) := by decide +kernel
theorem dX5_order_11 : decode cX5_order 11 = .ok (.getfield 63, 3) := by decide +kernel
theorem dX5_order_14 : decode cX5_order 14 = .ok (.if_icmp .ge 126, 3) := by decide +kernel
theorem dX5_order_17 : decode cX5_order 17 = .ok (.aload_n 0, 1) := by decide +kernel
theorem dX5_order_18 : decode cX5_order 18 = .ok (.getfield 19, 3) := by decide +kernel
theorem dX5_order_21 : decode cX5_order 21 = .ok (.bipush 20, 2) := by decide +kernel
theorem dX5_order_23 : decode cX5_order 23 = .ok (.iload_n 1, 1) := by decide +kernel
theorem dX5_order_24 : decode cX5_order 24 = .ok (.imul, 1) := by decide +kernel
theorem dX5_order_25 : decode cX5_order 25 = .ok (.iload_n 2, 1) := by decide +kernel
theorem dX5_order_26 : decode cX5_order 26 = .ok (.iadd, 1) := by decide +kernel
theorem dX5_order_27 : decode cX5_order 27 = .ok (.iaload, 1) := by decide +kernel
theorem dX5_order_28 : decode cX5_order 28 = .ok (.ifCond .ne 6, 3) := by decide +kernel
theorem dX5_order_31 : decode cX5_order 31 = .ok (.goto 103, 3) := by decide +kernel
theorem dX5_order_34 : decode cX5_order 34 = .ok (.aload_n 0, 1) := by decide +kernel
theorem dX5_order_35 : decode cX5_order 35 = .ok (.getfield 25, 3) := by decide +kernel
theorem dX5_order_38 : decode cX5_order 38 = .ok (.iload_n 1, 1) := by decide +kernel
theorem dX5_order_39 : decode cX5_order 39 = .ok (.iaload, 1) := by decide +kernel
theorem dX5_order_40 : decode cX5_order 40 = .ok (.istore_n 3, 1) := by decide +kernel
theorem dX5_order_41 : decode cX5_order 41 = .ok (.iload_n 3, 1) := by decide +kernel
theorem dX5_order_42 : decode cX5_order 42 = .ok (.ifCond .le 70, 3) := by decide +kernel
theorem dX5_order_45 : decode cX5_order 45 = .ok (.aload_n 0, 1) := by decide +kernel
theorem dX5_order_46 : decode cX5_order 46 = .ok (.getfield 19, 3) := by decide +kernel
theorem dX5_order_49 : decode cX5_order 49 = .ok (.bipush 20, 2) := by decide +kernel
theorem dX5_order_51 : decode cX5_order 51 = .ok (.iload_n 1, 1) := by decide +kernel
theorem dX5_order_52 : decode cX5_order 52 = .ok (.imul, 1) := by decide +kernel
theorem dX5_order_53 : decode cX5_order 53 = .ok (.aload_n 0, 1) := by decide +kernel
theorem dX5_order_54 : decode cX5_order 54 = .ok (.getfield 22, 3) := by decide +kernel
theorem dX5_order_57 : decode cX5_order 57 = .ok (.bipush 20, 2) := by decide +kernel
theorem dX5_order_59 : decode cX5_order 59 = .ok (.iload_n 1, 1) := by decide +kernel
theorem dX5_order_60 : decode cX5_order 60 = .ok (.imul, 1) := by decide +kernel
theorem dX5_order_61 : decode cX5_order 61 = .ok (.iload_n 3, 1) := by decide +kernel
theorem dX5_order_62 : decode cX5_order 62 = .ok (.iadd, 1) := by decide +kernel
theorem dX5_order_63 : decode cX5_order 63 = .ok (.iconst 1, 1) := by decide +kernel
theorem dX5_order_64 : decode cX5_order 64 = .ok (.isub, 1) := by decide +kernel
theorem dX5_order_65 : decode cX5_order 65 = .ok (.iaload, 1) := by decide +kernel
theorem dX5_order_66 : decode cX5_order 66 = .ok (.iadd, 1) := by decide +kernel
theorem dX5_order_67 : decode cX5_order 67 = .ok (.iaload, 1) := by decide +kernel
theorem dX5_order_68 : decode cX5_order 68 = .ok (.aload_n 0, 1) := by decide +kernel
theorem dX5_order_69 : decode cX5_order 69 = .ok (.getfield 19, 3) := by decide +kernel
theorem dX5_order_72 : decode cX5_order 72 = .ok (.bipush 20, 2) := by decide +kernel
theorem dX5_order_74 : decode cX5_order 74 = .ok (.iload_n 1, 1) := by decide +kernel
theorem dX5_order_75 : decode cX5_order 75 = .ok (.imul, 1) := by decide +kernel
theorem dX5_order_76 : decode cX5_order 76 = .ok (.iload_n 2, 1) := by decide +kernel
theorem dX5_order_77 : decode cX5_order 77 = .ok (.iadd, 1) := by decide +kernel
theorem dX5_order_78 : decode cX5_order 78 = .ok (.iaload, 1) := by decide +kernel
theorem dX5_order_79 : decode cX5_order 79 = .ok (.if_icmp .ge 33, 3) := by decide +kernel
theorem dX5_order_82 : decode cX5_order 82 = .ok (.aload_n 0, 1) := by decide +kernel
theorem dX5_order_83 : decode cX5_order 83 = .ok (.getfield 22, 3) := by decide +kernel
theorem dX5_order_86 : decode cX5_order 86 = .ok (.bipush 20, 2) := by decide +kernel
theorem dX5_order_88 : decode cX5_order 88 = .ok (.iload_n 1, 1) := by decide +kernel
theorem dX5_order_89 : decode cX5_order 89 = .ok (.imul, 1) := by decide +kernel
theorem dX5_order_90 : decode cX5_order 90 = .ok (.iload_n 3, 1) := by decide +kernel
theorem dX5_order_91 : decode cX5_order 91 = .ok (.iadd, 1) := by decide +kernel
theorem dX5_order_92 : decode cX5_order 92 = .ok (.aload_n 0, 1) := by decide +kernel
theorem dX5_order_93 : decode cX5_order 93 = .ok (.getfield 22, 3) := by decide +kernel
theorem dX5_order_96 : decode cX5_order 96 = .ok (.bipush 20, 2) := by decide +kernel
theorem dX5_order_98 : decode cX5_order 98 = .ok (.iload_n 1, 1) := by decide +kernel
theorem dX5_order_99 : decode cX5_order 99 = .ok (.imul, 1) := by decide +kernel
theorem dX5_order_100 : decode cX5_order 100 = .ok (.iload_n 3, 1) := by decide +kernel
theorem dX5_order_101 : decode cX5_order 101 = .ok (.iadd, 1) := by decide +kernel
theorem dX5_order_102 : decode cX5_order 102 = .ok (.iconst 1, 1) := by decide +kernel
theorem dX5_order_103 : decode cX5_order 103 = .ok (.isub, 1) := by decide +kernel
theorem dX5_order_104 : decode cX5_order 104 = .ok (.iaload, 1) := by decide +kernel
theorem dX5_order_105 : decode cX5_order 105 = .ok (.iastore, 1) := by decide +kernel
theorem dX5_order_106 : decode cX5_order 106 = .ok (.iinc 3 (-1), 3) := by decide +kernel
theorem dX5_order_109 : decode cX5_order 109 = .ok (.goto (-68), 3) := by decide +kernel
theorem dX5_order_112 : decode cX5_order 112 = .ok (.aload_n 0, 1) := by decide +kernel
theorem dX5_order_113 : decode cX5_order 113 = .ok (.getfield 22, 3) := by decide +kernel
theorem dX5_order_116 : decode cX5_order 116 = .ok (.bipush 20, 2) := by decide +kernel
theorem dX5_order_118 : decode cX5_order 118 = .ok (.iload_n 1, 1) := by decide +kernel
theorem dX5_order_119 : decode cX5_order 119 = .ok (.imul, 1) := by decide +kernel
theorem dX5_order_120 : decode cX5_order 120 = .ok (.iload_n 3, 1) := by decide +kernel
theorem dX5_order_121 : decode cX5_order 121 = .ok (.iadd, 1) := by decide +kernel
theorem dX5_order_122 : decode cX5_order 122 = .ok (.iload_n 2, 1) := by decide +kernel
theorem dX5_order_123 : decode cX5_order 123 = .ok (.iastore, 1) := by decide +kernel
theorem dX5_order_124 : decode cX5_order 124 = .ok (.aload_n 0, 1) := by decide +kernel
theorem dX5_order_125 : decode cX5_order 125 = .ok (.getfield 25, 3) := by decide +kernel
theorem dX5_order_128 : decode cX5_order 128 = .ok (.iload_n 1, 1) := by decide +kernel
theorem dX5_order_129 : decode cX5_order 129 = .ok (.dup2, 1) := by decide +kernel
theorem dX5_order_130 : decode cX5_order 130 = .ok (.iaload, 1) := by decide +kernel
theorem dX5_order_131 : decode cX5_order 131 = .ok (.iconst 1, 1) := by decide +kernel
theorem dX5_order_132 : decode cX5_order 132 = .ok (.iadd, 1) := by decide +kernel
theorem dX5_order_133 : decode cX5_order 133 = .ok (.iastore, 1) := by decide +kernel
theorem dX5_order_134 : decode cX5_order 134 = .ok (.iinc 2 1, 3) := by decide +kernel
theorem dX5_order_137 : decode cX5_order 137 = .ok (.goto (-128), 3) := by decide +kernel
theorem dX5_order_140 : decode cX5_order 140 = .ok (.aload_n 0, 1) := by decide +kernel
theorem dX5_order_141 : decode cX5_order 141 = .ok (.iconst 0, 1) := by decide +kernel
theorem dX5_order_142 : decode cX5_order 142 = .ok (.putfield 73, 3) := by decide +kernel
theorem dX5_order_145 : decode cX5_order 145 = .ok (.return_, 1) := by decide +kernel
set_option maxRecDepth 20000 in
theorem ggX5_mark_X5_isList : GoodIn wsX5_mark wsX5_isList := goodIn_r _ [6, 7, 8, 9, 5, 10, 23, 24, 25, 26, 27, 28, 29, 30, 31, 32, 33, 34, 35, 36, 37, 38, 39, 40, 41, 42, 43, 44, 45, 46, 47, 48, 49, 50, 51] (by decide +kernel) (by decide +kernel)
set_option maxRecDepth 20000 in
theorem gX5_mark_X5_isList : GoodIn wsX5_mark (wsV RX5 77 RX5 yX5_isList wsX5_isList) := goodIn_app (goodIn_of _ (by decide +kernel)) ggX5_mark_X5_isList
set_option maxRecDepth 20000 in
theorem ggX5_mark_X5_isThing : GoodIn wsX5_mark wsX5_isThing := goodIn_r _ [14, 15, 8, 9, 5, 10, 23, 24, 25, 26, 27, 28, 29, 30, 31, 32, 33, 34, 35, 36, 37, 38, 39, 40, 41, 42, 43, 44, 45, 46, 47, 48, 49, 50, 51] (by decide +kernel) (by decide +kernel)
set_option maxRecDepth 20000 in
theorem gX5_mark_X5_isThing : GoodIn wsX5_mark (wsV RX5 81 RX5 yX5_isThing wsX5_isThing) := goodIn_app (goodIn_of _ (by decide +kernel)) ggX5_mark_X5_isThing
set_option maxRecDepth 20000 in
theorem ggX5_mark_X5_in : GoodIn wsX5_mark wsX5_in := goodIn_r _ [10] (by decide +kernel) (by decide +kernel)
set_option maxRecDepth 20000 in
theorem gX5_mark_X5_in : GoodIn wsX5_mark (va_wsS RX5 66 yX5_in wsX5_in) := goodIn_app (goodIn_of _ (by decide +kernel)) ggX5_mark_X5_in
set_option maxRecDepth 20000 in
theorem ggX5_mark_X5_order : GoodIn wsX5_mark wsX5_order := goodIn_r _ [19, 20, 15, 1, 21, 22, 23, 24, 25, 26, 27, 28, 29, 30, 31, 32, 33, 34, 35, 36, 37, 38, 39, 40, 41, 42, 43, 44, 45, 46, 47, 48, 49, 50, 51] (by decide +kernel) (by decide +kernel)
set_option maxRecDepth 20000 in
theorem gX5_mark_X5_order : GoodIn wsX5_mark (wsV RX5 84 RX5 yX5_order wsX5_order) := goodIn_app (goodIn_of _ (by decide +kernel)) ggX5_mark_X5_order
theorem dX5_mark_0 : decode cX5_mark 0 = .ok (.aload_n 0, 1) := by decide +kernel
theorem dX5_mark_1 : decode cX5_mark 1 = .ok (.iload_n 1, 1) := by decide +kernel
theorem dX5_mark_2 : decode cX5_mark 2 = .ok (.invokevirtual 77, 3) := by decide +kernel
theorem dX5_mark_5 : decode cX5_mark 5 = .ok (.ifCond .eq 11, 3) := by decide +kernel
theorem dX5_mark_8 : decode cX5_mark 8 = .ok (.aload_n 0, 1) := by decide +kernel
theorem dX5_mark_9 : decode cX5_mark 9 = .ok (.iload_n 2, 1) := by decide +kernel
theorem dX5_mark_10 : decode cX5_mark 10 = .ok (.invokevirtual 81, 3) := by decide +kernel
theorem dX5_mark_13 : decode cX5_mark 13 = .ok (.ifCond .ne 5, 3) := by decide +kernel
theorem dX5_mark_16 : decode cX5_mark 16 = .ok (.iconst (-1), 1) := by decide +kernel
theorem dX5_mark_17 : decode cX5_mark 17 = .ok (.ireturn, 1) := by decide +kernel
theorem dX5_mark_18 : decode cX5_mark 18 = .ok (.iload_n 3, 1) := by decide +kernel
theorem dX5_mark_19 : decode cX5_mark 19 = .ok (.iconst 1, 1) := by decide +kernel
theorem dX5_mark_20 : decode cX5_mark 20 = .ok (.sipush 1000, 3) := by decide +kernel
theorem dX5_mark_23 : decode cX5_mark 23 = .ok (.invokestatic 66, 3) := by decide +kernel
theorem dX5_mark_26 : decode cX5_mark 26 = .ok (.ifCond .ne 6, 3) := by decide +kernel
theorem dX5_mark_29 : decode cX5_mark 29 = .ok (.bipush (-2), 2) := by decide +kernel
theorem dX5_mark_31 : decode cX5_mark 31 = .ok (.ireturn, 1) := by decide +kernel
theorem dX5_mark_32 : decode cX5_mark 32 = .ok (.aload_n 0, 1) := by decide +kernel
theorem dX5_mark_33 : decode cX5_mark 33 = .ok (.getfield 19, 3) := by decide +kernel
theorem dX5_mark_36 : decode cX5_mark 36 = .ok (.bipush 20, 2) := by decide +kernel
theorem dX5_mark_38 : decode cX5_mark 38 = .ok (.iload_n 1, 1) := by decide +kernel
theorem dX5_mark_39 : decode cX5_mark 39 = .ok (.imul, 1) := by decide +kernel
theorem dX5_mark_40 : decode cX5_mark 40 = .ok (.iload_n 2, 1) := by decide +kernel
theorem dX5_mark_41 : decode cX5_mark 41 = .ok (.iadd, 1) := by decide +kernel
theorem dX5_mark_42 : decode cX5_mark 42 = .ok (.iaload, 1) := by decide +kernel
theorem dX5_mark_43 : decode cX5_mark 43 = .ok (.istore 4, 2) := by decide +kernel
theorem dX5_mark_45 : decode cX5_mark 45 = .ok (.aload_n 0, 1) := by decide +kernel
theorem dX5_mark_46 : decode cX5_mark 46 = .ok (.getfield 19, 3) := by decide +kernel
theorem dX5_mark_49 : decode cX5_mark 49 = .ok (.bipush 20, 2) := by decide +kernel
theorem dX5_mark_51 : decode cX5_mark 51 = .ok (.iload_n 1, 1) := by decide +kernel
theorem dX5_mark_52 : decode cX5_mark 52 = .ok (.imul, 1) := by decide +kernel
theorem dX5_mark_53 : decode cX5_mark 53 = .ok (.iload_n 2, 1) := by decide +kernel
theorem dX5_mark_54 : decode cX5_mark 54 = .ok (.iadd, 1) := by decide +kernel
theorem dX5_mark_55 : decode cX5_mark 55 = .ok (.iload_n 3, 1) := by decide +kernel
theorem dX5_mark_56 : decode cX5_mark 56 = .ok (.iastore, 1) := by decide +kernel
theorem dX5_mark_57 : decode cX5_mark 57 = .ok (.iload_n 3, 1) := by decide +kernel
theorem dX5_mark_58 : decode cX5_mark 58 = .ok (.iload 4, 2) := by decide +kernel
theorem dX5_mark_60 : decode cX5_mark 60 = .ok (.if_icmp .eq 8, 3) := by decide +kernel
theorem dX5_mark_63 : decode cX5_mark 63 = .ok (.aload_n 0, 1) := by decide +kernel
theorem dX5_mark_64 : decode cX5_mark 64 = .ok (.iload_n 1, 1) := by decide +kernel
theorem dX5_mark_65 : decode cX5_mark 65 = .ok (.invokevirtual 84, 3) := by decide +kernel
theorem dX5_mark_68 : decode cX5_mark 68 = .ok (.iload 4, 2) := by decide +kernel
theorem dX5_mark_70 : decode cX5_mark 70 = .ok (.ireturn, 1) := by decide +kernel
set_option maxRecDepth 20000 in
theorem ggX5_unmark_X5_isList : GoodIn wsX5_unmark wsX5_isList := goodIn_r _ [6, 7, 8, 9, 5, 10, 23, 24, 25, 26, 27, 28, 29, 30, 31, 32, 33, 34, 35, 36, 37, 38, 39, 40, 41, 42, 43, 44, 45, 46, 47, 48, 49, 50, 51] (by decide +kernel) (by decide +kernel)
set_option maxRecDepth 20000 in
theorem gX5_unmark_X5_isList : GoodIn wsX5_unmark (wsV RX5 77 RX5 yX5_isList wsX5_isList) := goodIn_app (goodIn_of _ (by decide +kernel)) ggX5_unmark_X5_isList
set_option maxRecDepth 20000 in
theorem ggX5_unmark_X5_isThing : GoodIn wsX5_unmark wsX5_isThing := goodIn_r _ [14, 15, 8, 9, 5, 10, 23, 24, 25, 26, 27, 28, 29, 30, 31, 32, 33, 34, 35, 36, 37, 38, 39, 40, 41, 42, 43, 44, 45, 46, 47, 48, 49, 50, 51] (by decide +kernel) (by decide +kernel)
set_option maxRecDepth 20000 in
theorem gX5_unmark_X5_isThing : GoodIn wsX5_unmark (wsV RX5 81 RX5 yX5_isThing wsX5_isThing) := goodIn_app (goodIn_of _ (by decide +kernel)) ggX5_unmark_X5_isThing
set_option maxRecDepth 20000 in
theorem ggX5_unmark_X5_order : GoodIn wsX5_unmark wsX5_order := goodIn_r _ [19, 20, 15, 1, 21, 22, 23, 24, 25, 26, 27, 28, 29, 30, 31, 32, 33, 34, 35, 36, 37, 38, 39, 40, 41, 42, 43, 44, 45, 46, 47, 48, 49, 50, 51] (by decide +kernel) (by decide +kernel)
set_option maxRecDepth 20000 in
theorem gX5_unmark_X5_order : GoodIn wsX5_unmark (wsV RX5 84 RX5 yX5_order wsX5_order) := goodIn_app (goodIn_of _ (by decide +kernel)) ggX5_unmark_X5_order
theorem dX5_unmark_0 : decode cX5_unmark 0 = .ok (.aload_n 0, 1) := by decide +kernel
theorem dX5_unmark_1 : decode cX5_unmark 1 = .ok (.iload_n 1, 1) := by decide +kernel
theorem dX5_unmark_2 : decode cX5_unmark 2 = .ok (.invokevirtual 77, 3) := by decide +kernel
theorem dX5_unmark_5 : decode cX5_unmark 5 = .ok (.ifCond .eq 11, 3) := by decide +kernel
theorem dX5_unmark_8 : decode cX5_unmark 8 = .ok (.aload_n 0, 1) := by decide +kernel
theorem dX5_unmark_9 : decode cX5_unmark 9 = .ok (.iload_n 2, 1) := by decide +kernel
theorem dX5_unmark_10 : decode cX5_unmark 10 = .ok (.invokevirtual 81, 3) := by decide +kernel
theorem dX5_unmark_13 : decode cX5_unmark 13 = .ok (.ifCond .ne 5, 3) := by decide +kernel
theorem dX5_unmark_16 : decode cX5_unmark 16 = .ok (.iconst (-1), 1) := by decide +kernel
theorem dX5_unmark_17 : decode cX5_unmark 17 = .ok (.ireturn, 1) := by decide +kernel
theorem dX5_unmark_18 : decode cX5_unmark 18 = .ok (.aload_n 0, 1) := by decide +kernel
theorem dX5_unmark_19 : decode cX5_unmark 19 = .ok (.getfield 19, 3) := by decide +kernel
theorem dX5_unmark_22 : decode cX5_unmark 22 = .ok (.bipush 20, 2) := by decide +kernel
theorem dX5_unmark_24 : decode cX5_unmark 24 = .ok (.iload_n 1, 1) := by decide +kernel
theorem dX5_unmark_25 : decode cX5_unmark 25 = .ok (.imul, 1) := by decide +kernel
theorem dX5_unmark_26 : decode cX5_unmark 26 = .ok (.iload_n 2, 1) := by decide +kernel
theorem dX5_unmark_27 : decode cX5_unmark 27 = .ok (.iadd, 1) := by decide +kernel
theorem dX5_unmark_28 : decode cX5_unmark 28 = .ok (.iaload, 1) := by decide +kernel
theorem dX5_unmark_29 : decode cX5_unmark 29 = .ok (.istore_n 3, 1) := by decide +kernel
theorem dX5_unmark_30 : decode cX5_unmark 30 = .ok (.aload_n 0, 1) := by decide +kernel
theorem dX5_unmark_31 : decode cX5_unmark 31 = .ok (.getfield 19, 3) := by decide +kernel
theorem dX5_unmark_34 : decode cX5_unmark 34 = .ok (.bipush 20, 2) := by decide +kernel
theorem dX5_unmark_36 : decode cX5_unmark 36 = .ok (.iload_n 1, 1) := by decide +kernel
theorem dX5_unmark_37 : decode cX5_unmark 37 = .ok (.imul, 1) := by decide +kernel
theorem dX5_unmark_38 : decode cX5_unmark 38 = .ok (.iload_n 2, 1) := by decide +kernel
theorem dX5_unmark_39 : decode cX5_unmark 39 = .ok (.iadd, 1) := by decide +kernel
theorem dX5_unmark_40 : decode cX5_unmark 40 = .ok (.iconst 0, 1) := by decide +kernel
theorem dX5_unmark_41 : decode cX5_unmark 41 = .ok (.iastore, 1) := by decide +kernel
theorem dX5_unmark_42 : decode cX5_unmark 42 = .ok (.iload_n 3, 1) := by decide +kernel
theorem dX5_unmark_43 : decode cX5_unmark 43 = .ok (.ifCond .eq 8, 3) := by decide +kernel
theorem dX5_unmark_46 : decode cX5_unmark 46 = .ok (.aload_n 0, 1) := by decide +kernel
theorem dX5_unmark_47 : decode cX5_unmark 47 = .ok (.iload_n 1, 1) := by decide +kernel
theorem dX5_unmark_48 : decode cX5_unmark 48 = .ok (.invokevirtual 84, 3) := by decide +kernel
theorem dX5_unmark_51 : decode cX5_unmark 51 = .ok (.iload_n 3, 1) := by decide +kernel
theorem dX5_unmark_52 : decode cX5_unmark 52 = .ok (.ireturn, 1) := by decide +kernel
set_option maxRecDepth 20000 in
theorem ggX5_weigh_X5_isList : GoodIn wsX5_weigh wsX5_isList := goodIn_r _ [7, 8, 9, 10, 6, 11, 12, 13, 14, 15, 16, 17, 18, 19, 20, 21, 22, 23, 24, 25, 26, 27, 28, 29, 30, 31, 32, 33, 34, 35, 36, 37, 38, 39, 40] (by decide +kernel) (by decide +kernel)
set_option maxRecDepth 20000 in
theorem gX5_weigh_X5_isList : GoodIn wsX5_weigh (wsV RX5 77 RX5 yX5_isList wsX5_isList) := goodIn_app (goodIn_of _ (by decide +kernel)) ggX5_weigh_X5_isList
set_option maxRecDepth 20000 in
theorem ggX5_weigh_X5_in : GoodIn wsX5_weigh wsX5_in := goodIn_r _ [11] (by decide +kernel) (by decide +kernel)
set_option maxRecDepth 20000 in
theorem gX5_weigh_X5_in : GoodIn wsX5_weigh (va_wsS RX5 66 yX5_in wsX5_in) := goodIn_app (goodIn_of _ (by decide +kernel)) ggX5_weigh_X5_in
theorem dX5_weigh_0 : decode cX5_weigh 0 = .ok (.aload_n 0, 1) := by decide +kernel
theorem dX5_weigh_1 : decode cX5_weigh 1 = .ok (.iload_n 1, 1) := by decide +kernel
theorem dX5_weigh_2 : decode cX5_weigh 2 = .ok (.invokevirtual 77, 3) := by decide +kernel
theorem dX5_weigh_5 : decode cX5_weigh 5 = .ok (.ifCond .ne 5, 3) := by decide +kernel
theorem dX5_weigh_8 : decode cX5_weigh 8 = .ok (.iconst (-1), 1) := by decide +kernel
theorem dX5_weigh_9 : decode cX5_weigh 9 = .ok (.ireturn, 1) := by decide +kernel
theorem dX5_weigh_10 : decode cX5_weigh 10 = .ok (.iload_n 2, 1) := by decide +kernel
theorem dX5_weigh_11 : decode cX5_weigh 11 = .ok (.iconst 0, 1) := by decide +kernel
theorem dX5_weigh_12 : decode cX5_weigh 12 = .ok (.bipush 10, 2) := by decide +kernel
theorem dX5_weigh_14 : decode cX5_weigh 14 = .ok (.invokestatic 66, 3) := by decide +kernel
theorem dX5_weigh_17 : decode cX5_weigh 17 = .ok (.ifCond .ne 6, 3) := by decide +kernel
theorem dX5_weigh_20 : decode cX5_weigh 20 = .ok (.bipush (-2), 2) := by decide +kernel
theorem dX5_weigh_22 : decode cX5_weigh 22 = .ok (.ireturn, 1) := by decide +kernel
theorem dX5_weigh_23 : decode cX5_weigh 23 = .ok (.aload_n 0, 1) := by decide +kernel
theorem dX5_weigh_24 : decode cX5_weigh 24 = .ok (.getfield 7, 3) := by decide +kernel
theorem dX5_weigh_27 : decode cX5_weigh 27 = .ok (.iload_n 1, 1) := by decide +kernel
theorem dX5_weigh_28 : decode cX5_weigh 28 = .ok (.iaload, 1) := by decide +kernel
theorem dX5_weigh_29 : decode cX5_weigh 29 = .ok (.istore_n 3, 1) := by decide +kernel
theorem dX5_weigh_30 : decode cX5_weigh 30 = .ok (.aload_n 0, 1) := by decide +kernel
theorem dX5_weigh_31 : decode cX5_weigh 31 = .ok (.getfield 7, 3) := by decide +kernel
theorem dX5_weigh_34 : decode cX5_weigh 34 = .ok (.iload_n 1, 1) := by decide +kernel
theorem dX5_weigh_35 : decode cX5_weigh 35 = .ok (.iload_n 2, 1) := by decide +kernel
theorem dX5_weigh_36 : decode cX5_weigh 36 = .ok (.iastore, 1) := by decide +kernel
theorem dX5_weigh_37 : decode cX5_weigh 37 = .ok (.aload_n 0, 1) := by decide +kernel
theorem dX5_weigh_38 : decode cX5_weigh 38 = .ok (.aload_n 0, 1) := by decide +kernel
theorem dX5_weigh_39 : decode cX5_weigh 39 = .ok (.getfield 73, 3) := by decide +kernel
theorem dX5_weigh_42 : decode cX5_weigh 42 = .ok (.ifCond .eq 12, 3) := by decide +kernel
theorem dX5_weigh_45 : decode cX5_weigh 45 = .ok (.iload_n 2, 1) := by decide +kernel
theorem dX5_weigh_46 : decode cX5_weigh 46 = .ok (.iload_n 3, 1) := by decide +kernel
theorem dX5_weigh_47 : decode cX5_weigh 47 = .ok (.if_icmp .ne 7, 3) := by decide +kernel
theorem dX5_weigh_50 : decode cX5_weigh 50 = .ok (.iconst 1, 1) := by decide +kernel
theorem dX5_weigh_51 : decode cX5_weigh 51 = .ok (.goto 4, 3) := by decide +kernel
theorem dX5_weigh_54 : decode cX5_weigh 54 = .ok (.iconst 0, 1) := by decide +kernel
theorem dX5_weigh_55 : decode cX5_weigh 55 = .ok (.putfield 73, 3) := by decide +kernel
theorem dX5_weigh_58 : decode cX5_weigh 58 = .ok (.iload_n 3, 1) := by decide +kernel
theorem dX5_weigh_59 : decode cX5_weigh 59 = .ok (.ireturn, 1) := by decide +kernel
set_option maxRecDepth 20000 in
theorem ggX5_rule_X5_in : GoodIn wsX5_rule wsX5_in := goodIn_r _ [6] (by decide +kernel) (by decide +kernel)
set_option maxRecDepth 20000 in
theorem gX5_rule_X5_in : GoodIn wsX5_rule (va_wsS RX5 66 yX5_in wsX5_in) := goodIn_app (goodIn_of _ (by decide +kernel)) ggX5_rule_X5_in
theorem dX5_rule_0 : decode cX5_rule 0 = .ok (.iload_n 1, 1) := by decide +kernel
theorem dX5_rule_1 : decode cX5_rule 1 = .ok (.iconst 0, 1) := by decide +kernel
theorem dX5_rule_2 : decode cX5_rule 2 = .ok (.iconst 2, 1) := by decide +kernel
theorem dX5_rule_3 : decode cX5_rule 3 = .ok (.invokestatic 66, 3) := by decide +kernel
theorem dX5_rule_6 : decode cX5_rule 6 = .ok (.ifCond .ne 6, 3) := by decide +kernel
theorem dX5_rule_9 : decode cX5_rule 9 = .ok (.bipush (-2), 2) := by decide +kernel
theorem dX5_rule_11 : decode cX5_rule 11 = .ok (.ireturn, 1) := by decide +kernel
theorem dX5_rule_12 : decode cX5_rule 12 = .ok (.aload_n 0, 1) := by decide +kernel
theorem dX5_rule_13 : decode cX5_rule 13 = .ok (.getfield 88, 3) := by decide +kernel
theorem dX5_rule_16 : decode cX5_rule 16 = .ok (.istore_n 2, 1) := by decide +kernel
theorem dX5_rule_17 : decode cX5_rule 17 = .ok (.aload_n 0, 1) := by decide +kernel
theorem dX5_rule_18 : decode cX5_rule 18 = .ok (.iload_n 1, 1) := by decide +kernel
theorem dX5_rule_19 : decode cX5_rule 19 = .ok (.putfield 88, 3) := by decide +kernel
theorem dX5_rule_22 : decode cX5_rule 22 = .ok (.aload_n 0, 1) := by decide +kernel
theorem dX5_rule_23 : decode cX5_rule 23 = .ok (.aload_n 0, 1) := by decide +kernel
theorem dX5_rule_24 : decode cX5_rule 24 = .ok (.getfield 73, 3) := by decide +kernel
theorem dX5_rule_27 : decode cX5_rule 27 = .ok (.ifCond .eq 12, 3) := by decide +kernel
theorem dX5_rule_30 : decode cX5_rule 30 = .ok (.iload_n 1, 1) := by decide +kernel
theorem dX5_rule_31 : decode cX5_rule 31 = .ok (.iload_n 2, 1) := by decide +kernel
theorem dX5_rule_32 : decode cX5_rule 32 = .ok (.if_icmp .ne 7, 3) := by decide +kernel
theorem dX5_rule_35 : decode cX5_rule 35 = .ok (.iconst 1, 1) := by decide +kernel
theorem dX5_rule_36 : decode cX5_rule 36 = .ok (.goto 4, 3) := by decide +kernel
theorem dX5_rule_39 : decode cX5_rule 39 = .ok (.iconst 0, 1) := by decide +kernel
theorem dX5_rule_40 : decode cX5_rule 40 = .ok (.putfield 73, 3) := by decide +kernel
theorem dX5_rule_43 : decode cX5_rule 43 = .ok (.iload_n 2, 1) := by decide +kernel
theorem dX5_rule_44 : decode cX5_rule 44 = .ok (.ireturn, 1) := by decide +kernel
set_option maxRecDepth 20000 in
theorem ggX5_about_X5_isList : GoodIn wsX5_about wsX5_isList := goodIn_r _ [9, 10, 11, 12, 8, 13, 14, 15, 16, 17, 18, 19, 20, 21, 22, 23, 24, 25, 26, 27, 28, 29, 30, 31, 32, 33, 34, 35, 36, 37, 38, 39, 40, 41, 42] (by decide +kernel) (by decide +kernel)
set_option maxRecDepth 20000 in
theorem gX5_about_X5_isList : GoodIn wsX5_about (wsV RX5 77 RX5 yX5_isList wsX5_isList) := goodIn_app (goodIn_of _ (by decide +kernel)) ggX5_about_X5_isList
theorem dX5_about_0 : decode cX5_about 0 = .ok (.aload_n 0, 1) := by decide +kernel
theorem dX5_about_1 : decode cX5_about 1 = .ok (.iload_n 1, 1) := by decide +kernel
theorem dX5_about_2 : decode cX5_about 2 = .ok (.invokevirtual 77, 3) := by decide +kernel
theorem dX5_about_5 : decode cX5_about 5 = .ok (.ifCond .ne 5, 3) := by decide +kernel
theorem dX5_about_8 : decode cX5_about 8 = .ok (.iconst (-1), 1) := by decide +kernel
theorem dX5_about_9 : decode cX5_about 9 = .ok (.ireturn, 1) := by decide +kernel
theorem dX5_about_10 : decode cX5_about 10 = .ok (.iload_n 2, 1) := by decide +kernel
theorem dX5_about_11 : decode cX5_about 11 = .ok (.tableswitch 57 0 3 #[29, 36, 43, 50], 29) := by decide +kernel
theorem dX5_about_40 : decode cX5_about 40 = .ok (.aload_n 0, 1) := by decide +kernel
theorem dX5_about_41 : decode cX5_about 41 = .ok (.getfield 7, 3) := by decide +kernel
theorem dX5_about_44 : decode cX5_about 44 = .ok (.iload_n 1, 1) := by decide +kernel
theorem dX5_about_45 : decode cX5_about 45 = .ok (.iaload, 1) := by decide +kernel
theorem dX5_about_46 : decode cX5_about 46 = .ok (.ireturn, 1) := by decide +kernel
theorem dX5_about_47 : decode cX5_about 47 = .ok (.aload_n 0, 1) := by decide +kernel
theorem dX5_about_48 : decode cX5_about 48 = .ok (.getfield 13, 3) := by decide +kernel
theorem dX5_about_51 : decode cX5_about 51 = .ok (.iload_n 1, 1) := by decide +kernel
theorem dX5_about_52 : decode cX5_about 52 = .ok (.iaload, 1) := by decide +kernel
theorem dX5_about_53 : decode cX5_about 53 = .ok (.ireturn, 1) := by decide +kernel
theorem dX5_about_54 : decode cX5_about 54 = .ok (.aload_n 0, 1) := by decide +kernel
theorem dX5_about_55 : decode cX5_about 55 = .ok (.getfield 16, 3) := by decide +kernel
theorem dX5_about_58 : decode cX5_about 58 = .ok (.iload_n 1, 1) := by decide +kernel
theorem dX5_about_59 : decode cX5_about 59 = .ok (.iaload, 1) := by decide +kernel
theorem dX5_about_60 : decode cX5_about 60 = .ok (.ireturn, 1) := by decide +kernel
theorem dX5_about_61 : decode cX5_about 61 = .ok (.aload_n 0, 1) := by decide +kernel
theorem dX5_about_62 : decode cX5_about 62 = .ok (.getfield 25, 3) := by decide +kernel
theorem dX5_about_65 : decode cX5_about 65 = .ok (.iload_n 1, 1) := by decide +kernel
theorem dX5_about_66 : decode cX5_about 66 = .ok (.iaload, 1) := by decide +kernel
theorem dX5_about_67 : decode cX5_about 67 = .ok (.ireturn, 1) := by decide +kernel
theorem dX5_about_68 : decode cX5_about 68 = .ok (.iconst (-1), 1) := by decide +kernel
theorem dX5_about_69 : decode cX5_about 69 = .ok (.ireturn, 1) := by decide +kernel
set_option maxRecDepth 20000 in
theorem ggX5_row_X5_isList : GoodIn wsX5_row wsX5_isList := goodIn_r _ [7, 8, 9, 10, 6, 11, 12, 13, 14, 15, 16, 17, 18, 19, 20, 21, 22, 23, 24, 25, 26, 27, 28, 29, 30, 31, 32, 33, 34, 35, 36, 37, 38, 39, 40] (by decide +kernel) (by decide +kernel)
set_option maxRecDepth 20000 in
theorem gX5_row_X5_isList : GoodIn wsX5_row (wsV RX5 77 RX5 yX5_isList wsX5_isList) := goodIn_app (goodIn_of _ (by decide +kernel)) ggX5_row_X5_isList
set_option maxRecDepth 20000 in
theorem ggX5_row_X5_in : GoodIn wsX5_row wsX5_in := goodIn_r _ [11] (by decide +kernel) (by decide +kernel)
set_option maxRecDepth 20000 in
theorem gX5_row_X5_in : GoodIn wsX5_row (va_wsS RX5 66 yX5_in wsX5_in) := goodIn_app (goodIn_of _ (by decide +kernel)) ggX5_row_X5_in
theorem dX5_row_0 : decode cX5_row 0 = .ok (.aload_n 0, 1) := by decide +kernel
theorem dX5_row_1 : decode cX5_row 1 = .ok (.iload_n 1, 1) := by decide +kernel
theorem dX5_row_2 : decode cX5_row 2 = .ok (.invokevirtual 77, 3) := by decide +kernel
theorem dX5_row_5 : decode cX5_row 5 = .ok (.ifCond .eq 33, 3) := by decide +kernel
theorem dX5_row_8 : decode cX5_row 8 = .ok (.iload_n 2, 1) := by decide +kernel
theorem dX5_row_9 : decode cX5_row 9 = .ok (.iconst 0, 1) := by decide +kernel
theorem dX5_row_10 : decode cX5_row 10 = .ok (.aload_n 0, 1) := by decide +kernel
theorem dX5_row_11 : decode cX5_row 11 = .ok (.getfield 25, 3) := by decide +kernel
theorem dX5_row_14 : decode cX5_row 14 = .ok (.iload_n 1, 1) := by decide +kernel
theorem dX5_row_15 : decode cX5_row 15 = .ok (.iaload, 1) := by decide +kernel
theorem dX5_row_16 : decode cX5_row 16 = .ok (.iconst 1, 1) := by decide +kernel
theorem dX5_row_17 : decode cX5_row 17 = .ok (.isub, 1) := by decide +kernel
theorem dX5_row_18 : decode cX5_row 18 = .ok (.invokestatic 66, 3) := by decide +kernel
theorem dX5_row_21 : decode cX5_row 21 = .ok (.ifCond .eq 17, 3) := by decide +kernel
theorem dX5_row_24 : decode cX5_row 24 = .ok (.aload_n 0, 1) := by decide +kernel
theorem dX5_row_25 : decode cX5_row 25 = .ok (.getfield 22, 3) := by decide +kernel
theorem dX5_row_28 : decode cX5_row 28 = .ok (.bipush 20, 2) := by decide +kernel
theorem dX5_row_30 : decode cX5_row 30 = .ok (.iload_n 1, 1) := by decide +kernel
theorem dX5_row_31 : decode cX5_row 31 = .ok (.imul, 1) := by decide +kernel
theorem dX5_row_32 : decode cX5_row 32 = .ok (.iload_n 2, 1) := by decide +kernel
theorem dX5_row_33 : decode cX5_row 33 = .ok (.iadd, 1) := by decide +kernel
theorem dX5_row_34 : decode cX5_row 34 = .ok (.iaload, 1) := by decide +kernel
theorem dX5_row_35 : decode cX5_row 35 = .ok (.goto 4, 3) := by decide +kernel
theorem dX5_row_38 : decode cX5_row 38 = .ok (.iconst (-1), 1) := by decide +kernel
theorem dX5_row_39 : decode cX5_row 39 = .ok (.ireturn, 1) := by decide +kernel
theorem dX5_placeOf_0 : decode cX5_placeOf 0 = .ok (.iconst 0, 1) := by decide +kernel
theorem dX5_placeOf_1 : decode cX5_placeOf 1 = .ok (.istore_n 3, 1) := by decide +kernel
theorem dX5_placeOf_2 : decode cX5_placeOf 2 = .ok (.iload_n 3, 1) := by decide +kernel
theorem dX5_placeOf_3 : decode cX5_placeOf 3 = .ok (.aload_n 0, 1) := by decide +kernel
theorem dX5_placeOf_4 : decode cX5_placeOf 4 = .ok (.getfield 25, 3) := by decide +kernel
theorem dX5_placeOf_7 : decode cX5_placeOf 7 = .ok (.iload_n 1, 1) := by decide +kernel
theorem dX5_placeOf_8 : decode cX5_placeOf 8 = .ok (.iaload, 1) := by decide +kernel
theorem dX5_placeOf_9 : decode cX5_placeOf 9 = .ok (.if_icmp .ge 26, 3) := by decide +kernel
theorem dX5_placeOf_12 : decode cX5_placeOf 12 = .ok (.aload_n 0, 1) := by decide +kernel
theorem dX5_placeOf_13 : decode cX5_placeOf 13 = .ok (.getfield 22, 3) := by decide +kernel
theorem dX5_placeOf_16 : decode cX5_placeOf 16 = .ok (.bipush 20, 2) := by decide +kernel
theorem dX5_placeOf_18 : decode cX5_placeOf 18 = .ok (.iload_n 1, 1) := by decide +kernel
theorem dX5_placeOf_19 : decode cX5_placeOf 19 = .ok (.imul, 1) := by decide +kernel
theorem dX5_placeOf_20 : decode cX5_placeOf 20 = .ok (.iload_n 3, 1) := by decide +kernel
theorem dX5_placeOf_21 : decode cX5_placeOf 21 = .ok (.iadd, 1) := by decide +kernel
theorem dX5_placeOf_22 : decode cX5_placeOf 22 = .ok (.iaload, 1) := by decide +kernel
theorem dX5_placeOf_23 : decode cX5_placeOf 23 = .ok (.iload_n 2, 1) := by decide +kernel
theorem dX5_placeOf_24 : decode cX5_placeOf 24 = .ok (.if_icmp .ne 5, 3) := by decide +kernel
theorem dX5_placeOf_27 : decode cX5_placeOf 27 = .ok (.iload_n 3, 1) := by decide +kernel
theorem dX5_placeOf_28 : decode cX5_placeOf 28 = .ok (.ireturn, 1) := by decide +kernel
theorem dX5_placeOf_29 : decode cX5_placeOf 29 = .ok (.iinc 3 1, 3) := by decide +kernel
theorem dX5_placeOf_32 : decode cX5_placeOf 32 = .ok (.goto (-30), 3) := by decide +kernel
theorem dX5_placeOf_35 : decode cX5_placeOf 35 = .ok (.iconst (-1), 1) := by decide +kernel
theorem dX5_placeOf_36 : decode cX5_placeOf 36 = .ok (.ireturn, 1) := by decide +kernel
set_option maxRecDepth 20000 in
theorem ggX5_place_X5_isList : GoodIn wsX5_place wsX5_isList := goodIn_r _ [6, 7, 8, 9, 5, 10, 22, 23, 24, 25, 26, 27, 28, 29, 30, 31, 32, 33, 34, 35, 36, 37, 38, 39, 40, 41, 42, 43, 44, 45, 46, 47, 48, 49, 50] (by decide +kernel) (by decide +kernel)
set_option maxRecDepth 20000 in
theorem gX5_place_X5_isList : GoodIn wsX5_place (wsV RX5 77 RX5 yX5_isList wsX5_isList) := goodIn_app (goodIn_of _ (by decide +kernel)) ggX5_place_X5_isList
set_option maxRecDepth 20000 in
theorem ggX5_place_X5_isThing : GoodIn wsX5_place wsX5_isThing := goodIn_r _ [14, 15, 8, 9, 5, 10, 22, 23, 24, 25, 26, 27, 28, 29, 30, 31, 32, 33, 34, 35, 36, 37, 38, 39, 40, 41, 42, 43, 44, 45, 46, 47, 48, 49, 50] (by decide +kernel) (by decide +kernel)
set_option maxRecDepth 20000 in
theorem gX5_place_X5_isThing : GoodIn wsX5_place (wsV RX5 81 RX5 yX5_isThing wsX5_isThing) := goodIn_app (goodIn_of _ (by decide +kernel)) ggX5_place_X5_isThing
set_option maxRecDepth 20000 in
theorem ggX5_place_X5_in : GoodIn wsX5_place wsX5_in := goodIn_r _ [10] (by decide +kernel) (by decide +kernel)
set_option maxRecDepth 20000 in
theorem gX5_place_X5_in : GoodIn wsX5_place (va_wsS RX5 66 yX5_in wsX5_in) := goodIn_app (goodIn_of _ (by decide +kernel)) ggX5_place_X5_in
set_option maxRecDepth 20000 in
theorem ggX5_place_X5_placeOf : GoodIn wsX5_place wsX5_placeOf := goodIn_r _ [19, 20, 21, 22, 23, 24, 25, 26, 27, 28, 29, 30, 31, 32, 33, 34, 35, 36, 37, 38, 39, 40, 41, 42, 43, 44, 45, 46, 47, 48, 49, 50] (by decide +kernel) (by decide +kernel)
set_option maxRecDepth 20000 in
theorem gX5_place_X5_placeOf : GoodIn wsX5_place (wsV RX5 91 RX5 yX5_placeOf wsX5_placeOf) := goodIn_app (goodIn_of _ (by decide +kernel)) ggX5_place_X5_placeOf
theorem dX5_place_0 : decode cX5_place 0 = .ok (.aload_n 0, 1) := by decide +kernel
theorem dX5_place_1 : decode cX5_place 1 = .ok (.iload_n 1, 1) := by decide +kernel
theorem dX5_place_2 : decode cX5_place 2 = .ok (.invokevirtual 77, 3) := by decide +kernel
theorem dX5_place_5 : decode cX5_place 5 = .ok (.ifCond .eq 34, 3) := by decide +kernel
theorem dX5_place_8 : decode cX5_place 8 = .ok (.aload_n 0, 1) := by decide +kernel
theorem dX5_place_9 : decode cX5_place 9 = .ok (.iload_n 2, 1) := by decide +kernel
theorem dX5_place_10 : decode cX5_place 10 = .ok (.invokevirtual 81, 3) := by decide +kernel
theorem dX5_place_13 : decode cX5_place 13 = .ok (.ifCond .eq 26, 3) := by decide +kernel
theorem dX5_place_16 : decode cX5_place 16 = .ok (.iload_n 3, 1) := by decide +kernel
theorem dX5_place_17 : decode cX5_place 17 = .ok (.iconst 0, 1) := by decide +kernel
theorem dX5_place_18 : decode cX5_place 18 = .ok (.iconst 1, 1) := by decide +kernel
theorem dX5_place_19 : decode cX5_place 19 = .ok (.invokestatic 66, 3) := by decide +kernel
theorem dX5_place_22 : decode cX5_place 22 = .ok (.ifCond .eq 17, 3) := by decide +kernel
theorem dX5_place_25 : decode cX5_place 25 = .ok (.aload_n 0, 1) := by decide +kernel
theorem dX5_place_26 : decode cX5_place 26 = .ok (.getfield 19, 3) := by decide +kernel
theorem dX5_place_29 : decode cX5_place 29 = .ok (.bipush 20, 2) := by decide +kernel
theorem dX5_place_31 : decode cX5_place 31 = .ok (.iload_n 1, 1) := by decide +kernel
theorem dX5_place_32 : decode cX5_place 32 = .ok (.imul, 1) := by decide +kernel
theorem dX5_place_33 : decode cX5_place 33 = .ok (.iload_n 2, 1) := by decide +kernel
theorem dX5_place_34 : decode cX5_place 34 = .ok (.iadd, 1) := by decide +kernel
theorem dX5_place_35 : decode cX5_place 35 = .ok (.iaload, 1) := by decide +kernel
theorem dX5_place_36 : decode cX5_place 36 = .ok (.ifCond .ne 5, 3) := by decide +kernel
theorem dX5_place_39 : decode cX5_place 39 = .ok (.iconst (-1), 1) := by decide +kernel
theorem dX5_place_40 : decode cX5_place 40 = .ok (.ireturn, 1) := by decide +kernel
theorem dX5_place_41 : decode cX5_place 41 = .ok (.iload_n 3, 1) := by decide +kernel
theorem dX5_place_42 : decode cX5_place 42 = .ok (.ifCond .ne 12, 3) := by decide +kernel
theorem dX5_place_45 : decode cX5_place 45 = .ok (.aload_n 0, 1) := by decide +kernel
theorem dX5_place_46 : decode cX5_place 46 = .ok (.iload_n 1, 1) := by decide +kernel
theorem dX5_place_47 : decode cX5_place 47 = .ok (.iload_n 2, 1) := by decide +kernel
theorem dX5_place_48 : decode cX5_place 48 = .ok (.invokevirtual 91, 3) := by decide +kernel
theorem dX5_place_51 : decode cX5_place 51 = .ok (.goto 14, 3) := by decide +kernel
theorem dX5_place_54 : decode cX5_place 54 = .ok (.aload_n 0, 1) := by decide +kernel
theorem dX5_place_55 : decode cX5_place 55 = .ok (.getfield 19, 3) := by decide +kernel
theorem dX5_place_58 : decode cX5_place 58 = .ok (.bipush 20, 2) := by decide +kernel
theorem dX5_place_60 : decode cX5_place 60 = .ok (.iload_n 1, 1) := by decide +kernel
theorem dX5_place_61 : decode cX5_place 61 = .ok (.imul, 1) := by decide +kernel
theorem dX5_place_62 : decode cX5_place 62 = .ok (.iload_n 2, 1) := by decide +kernel
theorem dX5_place_63 : decode cX5_place 63 = .ok (.iadd, 1) := by decide +kernel
theorem dX5_place_64 : decode cX5_place 64 = .ok (.iaload, 1) := by decide +kernel
theorem dX5_place_65 : decode cX5_place 65 = .ok (.ireturn, 1) := by decide +kernel
theorem dX5_totalOfHand_0 : decode cX5_totalOfHand 0 = .ok (.iconst 0, 1) := by decide +kernel
theorem dX5_totalOfHand_1 : decode cX5_totalOfHand 1 = .ok (.istore_n 1, 1) := by decide +kernel
theorem dX5_totalOfHand_2 : decode cX5_totalOfHand 2 = .ok (.iconst 0, 1) := by decide +kernel
theorem dX5_totalOfHand_3 : decode cX5_totalOfHand 3 = .ok (.istore_n 2, 1) := by decide +kernel
theorem dX5_totalOfHand_4 : decode cX5_totalOfHand 4 = .ok (.iconst 0, 1) := by decide +kernel
theorem dX5_totalOfHand_5 : decode cX5_totalOfHand 5 = .ok (.istore_n 3, 1) := by decide +kernel
theorem dX5_totalOfHand_6 : decode cX5_totalOfHand 6 = .ok (.iload_n 3, 1) := by decide +kernel
theorem dX5_totalOfHand_7 : decode cX5_totalOfHand 7 = .ok (.aload_n 0, 1) := by decide +kernel
theorem dX5_totalOfHand_8 : decode cX5_totalOfHand 8 = .ok (.getfield 70, 3) := by decide +kernel
theorem dX5_totalOfHand_11 : decode cX5_totalOfHand 11 = .ok (.if_icmp .ge 101, 3) := by decide +kernel
theorem dX5_totalOfHand_14 : decode cX5_totalOfHand 14 = .ok (.aload_n 0, 1) := by decide +kernel
theorem dX5_totalOfHand_15 : decode cX5_totalOfHand 15 = .ok (.getfield 88, 3) := by decide +kernel
theorem dX5_totalOfHand_18 : decode cX5_totalOfHand 18 = .ok (.ifCond .ne 22, 3) := by decide +kernel
theorem dX5_totalOfHand_21 : decode cX5_totalOfHand 21 = .ok (.iload_n 1, 1) := by decide +kernel
theorem dX5_totalOfHand_22 : decode cX5_totalOfHand 22 = .ok (.aload_n 0, 1) := by decide +kernel
theorem dX5_totalOfHand_23 : decode cX5_totalOfHand 23 = .ok (.getfield 7, 3) := by decide +kernel
theorem dX5_totalOfHand_26 : decode cX5_totalOfHand 26 = .ok (.iload_n 3, 1) := by decide +kernel
theorem dX5_totalOfHand_27 : decode cX5_totalOfHand 27 = .ok (.iaload, 1) := by decide +kernel
theorem dX5_totalOfHand_28 : decode cX5_totalOfHand 28 = .ok (.aload_n 0, 1) := by decide +kernel
theorem dX5_totalOfHand_29 : decode cX5_totalOfHand 29 = .ok (.getfield 28, 3) := by decide +kernel
theorem dX5_totalOfHand_32 : decode cX5_totalOfHand 32 = .ok (.iload_n 3, 1) := by decide +kernel
theorem dX5_totalOfHand_33 : decode cX5_totalOfHand 33 = .ok (.iaload, 1) := by decide +kernel
theorem dX5_totalOfHand_34 : decode cX5_totalOfHand 34 = .ok (.imul, 1) := by decide +kernel
theorem dX5_totalOfHand_35 : decode cX5_totalOfHand 35 = .ok (.iadd, 1) := by decide +kernel
theorem dX5_totalOfHand_36 : decode cX5_totalOfHand 36 = .ok (.istore_n 1, 1) := by decide +kernel
theorem dX5_totalOfHand_37 : decode cX5_totalOfHand 37 = .ok (.goto 69, 3) := by decide +kernel
theorem dX5_totalOfHand_40 : decode cX5_totalOfHand 40 = .ok (.aload_n 0, 1) := by decide +kernel
theorem dX5_totalOfHand_41 : decode cX5_totalOfHand 41 = .ok (.getfield 7, 3) := by decide +kernel
theorem dX5_totalOfHand_44 : decode cX5_totalOfHand 44 = .ok (.iload_n 3, 1) := by decide +kernel
theorem dX5_totalOfHand_45 : decode cX5_totalOfHand 45 = .ok (.iaload, 1) := by decide +kernel
theorem dX5_totalOfHand_46 : decode cX5_totalOfHand 46 = .ok (.ifCond .le 60, 3) := by decide +kernel
theorem dX5_totalOfHand_49 : decode cX5_totalOfHand 49 = .ok (.iload_n 2, 1) := by decide +kernel
theorem dX5_totalOfHand_50 : decode cX5_totalOfHand 50 = .ok (.ifCond .ne 12, 3) := by decide +kernel
theorem dX5_totalOfHand_53 : decode cX5_totalOfHand 53 = .ok (.aload_n 0, 1) := by decide +kernel
theorem dX5_totalOfHand_54 : decode cX5_totalOfHand 54 = .ok (.getfield 28, 3) := by decide +kernel
theorem dX5_totalOfHand_57 : decode cX5_totalOfHand 57 = .ok (.iload_n 3, 1) := by decide +kernel
theorem dX5_totalOfHand_58 : decode cX5_totalOfHand 58 = .ok (.iaload, 1) := by decide +kernel
theorem dX5_totalOfHand_59 : decode cX5_totalOfHand 59 = .ok (.goto 44, 3) := by decide +kernel
theorem dX5_totalOfHand_62 : decode cX5_totalOfHand 62 = .ok (.aload_n 0, 1) := by decide +kernel
theorem dX5_totalOfHand_63 : decode cX5_totalOfHand 63 = .ok (.getfield 28, 3) := by decide +kernel
theorem dX5_totalOfHand_66 : decode cX5_totalOfHand 66 = .ok (.iload_n 3, 1) := by decide +kernel
theorem dX5_totalOfHand_67 : decode cX5_totalOfHand 67 = .ok (.iaload, 1) := by decide +kernel
theorem dX5_totalOfHand_68 : decode cX5_totalOfHand 68 = .ok (.iload_n 1, 1) := by decide +kernel
theorem dX5_totalOfHand_69 : decode cX5_totalOfHand 69 = .ok (.if_icmp .ge 7, 3) := by decide +kernel
theorem dX5_totalOfHand_72 : decode cX5_totalOfHand 72 = .ok (.iconst 1, 1) := by decide +kernel
theorem dX5_totalOfHand_73 : decode cX5_totalOfHand 73 = .ok (.goto 4, 3) := by decide +kernel
theorem dX5_totalOfHand_76 : decode cX5_totalOfHand 76 = .ok (.iconst 0, 1) := by decide +kernel
theorem dX5_totalOfHand_77 : decode cX5_totalOfHand 77 = .ok (.aload_n 0, 1) := by decide +kernel
theorem dX5_totalOfHand_78 : decode cX5_totalOfHand 78 = .ok (.getfield 88, 3) := by decide +kernel
theorem dX5_totalOfHand_81 : decode cX5_totalOfHand 81 = .ok (.iconst 1, 1) := by decide +kernel
theorem dX5_totalOfHand_82 : decode cX5_totalOfHand 82 = .ok (.if_icmp .ne 7, 3) := by decide +kernel
theorem dX5_totalOfHand_85 : decode cX5_totalOfHand 85 = .ok (.iconst 1, 1) := by decide +kernel
theorem dX5_totalOfHand_86 : decode cX5_totalOfHand 86 = .ok (.goto 4, 3) := by decide +kernel
theorem dX5_totalOfHand_89 : decode cX5_totalOfHand 89 = .ok (.iconst 0, 1) := by decide +kernel
theorem dX5_totalOfHand_90 : decode cX5_totalOfHand 90 = .ok (.if_icmp .ne 12, 3) := by decide +kernel
theorem dX5_totalOfHand_93 : decode cX5_totalOfHand 93 = .ok (.aload_n 0, 1) := by decide +kernel
theorem dX5_totalOfHand_94 : decode cX5_totalOfHand 94 = .ok (.getfield 28, 3) := by decide +kernel
theorem dX5_totalOfHand_97 : decode cX5_totalOfHand 97 = .ok (.iload_n 3, 1) := by decide +kernel
theorem dX5_totalOfHand_98 : decode cX5_totalOfHand 98 = .ok (.iaload, 1) := by decide +kernel
theorem dX5_totalOfHand_99 : decode cX5_totalOfHand 99 = .ok (.goto 4, 3) := by decide +kernel
theorem dX5_totalOfHand_102 : decode cX5_totalOfHand 102 = .ok (.iload_n 1, 1) := by decide +kernel
theorem dX5_totalOfHand_103 : decode cX5_totalOfHand 103 = .ok (.istore_n 1, 1) := by decide +kernel
theorem dX5_totalOfHand_104 : decode cX5_totalOfHand 104 = .ok (.iconst 1, 1) := by decide +kernel
theorem dX5_totalOfHand_105 : decode cX5_totalOfHand 105 = .ok (.istore_n 2, 1) := by decide +kernel
theorem dX5_totalOfHand_106 : decode cX5_totalOfHand 106 = .ok (.iinc 3 1, 3) := by decide +kernel
theorem dX5_totalOfHand_109 : decode cX5_totalOfHand 109 = .ok (.goto (-103), 3) := by decide +kernel
theorem dX5_totalOfHand_112 : decode cX5_totalOfHand 112 = .ok (.iload_n 1, 1) := by decide +kernel
theorem dX5_totalOfHand_113 : decode cX5_totalOfHand 113 = .ok (.ireturn, 1) := by decide +kernel
set_option maxRecDepth 20000 in
theorem ggX5_totalOf_X5_totalOfHand : GoodIn wsX5_totalOf wsX5_totalOfHand := goodIn_r _ [8, 1, 9, 10, 2, 11, 12, 13, 14, 15, 16, 17, 18, 19, 20, 21, 22, 23, 24, 25, 26, 27, 28, 29, 30, 31, 32, 33, 34, 35, 36, 37, 38, 39] (by decide +kernel) (by decide +kernel)
set_option maxRecDepth 20000 in
theorem gX5_totalOf_X5_totalOfHand : GoodIn wsX5_totalOf (wsV RX5 95 RX5 yX5_totalOfHand wsX5_totalOfHand) := goodIn_app (goodIn_of _ (by decide +kernel)) ggX5_totalOf_X5_totalOfHand
theorem dX5_totalOf_0 : decode cX5_totalOf 0 = .ok (.iconst 0, 1) := by decide +kernel
theorem dX5_totalOf_1 : decode cX5_totalOf 1 = .ok (.istore_n 2, 1) := by decide +kernel
theorem dX5_totalOf_2 : decode cX5_totalOf 2 = .ok (.iload_n 2, 1) := by decide +kernel
theorem dX5_totalOf_3 : decode cX5_totalOf 3 = .ok (.aload_n 0, 1) := by decide +kernel
theorem dX5_totalOf_4 : decode cX5_totalOf 4 = .ok (.getfield 70, 3) := by decide +kernel
theorem dX5_totalOf_7 : decode cX5_totalOf 7 = .ok (.if_icmp .ge 26, 3) := by decide +kernel
theorem dX5_totalOf_10 : decode cX5_totalOf 10 = .ok (.aload_n 0, 1) := by decide +kernel
theorem dX5_totalOf_11 : decode cX5_totalOf 11 = .ok (.getfield 28, 3) := by decide +kernel
theorem dX5_totalOf_14 : decode cX5_totalOf 14 = .ok (.iload_n 2, 1) := by decide +kernel
theorem dX5_totalOf_15 : decode cX5_totalOf 15 = .ok (.aload_n 0, 1) := by decide +kernel
theorem dX5_totalOf_16 : decode cX5_totalOf 16 = .ok (.getfield 19, 3) := by decide +kernel
theorem dX5_totalOf_19 : decode cX5_totalOf 19 = .ok (.bipush 20, 2) := by decide +kernel
theorem dX5_totalOf_21 : decode cX5_totalOf 21 = .ok (.iload_n 2, 1) := by decide +kernel
theorem dX5_totalOf_22 : decode cX5_totalOf 22 = .ok (.imul, 1) := by decide +kernel
theorem dX5_totalOf_23 : decode cX5_totalOf 23 = .ok (.iload_n 1, 1) := by decide +kernel
theorem dX5_totalOf_24 : decode cX5_totalOf 24 = .ok (.iadd, 1) := by decide +kernel
theorem dX5_totalOf_25 : decode cX5_totalOf 25 = .ok (.iaload, 1) := by decide +kernel
theorem dX5_totalOf_26 : decode cX5_totalOf 26 = .ok (.iastore, 1) := by decide +kernel
theorem dX5_totalOf_27 : decode cX5_totalOf 27 = .ok (.iinc 2 1, 3) := by decide +kernel
theorem dX5_totalOf_30 : decode cX5_totalOf 30 = .ok (.goto (-28), 3) := by decide +kernel
theorem dX5_totalOf_33 : decode cX5_totalOf 33 = .ok (.aload_n 0, 1) := by decide +kernel
theorem dX5_totalOf_34 : decode cX5_totalOf 34 = .ok (.invokevirtual 95, 3) := by decide +kernel
theorem dX5_totalOf_37 : decode cX5_totalOf 37 = .ok (.ireturn, 1) := by decide +kernel
set_option maxRecDepth 20000 in
theorem ggX5_total_X5_isThing : GoodIn wsX5_total wsX5_isThing := goodIn_r _ [5, 6, 7, 8, 4, 9, 23, 24, 25, 26, 27, 28, 29, 30, 31, 32, 33, 34, 35, 36, 37, 38, 39, 40, 41, 42, 43, 44, 45, 46, 47, 48, 49, 50, 51] (by decide +kernel) (by decide +kernel)
set_option maxRecDepth 20000 in
theorem gX5_total_X5_isThing : GoodIn wsX5_total (wsV RX5 81 RX5 yX5_isThing wsX5_isThing) := goodIn_app (goodIn_of _ (by decide +kernel)) ggX5_total_X5_isThing
set_option maxRecDepth 20000 in
theorem ggX5_total_X5_totalOf : GoodIn wsX5_total wsX5_totalOf := goodIn_r _ [13, 14, 15, 16, 17, 18, 19, 4, 20, 21, 22, 23, 24, 25, 26, 27, 28, 29, 30, 31, 32, 33, 34, 35, 36, 37, 38, 39, 40, 41, 42, 43, 44, 45, 46, 47, 48, 49, 50, 51] (by decide +kernel) (by decide +kernel)
set_option maxRecDepth 20000 in
theorem gX5_total_X5_totalOf : GoodIn wsX5_total (wsV RX5 99 RX5 yX5_totalOf wsX5_totalOf) := goodIn_app (goodIn_of _ (by decide +kernel)) ggX5_total_X5_totalOf
theorem dX5_total_0 : decode cX5_total 0 = .ok (.aload_n 0, 1) := by decide +kernel
theorem dX5_total_1 : decode cX5_total 1 = .ok (.iload_n 1, 1) := by decide +kernel
theorem dX5_total_2 : decode cX5_total 2 = .ok (.invokevirtual 81, 3) := by decide +kernel
theorem dX5_total_5 : decode cX5_total 5 = .ok (.ifCond .eq 11, 3) := by decide +kernel
theorem dX5_total_8 : decode cX5_total 8 = .ok (.aload_n 0, 1) := by decide +kernel
theorem dX5_total_9 : decode cX5_total 9 = .ok (.iload_n 1, 1) := by decide +kernel
theorem dX5_total_10 : decode cX5_total 10 = .ok (.invokevirtual 99, 3) := by decide +kernel
theorem dX5_total_13 : decode cX5_total 13 = .ok (.goto 4, 3) := by decide +kernel
theorem dX5_total_16 : decode cX5_total 16 = .ok (.iconst (-1), 1) := by decide +kernel
theorem dX5_total_17 : decode cX5_total 17 = .ok (.ireturn, 1) := by decide +kernel
set_option maxRecDepth 20000 in
theorem ggX5_best_X5_isThing : GoodIn wsX5_best wsX5_isThing := goodIn_r _ [6, 1, 7, 8, 5, 9, 23, 24, 25, 26, 27, 28, 29, 30, 31, 32, 33, 34, 35, 36, 37, 38, 39, 40, 41, 42, 43, 44, 45, 46, 47, 48, 49, 50, 51] (by decide +kernel) (by decide +kernel)
set_option maxRecDepth 20000 in
theorem gX5_best_X5_isThing : GoodIn wsX5_best (wsV RX5 81 RX5 yX5_isThing wsX5_isThing) := goodIn_app (goodIn_of _ (by decide +kernel)) ggX5_best_X5_isThing
set_option maxRecDepth 20000 in
theorem ggX5_best_X5_totalOf : GoodIn wsX5_best wsX5_totalOf := goodIn_r _ [13, 14, 15, 16, 17, 18, 19, 5, 20, 21, 22, 23, 24, 25, 26, 27, 28, 29, 30, 31, 32, 33, 34, 35, 36, 37, 38, 39, 40, 41, 42, 43, 44, 45, 46, 47, 48, 49, 50, 51] (by decide +kernel) (by decide +kernel)
set_option maxRecDepth 20000 in
theorem gX5_best_X5_totalOf : GoodIn wsX5_best (wsV RX5 99 RX5 yX5_totalOf wsX5_totalOf) := goodIn_app (goodIn_of _ (by decide +kernel)) ggX5_best_X5_totalOf
theorem dX5_best_0 : decode cX5_best 0 = .ok (.aload_n 0, 1) := by decide +kernel
theorem dX5_best_1 : decode cX5_best 1 = .ok (.iload_n 1, 1) := by decide +kernel
theorem dX5_best_2 : decode cX5_best 2 = .ok (.invokevirtual 81, 3) := by decide +kernel
theorem dX5_best_5 : decode cX5_best 5 = .ok (.ifCond .ne 5, 3) := by decide +kernel
theorem dX5_best_8 : decode cX5_best 8 = .ok (.iconst (-1), 1) := by decide +kernel
theorem dX5_best_9 : decode cX5_best 9 = .ok (.ireturn, 1) := by decide +kernel
theorem dX5_best_10 : decode cX5_best 10 = .ok (.iconst 0, 1) := by decide +kernel
theorem dX5_best_11 : decode cX5_best 11 = .ok (.istore_n 2, 1) := by decide +kernel
theorem dX5_best_12 : decode cX5_best 12 = .ok (.iload_n 2, 1) := by decide +kernel
theorem dX5_best_13 : decode cX5_best 13 = .ok (.aload_n 0, 1) := by decide +kernel
theorem dX5_best_14 : decode cX5_best 14 = .ok (.getfield 63, 3) := by decide +kernel
theorem dX5_best_17 : decode cX5_best 17 = .ok (.if_icmp .ge 78, 3) := by decide +kernel
theorem dX5_best_20 : decode cX5_best 20 = .ok (.iconst 0, 1) := by decide +kernel
theorem dX5_best_21 : decode cX5_best 21 = .ok (.istore_n 3, 1) := by decide +kernel
theorem dX5_best_22 : decode cX5_best 22 = .ok (.iconst 0, 1) := by decide +kernel
theorem dX5_best_23 : decode cX5_best 23 = .ok (.istore 4, 2) := by decide +kernel
theorem dX5_best_25 : decode cX5_best 25 = .ok (.iload 4, 2) := by decide +kernel
theorem dX5_best_27 : decode cX5_best 27 = .ok (.aload_n 0, 1) := by decide +kernel
theorem dX5_best_28 : decode cX5_best 28 = .ok (.getfield 63, 3) := by decide +kernel
theorem dX5_best_31 : decode cX5_best 31 = .ok (.if_icmp .ge 51, 3) := by decide +kernel
theorem dX5_best_34 : decode cX5_best 34 = .ok (.iload_n 3, 1) := by decide +kernel
theorem dX5_best_35 : decode cX5_best 35 = .ok (.aload_n 0, 1) := by decide +kernel
theorem dX5_best_36 : decode cX5_best 36 = .ok (.iload 4, 2) := by decide +kernel
theorem dX5_best_38 : decode cX5_best 38 = .ok (.invokevirtual 99, 3) := by decide +kernel
theorem dX5_best_41 : decode cX5_best 41 = .ok (.aload_n 0, 1) := by decide +kernel
theorem dX5_best_42 : decode cX5_best 42 = .ok (.iload_n 2, 1) := by decide +kernel
theorem dX5_best_43 : decode cX5_best 43 = .ok (.invokevirtual 99, 3) := by decide +kernel
theorem dX5_best_46 : decode cX5_best 46 = .ok (.if_icmp .gt 23, 3) := by decide +kernel
theorem dX5_best_49 : decode cX5_best 49 = .ok (.aload_n 0, 1) := by decide +kernel
theorem dX5_best_50 : decode cX5_best 50 = .ok (.iload 4, 2) := by decide +kernel
theorem dX5_best_52 : decode cX5_best 52 = .ok (.invokevirtual 99, 3) := by decide +kernel
theorem dX5_best_55 : decode cX5_best 55 = .ok (.aload_n 0, 1) := by decide +kernel
theorem dX5_best_56 : decode cX5_best 56 = .ok (.iload_n 2, 1) := by decide +kernel
theorem dX5_best_57 : decode cX5_best 57 = .ok (.invokevirtual 99, 3) := by decide +kernel
theorem dX5_best_60 : decode cX5_best 60 = .ok (.if_icmp .ne 13, 3) := by decide +kernel
theorem dX5_best_63 : decode cX5_best 63 = .ok (.iload 4, 2) := by decide +kernel
theorem dX5_best_65 : decode cX5_best 65 = .ok (.iload_n 2, 1) := by decide +kernel
theorem dX5_best_66 : decode cX5_best 66 = .ok (.if_icmp .ge 7, 3) := by decide +kernel
theorem dX5_best_69 : decode cX5_best 69 = .ok (.iconst 1, 1) := by decide +kernel
theorem dX5_best_70 : decode cX5_best 70 = .ok (.goto 4, 3) := by decide +kernel
theorem dX5_best_73 : decode cX5_best 73 = .ok (.iconst 0, 1) := by decide +kernel
theorem dX5_best_74 : decode cX5_best 74 = .ok (.iadd, 1) := by decide +kernel
theorem dX5_best_75 : decode cX5_best 75 = .ok (.istore_n 3, 1) := by decide +kernel
theorem dX5_best_76 : decode cX5_best 76 = .ok (.iinc 4 1, 3) := by decide +kernel
theorem dX5_best_79 : decode cX5_best 79 = .ok (.goto (-54), 3) := by decide +kernel
theorem dX5_best_82 : decode cX5_best 82 = .ok (.iload_n 3, 1) := by decide +kernel
theorem dX5_best_83 : decode cX5_best 83 = .ok (.iload_n 1, 1) := by decide +kernel
theorem dX5_best_84 : decode cX5_best 84 = .ok (.if_icmp .ne 5, 3) := by decide +kernel
theorem dX5_best_87 : decode cX5_best 87 = .ok (.iload_n 2, 1) := by decide +kernel
theorem dX5_best_88 : decode cX5_best 88 = .ok (.ireturn, 1) := by decide +kernel
theorem dX5_best_89 : decode cX5_best 89 = .ok (.iinc 2 1, 3) := by decide +kernel
theorem dX5_best_92 : decode cX5_best 92 = .ok (.goto (-80), 3) := by decide +kernel
theorem dX5_best_95 : decode cX5_best 95 = .ok (.iconst (-1), 1) := by decide +kernel
theorem dX5_best_96 : decode cX5_best 96 = .ok (.ireturn, 1) := by decide +kernel
set_option maxRecDepth 20000 in
theorem ggX5_isKnown_X5_placeOf : GoodIn wsX5_isKnown wsX5_placeOf := goodIn_r _ [9, 3, 10, 11, 12, 13, 14, 15, 16, 17, 18, 19, 20, 21, 22, 23, 24, 25, 26, 27, 28, 29, 30, 31, 32, 33, 34, 35, 36, 37, 38, 39] (by decide +kernel) (by decide +kernel)
set_option maxRecDepth 20000 in
theorem gX5_isKnown_X5_placeOf : GoodIn wsX5_isKnown (wsV RX5 91 RX5 yX5_placeOf wsX5_placeOf) := goodIn_app (goodIn_of _ (by decide +kernel)) ggX5_isKnown_X5_placeOf
theorem dX5_isKnown_0 : decode cX5_isKnown 0 = .ok (.aload_n 0, 1) := by decide +kernel
theorem dX5_isKnown_1 : decode cX5_isKnown 1 = .ok (.getfield 34, 3) := by decide +kernel
theorem dX5_isKnown_4 : decode cX5_isKnown 4 = .ok (.bipush 20, 2) := by decide +kernel
theorem dX5_isKnown_6 : decode cX5_isKnown 6 = .ok (.iload_n 1, 1) := by decide +kernel
theorem dX5_isKnown_7 : decode cX5_isKnown 7 = .ok (.imul, 1) := by decide +kernel
theorem dX5_isKnown_8 : decode cX5_isKnown 8 = .ok (.iload_n 2, 1) := by decide +kernel
theorem dX5_isKnown_9 : decode cX5_isKnown 9 = .ok (.iadd, 1) := by decide +kernel
theorem dX5_isKnown_10 : decode cX5_isKnown 10 = .ok (.baload, 1) := by decide +kernel
theorem dX5_isKnown_11 : decode cX5_isKnown 11 = .ok (.ifCond .ne 18, 3) := by decide +kernel
theorem dX5_isKnown_14 : decode cX5_isKnown 14 = .ok (.aload_n 0, 1) := by decide +kernel
theorem dX5_isKnown_15 : decode cX5_isKnown 15 = .ok (.getfield 31, 3) := by decide +kernel
theorem dX5_isKnown_18 : decode cX5_isKnown 18 = .ok (.iload_n 1, 1) := by decide +kernel
theorem dX5_isKnown_19 : decode cX5_isKnown 19 = .ok (.iaload, 1) := by decide +kernel
theorem dX5_isKnown_20 : decode cX5_isKnown 20 = .ok (.aload_n 0, 1) := by decide +kernel
theorem dX5_isKnown_21 : decode cX5_isKnown 21 = .ok (.getfield 25, 3) := by decide +kernel
theorem dX5_isKnown_24 : decode cX5_isKnown 24 = .ok (.iload_n 1, 1) := by decide +kernel
theorem dX5_isKnown_25 : decode cX5_isKnown 25 = .ok (.iaload, 1) := by decide +kernel
theorem dX5_isKnown_26 : decode cX5_isKnown 26 = .ok (.if_icmp .ne 5, 3) := by decide +kernel
theorem dX5_isKnown_29 : decode cX5_isKnown 29 = .ok (.iconst 1, 1) := by decide +kernel
theorem dX5_isKnown_30 : decode cX5_isKnown 30 = .ok (.ireturn, 1) := by decide +kernel
theorem dX5_isKnown_31 : decode cX5_isKnown 31 = .ok (.aload_n 0, 1) := by decide +kernel
theorem dX5_isKnown_32 : decode cX5_isKnown 32 = .ok (.getfield 19, 3) := by decide +kernel
theorem dX5_isKnown_35 : decode cX5_isKnown 35 = .ok (.bipush 20, 2) := by decide +kernel
theorem dX5_isKnown_37 : decode cX5_isKnown 37 = .ok (.iload_n 1, 1) := by decide +kernel
theorem dX5_isKnown_38 : decode cX5_isKnown 38 = .ok (.imul, 1) := by decide +kernel
theorem dX5_isKnown_39 : decode cX5_isKnown 39 = .ok (.iload_n 2, 1) := by decide +kernel
theorem dX5_isKnown_40 : decode cX5_isKnown 40 = .ok (.iadd, 1) := by decide +kernel
theorem dX5_isKnown_41 : decode cX5_isKnown 41 = .ok (.iaload, 1) := by decide +kernel
theorem dX5_isKnown_42 : decode cX5_isKnown 42 = .ok (.ifCond .le 22, 3) := by decide +kernel
theorem dX5_isKnown_45 : decode cX5_isKnown 45 = .ok (.aload_n 0, 1) := by decide +kernel
theorem dX5_isKnown_46 : decode cX5_isKnown 46 = .ok (.iload_n 1, 1) := by decide +kernel
theorem dX5_isKnown_47 : decode cX5_isKnown 47 = .ok (.iload_n 2, 1) := by decide +kernel
theorem dX5_isKnown_48 : decode cX5_isKnown 48 = .ok (.invokevirtual 91, 3) := by decide +kernel
theorem dX5_isKnown_51 : decode cX5_isKnown 51 = .ok (.aload_n 0, 1) := by decide +kernel
theorem dX5_isKnown_52 : decode cX5_isKnown 52 = .ok (.getfield 31, 3) := by decide +kernel
theorem dX5_isKnown_55 : decode cX5_isKnown 55 = .ok (.iload_n 1, 1) := by decide +kernel
theorem dX5_isKnown_56 : decode cX5_isKnown 56 = .ok (.iaload, 1) := by decide +kernel
theorem dX5_isKnown_57 : decode cX5_isKnown 57 = .ok (.if_icmp .ge 7, 3) := by decide +kernel
theorem dX5_isKnown_60 : decode cX5_isKnown 60 = .ok (.iconst 1, 1) := by decide +kernel
theorem dX5_isKnown_61 : decode cX5_isKnown 61 = .ok (.goto 4, 3) := by decide +kernel
theorem dX5_isKnown_64 : decode cX5_isKnown 64 = .ok (.iconst 0, 1) := by decide +kernel
theorem dX5_isKnown_65 : decode cX5_isKnown 65 = .ok (.ireturn, 1) := by decide +kernel
theorem dX5_topOf_0 : decode cX5_topOf 0 = .ok (.aload_n 0, 1) := by decide +kernel
theorem dX5_topOf_1 : decode cX5_topOf 1 = .ok (.getfield 31, 3) := by decide +kernel
theorem dX5_topOf_4 : decode cX5_topOf 4 = .ok (.iload_n 1, 1) := by decide +kernel
theorem dX5_topOf_5 : decode cX5_topOf 5 = .ok (.iaload, 1) := by decide +kernel
theorem dX5_topOf_6 : decode cX5_topOf 6 = .ok (.aload_n 0, 1) := by decide +kernel
theorem dX5_topOf_7 : decode cX5_topOf 7 = .ok (.getfield 25, 3) := by decide +kernel
theorem dX5_topOf_10 : decode cX5_topOf 10 = .ok (.iload_n 1, 1) := by decide +kernel
theorem dX5_topOf_11 : decode cX5_topOf 11 = .ok (.iaload, 1) := by decide +kernel
theorem dX5_topOf_12 : decode cX5_topOf 12 = .ok (.if_icmp .ne 5, 3) := by decide +kernel
theorem dX5_topOf_15 : decode cX5_topOf 15 = .ok (.iconst 0, 1) := by decide +kernel
theorem dX5_topOf_16 : decode cX5_topOf 16 = .ok (.ireturn, 1) := by decide +kernel
theorem dX5_topOf_17 : decode cX5_topOf 17 = .ok (.aload_n 0, 1) := by decide +kernel
theorem dX5_topOf_18 : decode cX5_topOf 18 = .ok (.getfield 31, 3) := by decide +kernel
theorem dX5_topOf_21 : decode cX5_topOf 21 = .ok (.iload_n 1, 1) := by decide +kernel
theorem dX5_topOf_22 : decode cX5_topOf 22 = .ok (.iaload, 1) := by decide +kernel
theorem dX5_topOf_23 : decode cX5_topOf 23 = .ok (.ifCond .ne 9, 3) := by decide +kernel
theorem dX5_topOf_26 : decode cX5_topOf 26 = .ok (.sipush 1000, 3) := by decide +kernel
theorem dX5_topOf_29 : decode cX5_topOf 29 = .ok (.goto 31, 3) := by decide +kernel
theorem dX5_topOf_32 : decode cX5_topOf 32 = .ok (.aload_n 0, 1) := by decide +kernel
theorem dX5_topOf_33 : decode cX5_topOf 33 = .ok (.getfield 19, 3) := by decide +kernel
theorem dX5_topOf_36 : decode cX5_topOf 36 = .ok (.bipush 20, 2) := by decide +kernel
theorem dX5_topOf_38 : decode cX5_topOf 38 = .ok (.iload_n 1, 1) := by decide +kernel
theorem dX5_topOf_39 : decode cX5_topOf 39 = .ok (.imul, 1) := by decide +kernel
theorem dX5_topOf_40 : decode cX5_topOf 40 = .ok (.aload_n 0, 1) := by decide +kernel
theorem dX5_topOf_41 : decode cX5_topOf 41 = .ok (.getfield 22, 3) := by decide +kernel
theorem dX5_topOf_44 : decode cX5_topOf 44 = .ok (.bipush 20, 2) := by decide +kernel
theorem dX5_topOf_46 : decode cX5_topOf 46 = .ok (.iload_n 1, 1) := by decide +kernel
theorem dX5_topOf_47 : decode cX5_topOf 47 = .ok (.imul, 1) := by decide +kernel
theorem dX5_topOf_48 : decode cX5_topOf 48 = .ok (.aload_n 0, 1) := by decide +kernel
theorem dX5_topOf_49 : decode cX5_topOf 49 = .ok (.getfield 31, 3) := by decide +kernel
theorem dX5_topOf_52 : decode cX5_topOf 52 = .ok (.iload_n 1, 1) := by decide +kernel
theorem dX5_topOf_53 : decode cX5_topOf 53 = .ok (.iaload, 1) := by decide +kernel
