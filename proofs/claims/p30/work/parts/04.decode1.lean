theorem dX0_init_0 : decode cX0_init 0 = .ok (.aload_n 0, 1) := by decide +kernel
theorem dX0_init_1 : decode cX0_init 1 = .ok (.invokespecial 3, 3) := by decide +kernel
theorem dX0_init_4 : decode cX0_init 4 = .ok (.aload_n 0, 1) := by decide +kernel
theorem dX0_init_5 : decode cX0_init 5 = .ok (.bipush 12, 2) := by decide +kernel
theorem dX0_init_7 : decode cX0_init 7 = .ok (.newarray .int, 2) := by decide +kernel
theorem dX0_init_9 : decode cX0_init 9 = .ok (.putfield 9, 3) := by decide +kernel
theorem dX0_init_12 : decode cX0_init 12 = .ok (.return_, 1) := by decide +kernel
set_option maxRecDepth 20000 in
theorem ggX0_divide_X2_freeLefts : GoodIn wsX0_divide wsX2_freeLefts := goodIn_r _ [15, 16, 17, 18, 14, 19, 50, 51, 52] (by decide +kernel) (by decide +kernel)
set_option maxRecDepth 20000 in
theorem gX0_divide_X2_freeLefts : GoodIn wsX0_divide (wsV RX0 21 RX2 yX2_freeLefts wsX2_freeLefts) := goodIn_app (goodIn_of _ (by decide +kernel)) ggX0_divide_X2_freeLefts
set_option maxRecDepth 20000 in
theorem ggX0_divide_X2_freeRights : GoodIn wsX0_divide wsX2_freeRights := goodIn_r _ [23, 24, 17, 18, 14, 19, 50, 51, 52] (by decide +kernel) (by decide +kernel)
set_option maxRecDepth 20000 in
theorem gX0_divide_X2_freeRights : GoodIn wsX0_divide (wsV RX0 33 RX2 yX2_freeRights wsX2_freeRights) := goodIn_app (goodIn_of _ (by decide +kernel)) ggX0_divide_X2_freeRights
set_option maxRecDepth 20000 in
theorem ggX0_divide_X0_union : GoodIn wsX0_divide wsX0_union := goodIn_r _ [28, 29, 30, 31] (by decide +kernel) (by decide +kernel)
set_option maxRecDepth 20000 in
theorem gX0_divide_X0_union : GoodIn wsX0_divide (va_wsS RX0 42 yX0_union wsX0_union) := goodIn_app (goodIn_of _ (by decide +kernel)) ggX0_divide_X0_union
set_option maxRecDepth 20000 in
theorem ggX0_divide_X0_partners : GoodIn wsX0_divide wsX0_partners := goodIn_r _ [34, 29, 30, 31] (by decide +kernel) (by decide +kernel)
set_option maxRecDepth 20000 in
theorem gX0_divide_X0_partners : GoodIn wsX0_divide (va_wsS RX0 52 yX0_partners wsX0_partners) := goodIn_app (goodIn_of _ (by decide +kernel)) ggX0_divide_X0_partners
set_option maxRecDepth 20000 in
theorem ggX0_divide_X0_reach : GoodIn wsX0_divide wsX0_reach := goodIn_r _ [38, 1, 2, 9, 39, 7, 5, 29, 30, 31, 32, 33, 27, 34, 40, 41, 42, 43, 44, 45, 46, 47, 48, 49, 50, 51, 52] (by decide +kernel) (by decide +kernel)
set_option maxRecDepth 20000 in
theorem gX0_divide_X0_reach : GoodIn wsX0_divide (wsV RX0 64 RX0 yX0_reach wsX0_reach) := goodIn_app (goodIn_of _ (by decide +kernel)) ggX0_divide_X0_reach
theorem dX0_divide_0 : decode cX0_divide 0 = .ok (.aload_n 0, 1) := by decide +kernel
theorem dX0_divide_1 : decode cX0_divide 1 = .ok (.aload_n 2, 1) := by decide +kernel
theorem dX0_divide_2 : decode cX0_divide 2 = .ok (.aload_n 1, 1) := by decide +kernel
theorem dX0_divide_3 : decode cX0_divide 3 = .ok (.getfield 15, 3) := by decide +kernel
theorem dX0_divide_6 : decode cX0_divide 6 = .ok (.invokevirtual 21, 3) := by decide +kernel
theorem dX0_divide_9 : decode cX0_divide 9 = .ok (.putfield 27, 3) := by decide +kernel
theorem dX0_divide_12 : decode cX0_divide 12 = .ok (.aload_n 0, 1) := by decide +kernel
theorem dX0_divide_13 : decode cX0_divide 13 = .ok (.aload_n 2, 1) := by decide +kernel
theorem dX0_divide_14 : decode cX0_divide 14 = .ok (.aload_n 1, 1) := by decide +kernel
theorem dX0_divide_15 : decode cX0_divide 15 = .ok (.getfield 30, 3) := by decide +kernel
theorem dX0_divide_18 : decode cX0_divide 18 = .ok (.invokevirtual 33, 3) := by decide +kernel
theorem dX0_divide_21 : decode cX0_divide 21 = .ok (.putfield 36, 3) := by decide +kernel
theorem dX0_divide_24 : decode cX0_divide 24 = .ok (.iconst 0, 1) := by decide +kernel
theorem dX0_divide_25 : decode cX0_divide 25 = .ok (.istore_n 3, 1) := by decide +kernel
theorem dX0_divide_26 : decode cX0_divide 26 = .ok (.iload_n 3, 1) := by decide +kernel
theorem dX0_divide_27 : decode cX0_divide 27 = .ok (.bipush 12, 2) := by decide +kernel
theorem dX0_divide_29 : decode cX0_divide 29 = .ok (.if_icmp .ge 79, 3) := by decide +kernel
theorem dX0_divide_32 : decode cX0_divide 32 = .ok (.aload_n 0, 1) := by decide +kernel
theorem dX0_divide_33 : decode cX0_divide 33 = .ok (.aload_n 1, 1) := by decide +kernel
theorem dX0_divide_34 : decode cX0_divide 34 = .ok (.getfield 39, 3) := by decide +kernel
theorem dX0_divide_37 : decode cX0_divide 37 = .ok (.aload_n 0, 1) := by decide +kernel
theorem dX0_divide_38 : decode cX0_divide 38 = .ok (.getfield 27, 3) := by decide +kernel
theorem dX0_divide_41 : decode cX0_divide 41 = .ok (.invokestatic 42, 3) := by decide +kernel
theorem dX0_divide_44 : decode cX0_divide 44 = .ok (.putfield 46, 3) := by decide +kernel
theorem dX0_divide_47 : decode cX0_divide 47 = .ok (.aload_n 0, 1) := by decide +kernel
theorem dX0_divide_48 : decode cX0_divide 48 = .ok (.dup, 1) := by decide +kernel
theorem dX0_divide_49 : decode cX0_divide 49 = .ok (.getfield 27, 3) := by decide +kernel
theorem dX0_divide_52 : decode cX0_divide 52 = .ok (.aload_n 2, 1) := by decide +kernel
theorem dX0_divide_53 : decode cX0_divide 53 = .ok (.getfield 49, 3) := by decide +kernel
theorem dX0_divide_56 : decode cX0_divide 56 = .ok (.aload_n 0, 1) := by decide +kernel
theorem dX0_divide_57 : decode cX0_divide 57 = .ok (.getfield 46, 3) := by decide +kernel
theorem dX0_divide_60 : decode cX0_divide 60 = .ok (.invokestatic 52, 3) := by decide +kernel
theorem dX0_divide_63 : decode cX0_divide 63 = .ok (.ior, 1) := by decide +kernel
theorem dX0_divide_64 : decode cX0_divide 64 = .ok (.putfield 27, 3) := by decide +kernel
theorem dX0_divide_67 : decode cX0_divide 67 = .ok (.aload_n 0, 1) := by decide +kernel
theorem dX0_divide_68 : decode cX0_divide 68 = .ok (.aload_n 1, 1) := by decide +kernel
theorem dX0_divide_69 : decode cX0_divide 69 = .ok (.getfield 55, 3) := by decide +kernel
theorem dX0_divide_72 : decode cX0_divide 72 = .ok (.aload_n 0, 1) := by decide +kernel
theorem dX0_divide_73 : decode cX0_divide 73 = .ok (.getfield 36, 3) := by decide +kernel
theorem dX0_divide_76 : decode cX0_divide 76 = .ok (.invokestatic 42, 3) := by decide +kernel
theorem dX0_divide_79 : decode cX0_divide 79 = .ok (.putfield 58, 3) := by decide +kernel
theorem dX0_divide_82 : decode cX0_divide 82 = .ok (.aload_n 0, 1) := by decide +kernel
theorem dX0_divide_83 : decode cX0_divide 83 = .ok (.dup, 1) := by decide +kernel
theorem dX0_divide_84 : decode cX0_divide 84 = .ok (.getfield 36, 3) := by decide +kernel
theorem dX0_divide_87 : decode cX0_divide 87 = .ok (.aload_n 2, 1) := by decide +kernel
theorem dX0_divide_88 : decode cX0_divide 88 = .ok (.getfield 61, 3) := by decide +kernel
theorem dX0_divide_91 : decode cX0_divide 91 = .ok (.aload_n 0, 1) := by decide +kernel
theorem dX0_divide_92 : decode cX0_divide 92 = .ok (.getfield 58, 3) := by decide +kernel
theorem dX0_divide_95 : decode cX0_divide 95 = .ok (.invokestatic 52, 3) := by decide +kernel
theorem dX0_divide_98 : decode cX0_divide 98 = .ok (.ior, 1) := by decide +kernel
theorem dX0_divide_99 : decode cX0_divide 99 = .ok (.putfield 36, 3) := by decide +kernel
theorem dX0_divide_102 : decode cX0_divide 102 = .ok (.iinc 3 1, 3) := by decide +kernel
theorem dX0_divide_105 : decode cX0_divide 105 = .ok (.goto (-79), 3) := by decide +kernel
theorem dX0_divide_108 : decode cX0_divide 108 = .ok (.aload_n 0, 1) := by decide +kernel
theorem dX0_divide_109 : decode cX0_divide 109 = .ok (.aload_n 1, 1) := by decide +kernel
theorem dX0_divide_110 : decode cX0_divide 110 = .ok (.aload_n 2, 1) := by decide +kernel
theorem dX0_divide_111 : decode cX0_divide 111 = .ok (.invokevirtual 64, 3) := by decide +kernel
theorem dX0_divide_114 : decode cX0_divide 114 = .ok (.return_, 1) := by decide +kernel
set_option maxRecDepth 20000 in
theorem ggX0_reach_X6_holds : GoodIn wsX0_reach wsX6_holds := goodIn_r _ [9] (by decide +kernel) (by decide +kernel)
set_option maxRecDepth 20000 in
theorem gX0_reach_X6_holds_n68 : GoodIn wsX0_reach (wsX6_holds) := ggX0_reach_X6_holds
set_option maxRecDepth 20000 in
theorem ggX0_reach_X0_partners : GoodIn wsX0_reach wsX0_partners := goodIn_r _ [13, 7, 8, 9] (by decide +kernel) (by decide +kernel)
set_option maxRecDepth 20000 in
theorem gX0_reach_X0_partners : GoodIn wsX0_reach (va_wsS RX0 52 yX0_partners wsX0_partners) := goodIn_app (goodIn_of _ (by decide +kernel)) ggX0_reach_X0_partners
theorem dX0_reach_0 : decode cX0_reach 0 = .ok (.iconst 1, 1) := by decide +kernel
theorem dX0_reach_1 : decode cX0_reach 1 = .ok (.aload_n 1, 1) := by decide +kernel
theorem dX0_reach_2 : decode cX0_reach 2 = .ok (.getfield 15, 3) := by decide +kernel
theorem dX0_reach_5 : decode cX0_reach 5 = .ok (.ishl, 1) := by decide +kernel
theorem dX0_reach_6 : decode cX0_reach 6 = .ok (.iconst 1, 1) := by decide +kernel
theorem dX0_reach_7 : decode cX0_reach 7 = .ok (.isub, 1) := by decide +kernel
theorem dX0_reach_8 : decode cX0_reach 8 = .ok (.aload_n 0, 1) := by decide +kernel
theorem dX0_reach_9 : decode cX0_reach 9 = .ok (.getfield 27, 3) := by decide +kernel
theorem dX0_reach_12 : decode cX0_reach 12 = .ok (.aload_n 0, 1) := by decide +kernel
theorem dX0_reach_13 : decode cX0_reach 13 = .ok (.getfield 58, 3) := by decide +kernel
theorem dX0_reach_16 : decode cX0_reach 16 = .ok (.ior, 1) := by decide +kernel
theorem dX0_reach_17 : decode cX0_reach 17 = .ok (.iconst (-1), 1) := by decide +kernel
theorem dX0_reach_18 : decode cX0_reach 18 = .ok (.ixor, 1) := by decide +kernel
theorem dX0_reach_19 : decode cX0_reach 19 = .ok (.iand, 1) := by decide +kernel
theorem dX0_reach_20 : decode cX0_reach 20 = .ok (.istore_n 3, 1) := by decide +kernel
theorem dX0_reach_21 : decode cX0_reach 21 = .ok (.iconst 0, 1) := by decide +kernel
theorem dX0_reach_22 : decode cX0_reach 22 = .ok (.istore 4, 2) := by decide +kernel
theorem dX0_reach_24 : decode cX0_reach 24 = .ok (.iload 4, 2) := by decide +kernel
theorem dX0_reach_26 : decode cX0_reach 26 = .ok (.aload_n 1, 1) := by decide +kernel
theorem dX0_reach_27 : decode cX0_reach 27 = .ok (.getfield 15, 3) := by decide +kernel
theorem dX0_reach_30 : decode cX0_reach 30 = .ok (.if_icmp .ge 54, 3) := by decide +kernel
theorem dX0_reach_33 : decode cX0_reach 33 = .ok (.aload_n 0, 1) := by decide +kernel
theorem dX0_reach_34 : decode cX0_reach 34 = .ok (.getfield 9, 3) := by decide +kernel
theorem dX0_reach_37 : decode cX0_reach 37 = .ok (.iload 4, 2) := by decide +kernel
theorem dX0_reach_39 : decode cX0_reach 39 = .ok (.iconst 0, 1) := by decide +kernel
theorem dX0_reach_40 : decode cX0_reach 40 = .ok (.iastore, 1) := by decide +kernel
theorem dX0_reach_41 : decode cX0_reach 41 = .ok (.iload_n 3, 1) := by decide +kernel
theorem dX0_reach_42 : decode cX0_reach 42 = .ok (.iload 4, 2) := by decide +kernel
theorem dX0_reach_44 : decode cX0_reach 44 = .ok (.invokestatic 68, 3) := by decide +kernel
theorem dX0_reach_47 : decode cX0_reach 47 = .ok (.ifCond .eq 31, 3) := by decide +kernel
theorem dX0_reach_50 : decode cX0_reach 50 = .ok (.aload_n 0, 1) := by decide +kernel
theorem dX0_reach_51 : decode cX0_reach 51 = .ok (.getfield 9, 3) := by decide +kernel
theorem dX0_reach_54 : decode cX0_reach 54 = .ok (.iload 4, 2) := by decide +kernel
theorem dX0_reach_56 : decode cX0_reach 56 = .ok (.aload_n 2, 1) := by decide +kernel
theorem dX0_reach_57 : decode cX0_reach 57 = .ok (.getfield 49, 3) := by decide +kernel
theorem dX0_reach_60 : decode cX0_reach 60 = .ok (.aload_n 1, 1) := by decide +kernel
theorem dX0_reach_61 : decode cX0_reach 61 = .ok (.getfield 39, 3) := by decide +kernel
theorem dX0_reach_64 : decode cX0_reach 64 = .ok (.iload 4, 2) := by decide +kernel
theorem dX0_reach_66 : decode cX0_reach 66 = .ok (.iaload, 1) := by decide +kernel
theorem dX0_reach_67 : decode cX0_reach 67 = .ok (.invokestatic 52, 3) := by decide +kernel
theorem dX0_reach_70 : decode cX0_reach 70 = .ok (.iconst 1, 1) := by decide +kernel
theorem dX0_reach_71 : decode cX0_reach 71 = .ok (.iload 4, 2) := by decide +kernel
theorem dX0_reach_73 : decode cX0_reach 73 = .ok (.ishl, 1) := by decide +kernel
theorem dX0_reach_74 : decode cX0_reach 74 = .ok (.ior, 1) := by decide +kernel
theorem dX0_reach_75 : decode cX0_reach 75 = .ok (.iload_n 3, 1) := by decide +kernel
theorem dX0_reach_76 : decode cX0_reach 76 = .ok (.iand, 1) := by decide +kernel
theorem dX0_reach_77 : decode cX0_reach 77 = .ok (.iastore, 1) := by decide +kernel
theorem dX0_reach_78 : decode cX0_reach 78 = .ok (.iinc 4 1, 3) := by decide +kernel
theorem dX0_reach_81 : decode cX0_reach 81 = .ok (.goto (-57), 3) := by decide +kernel
theorem dX0_reach_84 : decode cX0_reach 84 = .ok (.iconst 0, 1) := by decide +kernel
theorem dX0_reach_85 : decode cX0_reach 85 = .ok (.istore 4, 2) := by decide +kernel
theorem dX0_reach_87 : decode cX0_reach 87 = .ok (.iload 4, 2) := by decide +kernel
theorem dX0_reach_89 : decode cX0_reach 89 = .ok (.aload_n 1, 1) := by decide +kernel
theorem dX0_reach_90 : decode cX0_reach 90 = .ok (.getfield 15, 3) := by decide +kernel
theorem dX0_reach_93 : decode cX0_reach 93 = .ok (.if_icmp .ge 59, 3) := by decide +kernel
theorem dX0_reach_96 : decode cX0_reach 96 = .ok (.iconst 0, 1) := by decide +kernel
theorem dX0_reach_97 : decode cX0_reach 97 = .ok (.istore 5, 2) := by decide +kernel
theorem dX0_reach_99 : decode cX0_reach 99 = .ok (.iload 5, 2) := by decide +kernel
theorem dX0_reach_101 : decode cX0_reach 101 = .ok (.aload_n 1, 1) := by decide +kernel
theorem dX0_reach_102 : decode cX0_reach 102 = .ok (.getfield 15, 3) := by decide +kernel
theorem dX0_reach_105 : decode cX0_reach 105 = .ok (.if_icmp .ge 41, 3) := by decide +kernel
theorem dX0_reach_108 : decode cX0_reach 108 = .ok (.aload_n 0, 1) := by decide +kernel
theorem dX0_reach_109 : decode cX0_reach 109 = .ok (.getfield 9, 3) := by decide +kernel
theorem dX0_reach_112 : decode cX0_reach 112 = .ok (.iload 5, 2) := by decide +kernel
theorem dX0_reach_114 : decode cX0_reach 114 = .ok (.iaload, 1) := by decide +kernel
theorem dX0_reach_115 : decode cX0_reach 115 = .ok (.iload 4, 2) := by decide +kernel
theorem dX0_reach_117 : decode cX0_reach 117 = .ok (.invokestatic 68, 3) := by decide +kernel
theorem dX0_reach_120 : decode cX0_reach 120 = .ok (.ifCond .eq 20, 3) := by decide +kernel
theorem dX0_reach_123 : decode cX0_reach 123 = .ok (.aload_n 0, 1) := by decide +kernel
theorem dX0_reach_124 : decode cX0_reach 124 = .ok (.getfield 9, 3) := by decide +kernel
theorem dX0_reach_127 : decode cX0_reach 127 = .ok (.iload 5, 2) := by decide +kernel
theorem dX0_reach_129 : decode cX0_reach 129 = .ok (.dup2, 1) := by decide +kernel
theorem dX0_reach_130 : decode cX0_reach 130 = .ok (.iaload, 1) := by decide +kernel
theorem dX0_reach_131 : decode cX0_reach 131 = .ok (.aload_n 0, 1) := by decide +kernel
theorem dX0_reach_132 : decode cX0_reach 132 = .ok (.getfield 9, 3) := by decide +kernel
theorem dX0_reach_135 : decode cX0_reach 135 = .ok (.iload 4, 2) := by decide +kernel
theorem dX0_reach_137 : decode cX0_reach 137 = .ok (.iaload, 1) := by decide +kernel
theorem dX0_reach_138 : decode cX0_reach 138 = .ok (.ior, 1) := by decide +kernel
theorem dX0_reach_139 : decode cX0_reach 139 = .ok (.iastore, 1) := by decide +kernel
theorem dX0_reach_140 : decode cX0_reach 140 = .ok (.iinc 5 1, 3) := by decide +kernel
theorem dX0_reach_143 : decode cX0_reach 143 = .ok (.goto (-44), 3) := by decide +kernel
theorem dX0_reach_146 : decode cX0_reach 146 = .ok (.iinc 4 1, 3) := by decide +kernel
theorem dX0_reach_149 : decode cX0_reach 149 = .ok (.goto (-62), 3) := by decide +kernel
theorem dX0_reach_152 : decode cX0_reach 152 = .ok (.return_, 1) := by decide +kernel
set_option maxRecDepth 20000 in
theorem ggX0_union_X6_holds : GoodIn wsX0_union wsX6_holds := goodIn_r _ [3] (by decide +kernel) (by decide +kernel)
set_option maxRecDepth 20000 in
theorem gX0_union_X6_holds_n68 : GoodIn wsX0_union (wsX6_holds) := ggX0_union_X6_holds
theorem dX0_union_0 : decode cX0_union 0 = .ok (.iconst 0, 1) := by decide +kernel
theorem dX0_union_1 : decode cX0_union 1 = .ok (.istore_n 2, 1) := by decide +kernel
theorem dX0_union_2 : decode cX0_union 2 = .ok (.iconst 0, 1) := by decide +kernel
theorem dX0_union_3 : decode cX0_union 3 = .ok (.istore_n 3, 1) := by decide +kernel
theorem dX0_union_4 : decode cX0_union 4 = .ok (.iload_n 3, 1) := by decide +kernel
theorem dX0_union_5 : decode cX0_union 5 = .ok (.bipush 12, 2) := by decide +kernel
theorem dX0_union_7 : decode cX0_union 7 = .ok (.if_icmp .ge 23, 3) := by decide +kernel
theorem dX0_union_10 : decode cX0_union 10 = .ok (.iload_n 1, 1) := by decide +kernel
theorem dX0_union_11 : decode cX0_union 11 = .ok (.iload_n 3, 1) := by decide +kernel
theorem dX0_union_12 : decode cX0_union 12 = .ok (.invokestatic 68, 3) := by decide +kernel
theorem dX0_union_15 : decode cX0_union 15 = .ok (.ifCond .eq 9, 3) := by decide +kernel
theorem dX0_union_18 : decode cX0_union 18 = .ok (.iload_n 2, 1) := by decide +kernel
theorem dX0_union_19 : decode cX0_union 19 = .ok (.aload_n 0, 1) := by decide +kernel
theorem dX0_union_20 : decode cX0_union 20 = .ok (.iload_n 3, 1) := by decide +kernel
theorem dX0_union_21 : decode cX0_union 21 = .ok (.iaload, 1) := by decide +kernel
theorem dX0_union_22 : decode cX0_union 22 = .ok (.ior, 1) := by decide +kernel
theorem dX0_union_23 : decode cX0_union 23 = .ok (.istore_n 2, 1) := by decide +kernel
theorem dX0_union_24 : decode cX0_union 24 = .ok (.iinc 3 1, 3) := by decide +kernel
theorem dX0_union_27 : decode cX0_union 27 = .ok (.goto (-23), 3) := by decide +kernel
theorem dX0_union_30 : decode cX0_union 30 = .ok (.iload_n 2, 1) := by decide +kernel
theorem dX0_union_31 : decode cX0_union 31 = .ok (.ireturn, 1) := by decide +kernel
set_option maxRecDepth 20000 in
theorem ggX0_partners_X6_holds : GoodIn wsX0_partners wsX6_holds := goodIn_r _ [3] (by decide +kernel) (by decide +kernel)
set_option maxRecDepth 20000 in
theorem gX0_partners_X6_holds_n68 : GoodIn wsX0_partners (wsX6_holds) := ggX0_partners_X6_holds
theorem dX0_partners_0 : decode cX0_partners 0 = .ok (.iconst 0, 1) := by decide +kernel
theorem dX0_partners_1 : decode cX0_partners 1 = .ok (.istore_n 2, 1) := by decide +kernel
theorem dX0_partners_2 : decode cX0_partners 2 = .ok (.iconst 0, 1) := by decide +kernel
theorem dX0_partners_3 : decode cX0_partners 3 = .ok (.istore_n 3, 1) := by decide +kernel
theorem dX0_partners_4 : decode cX0_partners 4 = .ok (.iload_n 3, 1) := by decide +kernel
theorem dX0_partners_5 : decode cX0_partners 5 = .ok (.bipush 12, 2) := by decide +kernel
theorem dX0_partners_7 : decode cX0_partners 7 = .ok (.if_icmp .ge 32, 3) := by decide +kernel
theorem dX0_partners_10 : decode cX0_partners 10 = .ok (.iload_n 1, 1) := by decide +kernel
theorem dX0_partners_11 : decode cX0_partners 11 = .ok (.iload_n 3, 1) := by decide +kernel
theorem dX0_partners_12 : decode cX0_partners 12 = .ok (.invokestatic 68, 3) := by decide +kernel
theorem dX0_partners_15 : decode cX0_partners 15 = .ok (.ifCond .eq 18, 3) := by decide +kernel
theorem dX0_partners_18 : decode cX0_partners 18 = .ok (.aload_n 0, 1) := by decide +kernel
theorem dX0_partners_19 : decode cX0_partners 19 = .ok (.iload_n 3, 1) := by decide +kernel
theorem dX0_partners_20 : decode cX0_partners 20 = .ok (.iaload, 1) := by decide +kernel
theorem dX0_partners_21 : decode cX0_partners 21 = .ok (.iconst (-1), 1) := by decide +kernel
theorem dX0_partners_22 : decode cX0_partners 22 = .ok (.if_icmp .eq 11, 3) := by decide +kernel
theorem dX0_partners_25 : decode cX0_partners 25 = .ok (.iload_n 2, 1) := by decide +kernel
theorem dX0_partners_26 : decode cX0_partners 26 = .ok (.iconst 1, 1) := by decide +kernel
theorem dX0_partners_27 : decode cX0_partners 27 = .ok (.aload_n 0, 1) := by decide +kernel
theorem dX0_partners_28 : decode cX0_partners 28 = .ok (.iload_n 3, 1) := by decide +kernel
theorem dX0_partners_29 : decode cX0_partners 29 = .ok (.iaload, 1) := by decide +kernel
theorem dX0_partners_30 : decode cX0_partners 30 = .ok (.ishl, 1) := by decide +kernel
theorem dX0_partners_31 : decode cX0_partners 31 = .ok (.ior, 1) := by decide +kernel
theorem dX0_partners_32 : decode cX0_partners 32 = .ok (.istore_n 2, 1) := by decide +kernel
theorem dX0_partners_33 : decode cX0_partners 33 = .ok (.iinc 3 1, 3) := by decide +kernel
theorem dX0_partners_36 : decode cX0_partners 36 = .ok (.goto (-32), 3) := by decide +kernel
theorem dX0_partners_39 : decode cX0_partners 39 = .ok (.iload_n 2, 1) := by decide +kernel
theorem dX0_partners_40 : decode cX0_partners 40 = .ok (.ireturn, 1) := by decide +kernel
set_option maxRecDepth 20000 in
theorem ggX0_leftPart_X0_partIn : GoodIn wsX0_leftPart wsX0_partIn := goodIn_r _ [6, 7, 8, 9] (by decide +kernel) (by decide +kernel)
set_option maxRecDepth 20000 in
theorem gX0_leftPart_X0_partIn : GoodIn wsX0_leftPart (va_wsS RX0 72 yX0_partIn wsX0_partIn) := goodIn_app (goodIn_of _ (by decide +kernel)) ggX0_leftPart_X0_partIn
theorem dX0_leftPart_0 : decode cX0_leftPart 0 = .ok (.aload_n 0, 1) := by decide +kernel
theorem dX0_leftPart_1 : decode cX0_leftPart 1 = .ok (.getfield 27, 3) := by decide +kernel
theorem dX0_leftPart_4 : decode cX0_leftPart 4 = .ok (.aload_n 0, 1) := by decide +kernel
theorem dX0_leftPart_5 : decode cX0_leftPart 5 = .ok (.getfield 58, 3) := by decide +kernel
theorem dX0_leftPart_8 : decode cX0_leftPart 8 = .ok (.iload_n 1, 1) := by decide +kernel
theorem dX0_leftPart_9 : decode cX0_leftPart 9 = .ok (.invokestatic 72, 3) := by decide +kernel
theorem dX0_leftPart_12 : decode cX0_leftPart 12 = .ok (.ireturn, 1) := by decide +kernel
set_option maxRecDepth 20000 in
theorem ggX0_rightPart_X0_partIn : GoodIn wsX0_rightPart wsX0_partIn := goodIn_r _ [6, 7, 8, 9] (by decide +kernel) (by decide +kernel)
set_option maxRecDepth 20000 in
theorem gX0_rightPart_X0_partIn : GoodIn wsX0_rightPart (va_wsS RX0 72 yX0_partIn wsX0_partIn) := goodIn_app (goodIn_of _ (by decide +kernel)) ggX0_rightPart_X0_partIn
theorem dX0_rightPart_0 : decode cX0_rightPart 0 = .ok (.aload_n 0, 1) := by decide +kernel
theorem dX0_rightPart_1 : decode cX0_rightPart 1 = .ok (.getfield 46, 3) := by decide +kernel
theorem dX0_rightPart_4 : decode cX0_rightPart 4 = .ok (.aload_n 0, 1) := by decide +kernel
theorem dX0_rightPart_5 : decode cX0_rightPart 5 = .ok (.getfield 36, 3) := by decide +kernel
theorem dX0_rightPart_8 : decode cX0_rightPart 8 = .ok (.iload_n 1, 1) := by decide +kernel
theorem dX0_rightPart_9 : decode cX0_rightPart 9 = .ok (.invokestatic 72, 3) := by decide +kernel
theorem dX0_rightPart_12 : decode cX0_rightPart 12 = .ok (.ireturn, 1) := by decide +kernel
set_option maxRecDepth 20000 in
theorem ggX0_partIn_X6_holds : GoodIn wsX0_partIn wsX6_holds := goodIn_r _ [3] (by decide +kernel) (by decide +kernel)
set_option maxRecDepth 20000 in
theorem gX0_partIn_X6_holds_n68 : GoodIn wsX0_partIn (wsX6_holds) := ggX0_partIn_X6_holds
theorem dX0_partIn_0 : decode cX0_partIn 0 = .ok (.iload_n 0, 1) := by decide +kernel
theorem dX0_partIn_1 : decode cX0_partIn 1 = .ok (.iload_n 2, 1) := by decide +kernel
theorem dX0_partIn_2 : decode cX0_partIn 2 = .ok (.invokestatic 68, 3) := by decide +kernel
theorem dX0_partIn_5 : decode cX0_partIn 5 = .ok (.ifCond .eq 5, 3) := by decide +kernel
theorem dX0_partIn_8 : decode cX0_partIn 8 = .ok (.iconst 0, 1) := by decide +kernel
theorem dX0_partIn_9 : decode cX0_partIn 9 = .ok (.ireturn, 1) := by decide +kernel
theorem dX0_partIn_10 : decode cX0_partIn 10 = .ok (.iload_n 1, 1) := by decide +kernel
theorem dX0_partIn_11 : decode cX0_partIn 11 = .ok (.iload_n 2, 1) := by decide +kernel
theorem dX0_partIn_12 : decode cX0_partIn 12 = .ok (.invokestatic 68, 3) := by decide +kernel
theorem dX0_partIn_15 : decode cX0_partIn 15 = .ok (.ifCond .eq 7, 3) := by decide +kernel
theorem dX0_partIn_18 : decode cX0_partIn 18 = .ok (.iconst 2, 1) := by decide +kernel
theorem dX0_partIn_19 : decode cX0_partIn 19 = .ok (.goto 4, 3) := by decide +kernel
theorem dX0_partIn_22 : decode cX0_partIn 22 = .ok (.iconst 1, 1) := by decide +kernel
theorem dX0_partIn_23 : decode cX0_partIn 23 = .ok (.ireturn, 1) := by decide +kernel
set_option maxRecDepth 20000 in
theorem ggX0_fineSet_X6_holds : GoodIn wsX0_fineSet wsX6_holds := goodIn_r _ [4] (by decide +kernel) (by decide +kernel)
set_option maxRecDepth 20000 in
theorem gX0_fineSet_X6_holds_n68 : GoodIn wsX0_fineSet (wsX6_holds) := ggX0_fineSet_X6_holds
theorem dX0_fineSet_0 : decode cX0_fineSet 0 = .ok (.iconst 0, 1) := by decide +kernel
theorem dX0_fineSet_1 : decode cX0_fineSet 1 = .ok (.istore_n 2, 1) := by decide +kernel
theorem dX0_fineSet_2 : decode cX0_fineSet 2 = .ok (.iconst 0, 1) := by decide +kernel
theorem dX0_fineSet_3 : decode cX0_fineSet 3 = .ok (.istore_n 3, 1) := by decide +kernel
theorem dX0_fineSet_4 : decode cX0_fineSet 4 = .ok (.iload_n 3, 1) := by decide +kernel
theorem dX0_fineSet_5 : decode cX0_fineSet 5 = .ok (.bipush 12, 2) := by decide +kernel
theorem dX0_fineSet_7 : decode cX0_fineSet 7 = .ok (.if_icmp .ge 41, 3) := by decide +kernel
theorem dX0_fineSet_10 : decode cX0_fineSet 10 = .ok (.aload_n 0, 1) := by decide +kernel
theorem dX0_fineSet_11 : decode cX0_fineSet 11 = .ok (.getfield 9, 3) := by decide +kernel
theorem dX0_fineSet_14 : decode cX0_fineSet 14 = .ok (.iload_n 1, 1) := by decide +kernel
theorem dX0_fineSet_15 : decode cX0_fineSet 15 = .ok (.iaload, 1) := by decide +kernel
theorem dX0_fineSet_16 : decode cX0_fineSet 16 = .ok (.iload_n 3, 1) := by decide +kernel
theorem dX0_fineSet_17 : decode cX0_fineSet 17 = .ok (.invokestatic 68, 3) := by decide +kernel
theorem dX0_fineSet_20 : decode cX0_fineSet 20 = .ok (.ifCond .eq 22, 3) := by decide +kernel
theorem dX0_fineSet_23 : decode cX0_fineSet 23 = .ok (.aload_n 0, 1) := by decide +kernel
theorem dX0_fineSet_24 : decode cX0_fineSet 24 = .ok (.getfield 9, 3) := by decide +kernel
theorem dX0_fineSet_27 : decode cX0_fineSet 27 = .ok (.iload_n 3, 1) := by decide +kernel
theorem dX0_fineSet_28 : decode cX0_fineSet 28 = .ok (.iaload, 1) := by decide +kernel
theorem dX0_fineSet_29 : decode cX0_fineSet 29 = .ok (.iload_n 1, 1) := by decide +kernel
theorem dX0_fineSet_30 : decode cX0_fineSet 30 = .ok (.invokestatic 68, 3) := by decide +kernel
theorem dX0_fineSet_33 : decode cX0_fineSet 33 = .ok (.ifCond .eq 9, 3) := by decide +kernel
theorem dX0_fineSet_36 : decode cX0_fineSet 36 = .ok (.iload_n 2, 1) := by decide +kernel
theorem dX0_fineSet_37 : decode cX0_fineSet 37 = .ok (.iconst 1, 1) := by decide +kernel
theorem dX0_fineSet_38 : decode cX0_fineSet 38 = .ok (.iload_n 3, 1) := by decide +kernel
theorem dX0_fineSet_39 : decode cX0_fineSet 39 = .ok (.ishl, 1) := by decide +kernel
theorem dX0_fineSet_40 : decode cX0_fineSet 40 = .ok (.ior, 1) := by decide +kernel
theorem dX0_fineSet_41 : decode cX0_fineSet 41 = .ok (.istore_n 2, 1) := by decide +kernel
theorem dX0_fineSet_42 : decode cX0_fineSet 42 = .ok (.iinc 3 1, 3) := by decide +kernel
theorem dX0_fineSet_45 : decode cX0_fineSet 45 = .ok (.goto (-41), 3) := by decide +kernel
theorem dX0_fineSet_48 : decode cX0_fineSet 48 = .ok (.iload_n 2, 1) := by decide +kernel
theorem dX0_fineSet_49 : decode cX0_fineSet 49 = .ok (.ireturn, 1) := by decide +kernel
set_option maxRecDepth 20000 in
theorem ggX0_isWithinFinePart_X0_fineSet : GoodIn wsX0_isWithinFinePart wsX0_fineSet := goodIn_r _ [5, 6, 7, 8, 9, 10, 11, 12, 13, 14] (by decide +kernel) (by decide +kernel)
set_option maxRecDepth 20000 in
theorem gX0_isWithinFinePart_X0_fineSet : GoodIn wsX0_isWithinFinePart (wsV RX0 76 RX0 yX0_fineSet wsX0_fineSet) := goodIn_app (goodIn_of _ (by decide +kernel)) ggX0_isWithinFinePart_X0_fineSet
set_option maxRecDepth 20000 in
theorem ggX0_isWithinFinePart_X6_holds : GoodIn wsX0_isWithinFinePart wsX6_holds := goodIn_r _ [9] (by decide +kernel) (by decide +kernel)
set_option maxRecDepth 20000 in
theorem gX0_isWithinFinePart_X6_holds_n68 : GoodIn wsX0_isWithinFinePart (wsX6_holds) := ggX0_isWithinFinePart_X6_holds
theorem dX0_isWithinFinePart_0 : decode cX0_isWithinFinePart 0 = .ok (.iload_n 2, 1) := by decide +kernel
theorem dX0_isWithinFinePart_1 : decode cX0_isWithinFinePart 1 = .ok (.iconst (-1), 1) := by decide +kernel
theorem dX0_isWithinFinePart_2 : decode cX0_isWithinFinePart 2 = .ok (.if_icmp .eq 19, 3) := by decide +kernel
theorem dX0_isWithinFinePart_5 : decode cX0_isWithinFinePart 5 = .ok (.aload_n 0, 1) := by decide +kernel
theorem dX0_isWithinFinePart_6 : decode cX0_isWithinFinePart 6 = .ok (.iload_n 1, 1) := by decide +kernel
theorem dX0_isWithinFinePart_7 : decode cX0_isWithinFinePart 7 = .ok (.invokevirtual 76, 3) := by decide +kernel
theorem dX0_isWithinFinePart_10 : decode cX0_isWithinFinePart 10 = .ok (.iload_n 2, 1) := by decide +kernel
theorem dX0_isWithinFinePart_11 : decode cX0_isWithinFinePart 11 = .ok (.invokestatic 68, 3) := by decide +kernel
theorem dX0_isWithinFinePart_14 : decode cX0_isWithinFinePart 14 = .ok (.ifCond .eq 7, 3) := by decide +kernel
theorem dX0_isWithinFinePart_17 : decode cX0_isWithinFinePart 17 = .ok (.iconst 1, 1) := by decide +kernel
theorem dX0_isWithinFinePart_18 : decode cX0_isWithinFinePart 18 = .ok (.goto 4, 3) := by decide +kernel
theorem dX0_isWithinFinePart_21 : decode cX0_isWithinFinePart 21 = .ok (.iconst 0, 1) := by decide +kernel
theorem dX0_isWithinFinePart_22 : decode cX0_isWithinFinePart 22 = .ok (.ireturn, 1) := by decide +kernel
theorem dX1_init_0 : decode cX1_init 0 = .ok (.aload_n 0, 1) := by decide +kernel
theorem dX1_init_1 : decode cX1_init 1 = .ok (.invokespecial 3, 3) := by decide +kernel
theorem dX1_init_4 : decode cX1_init 4 = .ok (.aload_n 0, 1) := by decide +kernel
theorem dX1_init_5 : decode cX1_init 5 = .ok (.bipush 12, 2) := by decide +kernel
theorem dX1_init_7 : decode cX1_init 7 = .ok (.newarray .int, 2) := by decide +kernel
theorem dX1_init_9 : decode cX1_init 9 = .ok (.putfield 9, 3) := by decide +kernel
theorem dX1_init_12 : decode cX1_init 12 = .ok (.aload_n 0, 1) := by decide +kernel
theorem dX1_init_13 : decode cX1_init 13 = .ok (.bipush 12, 2) := by decide +kernel
theorem dX1_init_15 : decode cX1_init 15 = .ok (.newarray .int, 2) := by decide +kernel
theorem dX1_init_17 : decode cX1_init 17 = .ok (.putfield 15, 3) := by decide +kernel
theorem dX1_init_20 : decode cX1_init 20 = .ok (.return_, 1) := by decide +kernel
set_option maxRecDepth 20000 in
theorem ggX1_has_X6_holds : GoodIn wsX1_has wsX6_holds := goodIn_r _ [4] (by decide +kernel) (by decide +kernel)
set_option maxRecDepth 20000 in
theorem gX1_has_X6_holds_n18 : GoodIn wsX1_has (wsX6_holds) := ggX1_has_X6_holds
theorem dX1_has_0 : decode cX1_has 0 = .ok (.aload_n 0, 1) := by decide +kernel
theorem dX1_has_1 : decode cX1_has 1 = .ok (.getfield 9, 3) := by decide +kernel
theorem dX1_has_4 : decode cX1_has 4 = .ok (.iload_n 1, 1) := by decide +kernel
theorem dX1_has_5 : decode cX1_has 5 = .ok (.iaload, 1) := by decide +kernel
theorem dX1_has_6 : decode cX1_has 6 = .ok (.iload_n 2, 1) := by decide +kernel
theorem dX1_has_7 : decode cX1_has 7 = .ok (.invokestatic 18, 3) := by decide +kernel
theorem dX1_has_10 : decode cX1_has 10 = .ok (.ireturn, 1) := by decide +kernel
theorem dX1_add_0 : decode cX1_add 0 = .ok (.aload_n 0, 1) := by decide +kernel
theorem dX1_add_1 : decode cX1_add 1 = .ok (.getfield 9, 3) := by decide +kernel
theorem dX1_add_4 : decode cX1_add 4 = .ok (.iload_n 1, 1) := by decide +kernel
theorem dX1_add_5 : decode cX1_add 5 = .ok (.dup2, 1) := by decide +kernel
theorem dX1_add_6 : decode cX1_add 6 = .ok (.iaload, 1) := by decide +kernel
theorem dX1_add_7 : decode cX1_add 7 = .ok (.iconst 1, 1) := by decide +kernel
theorem dX1_add_8 : decode cX1_add 8 = .ok (.iload_n 2, 1) := by decide +kernel
theorem dX1_add_9 : decode cX1_add 9 = .ok (.ishl, 1) := by decide +kernel
theorem dX1_add_10 : decode cX1_add 10 = .ok (.ior, 1) := by decide +kernel
theorem dX1_add_11 : decode cX1_add 11 = .ok (.iastore, 1) := by decide +kernel
theorem dX1_add_12 : decode cX1_add 12 = .ok (.aload_n 0, 1) := by decide +kernel
theorem dX1_add_13 : decode cX1_add 13 = .ok (.getfield 15, 3) := by decide +kernel
theorem dX1_add_16 : decode cX1_add 16 = .ok (.iload_n 2, 1) := by decide +kernel
theorem dX1_add_17 : decode cX1_add 17 = .ok (.dup2, 1) := by decide +kernel
theorem dX1_add_18 : decode cX1_add 18 = .ok (.iaload, 1) := by decide +kernel
theorem dX1_add_19 : decode cX1_add 19 = .ok (.iconst 1, 1) := by decide +kernel
theorem dX1_add_20 : decode cX1_add 20 = .ok (.iload_n 1, 1) := by decide +kernel
theorem dX1_add_21 : decode cX1_add 21 = .ok (.ishl, 1) := by decide +kernel
theorem dX1_add_22 : decode cX1_add 22 = .ok (.ior, 1) := by decide +kernel
theorem dX1_add_23 : decode cX1_add 23 = .ok (.iastore, 1) := by decide +kernel
theorem dX1_add_24 : decode cX1_add 24 = .ok (.aload_n 0, 1) := by decide +kernel
theorem dX1_add_25 : decode cX1_add 25 = .ok (.dup, 1) := by decide +kernel
theorem dX1_add_26 : decode cX1_add 26 = .ok (.getfield 22, 3) := by decide +kernel
theorem dX1_add_29 : decode cX1_add 29 = .ok (.iconst 1, 1) := by decide +kernel
theorem dX1_add_30 : decode cX1_add 30 = .ok (.iadd, 1) := by decide +kernel
theorem dX1_add_31 : decode cX1_add 31 = .ok (.putfield 22, 3) := by decide +kernel
theorem dX1_add_34 : decode cX1_add 34 = .ok (.return_, 1) := by decide +kernel
theorem dX1_remove_0 : decode cX1_remove 0 = .ok (.aload_n 0, 1) := by decide +kernel
theorem dX1_remove_1 : decode cX1_remove 1 = .ok (.getfield 9, 3) := by decide +kernel
theorem dX1_remove_4 : decode cX1_remove 4 = .ok (.iload_n 1, 1) := by decide +kernel
theorem dX1_remove_5 : decode cX1_remove 5 = .ok (.dup2, 1) := by decide +kernel
theorem dX1_remove_6 : decode cX1_remove 6 = .ok (.iaload, 1) := by decide +kernel
theorem dX1_remove_7 : decode cX1_remove 7 = .ok (.iconst 1, 1) := by decide +kernel
theorem dX1_remove_8 : decode cX1_remove 8 = .ok (.iload_n 2, 1) := by decide +kernel
theorem dX1_remove_9 : decode cX1_remove 9 = .ok (.ishl, 1) := by decide +kernel
theorem dX1_remove_10 : decode cX1_remove 10 = .ok (.iconst (-1), 1) := by decide +kernel
theorem dX1_remove_11 : decode cX1_remove 11 = .ok (.ixor, 1) := by decide +kernel
theorem dX1_remove_12 : decode cX1_remove 12 = .ok (.iand, 1) := by decide +kernel
theorem dX1_remove_13 : decode cX1_remove 13 = .ok (.iastore, 1) := by decide +kernel
theorem dX1_remove_14 : decode cX1_remove 14 = .ok (.aload_n 0, 1) := by decide +kernel
theorem dX1_remove_15 : decode cX1_remove 15 = .ok (.getfield 15, 3) := by decide +kernel
theorem dX1_remove_18 : decode cX1_remove 18 = .ok (.iload_n 2, 1) := by decide +kernel
theorem dX1_remove_19 : decode cX1_remove 19 = .ok (.dup2, 1) := by decide +kernel
theorem dX1_remove_20 : decode cX1_remove 20 = .ok (.iaload, 1) := by decide +kernel
theorem dX1_remove_21 : decode cX1_remove 21 = .ok (.iconst 1, 1) := by decide +kernel
theorem dX1_remove_22 : decode cX1_remove 22 = .ok (.iload_n 1, 1) := by decide +kernel
theorem dX1_remove_23 : decode cX1_remove 23 = .ok (.ishl, 1) := by decide +kernel
theorem dX1_remove_24 : decode cX1_remove 24 = .ok (.iconst (-1), 1) := by decide +kernel
theorem dX1_remove_25 : decode cX1_remove 25 = .ok (.ixor, 1) := by decide +kernel
theorem dX1_remove_26 : decode cX1_remove 26 = .ok (.iand, 1) := by decide +kernel
theorem dX1_remove_27 : decode cX1_remove 27 = .ok (.iastore, 1) := by decide +kernel
theorem dX1_remove_28 : decode cX1_remove 28 = .ok (.aload_n 0, 1) := by decide +kernel
theorem dX1_remove_29 : decode cX1_remove 29 = .ok (.dup, 1) := by decide +kernel
theorem dX1_remove_30 : decode cX1_remove 30 = .ok (.getfield 22, 3) := by decide +kernel
theorem dX1_remove_33 : decode cX1_remove 33 = .ok (.iconst 1, 1) := by decide +kernel
theorem dX1_remove_34 : decode cX1_remove 34 = .ok (.isub, 1) := by decide +kernel
theorem dX1_remove_35 : decode cX1_remove 35 = .ok (.putfield 22, 3) := by decide +kernel
theorem dX1_remove_38 : decode cX1_remove 38 = .ok (.return_, 1) := by decide +kernel
set_option maxRecDepth 20000 in
theorem ggX2_init_J7_fill_53178 : GoodIn wsX2_init wsJ7_fill_53178 := goodIn_r _ [10] (by decide +kernel) (by decide +kernel)
set_option maxRecDepth 20000 in
theorem gX2_init_J7_fill_53178 : GoodIn wsX2_init (va_wsS RX2 18 yJ7_fill_53178 wsJ7_fill_53178) := goodIn_app (goodIn_of _ (by decide +kernel)) ggX2_init_J7_fill_53178
theorem dX2_init_0 : decode cX2_init 0 = .ok (.aload_n 0, 1) := by decide +kernel
theorem dX2_init_1 : decode cX2_init 1 = .ok (.invokespecial 3, 3) := by decide +kernel
theorem dX2_init_4 : decode cX2_init 4 = .ok (.aload_n 0, 1) := by decide +kernel
theorem dX2_init_5 : decode cX2_init 5 = .ok (.bipush 12, 2) := by decide +kernel
theorem dX2_init_7 : decode cX2_init 7 = .ok (.newarray .int, 2) := by decide +kernel
theorem dX2_init_9 : decode cX2_init 9 = .ok (.putfield 9, 3) := by decide +kernel
theorem dX2_init_12 : decode cX2_init 12 = .ok (.aload_n 0, 1) := by decide +kernel
theorem dX2_init_13 : decode cX2_init 13 = .ok (.bipush 12, 2) := by decide +kernel
theorem dX2_init_15 : decode cX2_init 15 = .ok (.newarray .int, 2) := by decide +kernel
theorem dX2_init_17 : decode cX2_init 17 = .ok (.putfield 15, 3) := by decide +kernel
theorem dX2_init_20 : decode cX2_init 20 = .ok (.aload_n 0, 1) := by decide +kernel
theorem dX2_init_21 : decode cX2_init 21 = .ok (.getfield 9, 3) := by decide +kernel
theorem dX2_init_24 : decode cX2_init 24 = .ok (.iconst (-1), 1) := by decide +kernel
theorem dX2_init_25 : decode cX2_init 25 = .ok (.invokestatic 18, 3) := by decide +kernel
theorem dX2_init_28 : decode cX2_init 28 = .ok (.aload_n 0, 1) := by decide +kernel
theorem dX2_init_29 : decode cX2_init 29 = .ok (.getfield 15, 3) := by decide +kernel
theorem dX2_init_32 : decode cX2_init 32 = .ok (.iconst (-1), 1) := by decide +kernel
theorem dX2_init_33 : decode cX2_init 33 = .ok (.invokestatic 18, 3) := by decide +kernel
theorem dX2_init_36 : decode cX2_init 36 = .ok (.return_, 1) := by decide +kernel
set_option maxRecDepth 20000 in
theorem ggX2_clear_J7_fill_53178 : GoodIn wsX2_clear wsJ7_fill_53178 := goodIn_r _ [7] (by decide +kernel) (by decide +kernel)
set_option maxRecDepth 20000 in
theorem gX2_clear_J7_fill_53178 : GoodIn wsX2_clear (va_wsS RX2 18 yJ7_fill_53178 wsJ7_fill_53178) := goodIn_app (goodIn_of _ (by decide +kernel)) ggX2_clear_J7_fill_53178
theorem dX2_clear_0 : decode cX2_clear 0 = .ok (.aload_n 0, 1) := by decide +kernel
theorem dX2_clear_1 : decode cX2_clear 1 = .ok (.getfield 9, 3) := by decide +kernel
theorem dX2_clear_4 : decode cX2_clear 4 = .ok (.iconst (-1), 1) := by decide +kernel
theorem dX2_clear_5 : decode cX2_clear 5 = .ok (.invokestatic 18, 3) := by decide +kernel
theorem dX2_clear_8 : decode cX2_clear 8 = .ok (.aload_n 0, 1) := by decide +kernel
theorem dX2_clear_9 : decode cX2_clear 9 = .ok (.getfield 15, 3) := by decide +kernel
theorem dX2_clear_12 : decode cX2_clear 12 = .ok (.iconst (-1), 1) := by decide +kernel
theorem dX2_clear_13 : decode cX2_clear 13 = .ok (.invokestatic 18, 3) := by decide +kernel
theorem dX2_clear_16 : decode cX2_clear 16 = .ok (.aload_n 0, 1) := by decide +kernel
theorem dX2_clear_17 : decode cX2_clear 17 = .ok (.iconst 0, 1) := by decide +kernel
theorem dX2_clear_18 : decode cX2_clear 18 = .ok (.putfield 24, 3) := by decide +kernel
theorem dX2_clear_21 : decode cX2_clear 21 = .ok (.return_, 1) := by decide +kernel
theorem dX2_become_0 : decode cX2_become 0 = .ok (.aload_n 1, 1) := by decide +kernel
theorem dX2_become_1 : decode cX2_become 1 = .ok (.getfield 9, 3) := by decide +kernel
theorem dX2_become_4 : decode cX2_become 4 = .ok (.iconst 0, 1) := by decide +kernel
theorem dX2_become_5 : decode cX2_become 5 = .ok (.aload_n 0, 1) := by decide +kernel
theorem dX2_become_6 : decode cX2_become 6 = .ok (.getfield 9, 3) := by decide +kernel
theorem dX2_become_9 : decode cX2_become 9 = .ok (.iconst 0, 1) := by decide +kernel
theorem dX2_become_10 : decode cX2_become 10 = .ok (.bipush 12, 2) := by decide +kernel
theorem dX2_become_12 : decode cX2_become 12 = .ok (.invokestatic 28, 3) := by decide +kernel
theorem dX2_become_15 : decode cX2_become 15 = .ok (.aload_n 1, 1) := by decide +kernel
theorem dX2_become_16 : decode cX2_become 16 = .ok (.getfield 15, 3) := by decide +kernel
theorem dX2_become_19 : decode cX2_become 19 = .ok (.iconst 0, 1) := by decide +kernel
theorem dX2_become_20 : decode cX2_become 20 = .ok (.aload_n 0, 1) := by decide +kernel
theorem dX2_become_21 : decode cX2_become 21 = .ok (.getfield 15, 3) := by decide +kernel
theorem dX2_become_24 : decode cX2_become 24 = .ok (.iconst 0, 1) := by decide +kernel
theorem dX2_become_25 : decode cX2_become 25 = .ok (.bipush 12, 2) := by decide +kernel
theorem dX2_become_27 : decode cX2_become 27 = .ok (.invokestatic 28, 3) := by decide +kernel
theorem dX2_become_30 : decode cX2_become 30 = .ok (.aload_n 0, 1) := by decide +kernel
theorem dX2_become_31 : decode cX2_become 31 = .ok (.aload_n 1, 1) := by decide +kernel
theorem dX2_become_32 : decode cX2_become 32 = .ok (.getfield 24, 3) := by decide +kernel
theorem dX2_become_35 : decode cX2_become 35 = .ok (.putfield 24, 3) := by decide +kernel
theorem dX2_become_38 : decode cX2_become 38 = .ok (.return_, 1) := by decide +kernel
theorem dX2_join_0 : decode cX2_join 0 = .ok (.aload_n 0, 1) := by decide +kernel
theorem dX2_join_1 : decode cX2_join 1 = .ok (.getfield 9, 3) := by decide +kernel
theorem dX2_join_4 : decode cX2_join 4 = .ok (.iload_n 1, 1) := by decide +kernel
theorem dX2_join_5 : decode cX2_join 5 = .ok (.iload_n 2, 1) := by decide +kernel
theorem dX2_join_6 : decode cX2_join 6 = .ok (.iastore, 1) := by decide +kernel
theorem dX2_join_7 : decode cX2_join 7 = .ok (.aload_n 0, 1) := by decide +kernel
theorem dX2_join_8 : decode cX2_join 8 = .ok (.getfield 15, 3) := by decide +kernel
theorem dX2_join_11 : decode cX2_join 11 = .ok (.iload_n 2, 1) := by decide +kernel
theorem dX2_join_12 : decode cX2_join 12 = .ok (.iload_n 1, 1) := by decide +kernel
theorem dX2_join_13 : decode cX2_join 13 = .ok (.iastore, 1) := by decide +kernel
theorem dX2_join_14 : decode cX2_join 14 = .ok (.return_, 1) := by decide +kernel
theorem dX2_separate_0 : decode cX2_separate 0 = .ok (.aload_n 0, 1) := by decide +kernel
theorem dX2_separate_1 : decode cX2_separate 1 = .ok (.getfield 9, 3) := by decide +kernel
theorem dX2_separate_4 : decode cX2_separate 4 = .ok (.iload_n 1, 1) := by decide +kernel
theorem dX2_separate_5 : decode cX2_separate 5 = .ok (.iconst (-1), 1) := by decide +kernel
theorem dX2_separate_6 : decode cX2_separate 6 = .ok (.iastore, 1) := by decide +kernel
theorem dX2_separate_7 : decode cX2_separate 7 = .ok (.aload_n 0, 1) := by decide +kernel
theorem dX2_separate_8 : decode cX2_separate 8 = .ok (.getfield 15, 3) := by decide +kernel
theorem dX2_separate_11 : decode cX2_separate 11 = .ok (.iload_n 2, 1) := by decide +kernel
theorem dX2_separate_12 : decode cX2_separate 12 = .ok (.iconst (-1), 1) := by decide +kernel
theorem dX2_separate_13 : decode cX2_separate 13 = .ok (.iastore, 1) := by decide +kernel
theorem dX2_separate_14 : decode cX2_separate 14 = .ok (.aload_n 0, 1) := by decide +kernel
theorem dX2_separate_15 : decode cX2_separate 15 = .ok (.dup, 1) := by decide +kernel
theorem dX2_separate_16 : decode cX2_separate 16 = .ok (.getfield 24, 3) := by decide +kernel
theorem dX2_separate_19 : decode cX2_separate 19 = .ok (.iconst 1, 1) := by decide +kernel
theorem dX2_separate_20 : decode cX2_separate 20 = .ok (.isub, 1) := by decide +kernel
theorem dX2_separate_21 : decode cX2_separate 21 = .ok (.putfield 24, 3) := by decide +kernel
theorem dX2_separate_24 : decode cX2_separate 24 = .ok (.return_, 1) := by decide +kernel
set_option maxRecDepth 20000 in
theorem ggX2_freeLefts_X2_freeOf : GoodIn wsX2_freeLefts wsX2_freeOf := goodIn_r _ [5] (by decide +kernel) (by decide +kernel)
set_option maxRecDepth 20000 in
theorem gX2_freeLefts_X2_freeOf : GoodIn wsX2_freeLefts (va_wsS RX2 34 yX2_freeOf wsX2_freeOf) := goodIn_app (goodIn_of _ (by decide +kernel)) ggX2_freeLefts_X2_freeOf
theorem dX2_freeLefts_0 : decode cX2_freeLefts 0 = .ok (.aload_n 0, 1) := by decide +kernel
theorem dX2_freeLefts_1 : decode cX2_freeLefts 1 = .ok (.getfield 9, 3) := by decide +kernel
theorem dX2_freeLefts_4 : decode cX2_freeLefts 4 = .ok (.iload_n 1, 1) := by decide +kernel
theorem dX2_freeLefts_5 : decode cX2_freeLefts 5 = .ok (.invokestatic 34, 3) := by decide +kernel
theorem dX2_freeLefts_8 : decode cX2_freeLefts 8 = .ok (.ireturn, 1) := by decide +kernel
set_option maxRecDepth 20000 in
theorem ggX2_freeRights_X2_freeOf : GoodIn wsX2_freeRights wsX2_freeOf := goodIn_r _ [5] (by decide +kernel) (by decide +kernel)
set_option maxRecDepth 20000 in
theorem gX2_freeRights_X2_freeOf : GoodIn wsX2_freeRights (va_wsS RX2 34 yX2_freeOf wsX2_freeOf) := goodIn_app (goodIn_of _ (by decide +kernel)) ggX2_freeRights_X2_freeOf
theorem dX2_freeRights_0 : decode cX2_freeRights 0 = .ok (.aload_n 0, 1) := by decide +kernel
theorem dX2_freeRights_1 : decode cX2_freeRights 1 = .ok (.getfield 15, 3) := by decide +kernel
theorem dX2_freeRights_4 : decode cX2_freeRights 4 = .ok (.iload_n 1, 1) := by decide +kernel
theorem dX2_freeRights_5 : decode cX2_freeRights 5 = .ok (.invokestatic 34, 3) := by decide +kernel
theorem dX2_freeRights_8 : decode cX2_freeRights 8 = .ok (.ireturn, 1) := by decide +kernel
theorem dX2_freeOf_0 : decode cX2_freeOf 0 = .ok (.iconst 0, 1) := by decide +kernel
theorem dX2_freeOf_1 : decode cX2_freeOf 1 = .ok (.istore_n 2, 1) := by decide +kernel
theorem dX2_freeOf_2 : decode cX2_freeOf 2 = .ok (.iconst 0, 1) := by decide +kernel
theorem dX2_freeOf_3 : decode cX2_freeOf 3 = .ok (.istore_n 3, 1) := by decide +kernel
theorem dX2_freeOf_4 : decode cX2_freeOf 4 = .ok (.iload_n 3, 1) := by decide +kernel
theorem dX2_freeOf_5 : decode cX2_freeOf 5 = .ok (.iload_n 1, 1) := by decide +kernel
theorem dX2_freeOf_6 : decode cX2_freeOf 6 = .ok (.if_icmp .ge 22, 3) := by decide +kernel
theorem dX2_freeOf_9 : decode cX2_freeOf 9 = .ok (.aload_n 0, 1) := by decide +kernel
theorem dX2_freeOf_10 : decode cX2_freeOf 10 = .ok (.iload_n 3, 1) := by decide +kernel
theorem dX2_freeOf_11 : decode cX2_freeOf 11 = .ok (.iaload, 1) := by decide +kernel
theorem dX2_freeOf_12 : decode cX2_freeOf 12 = .ok (.iconst (-1), 1) := by decide +kernel
theorem dX2_freeOf_13 : decode cX2_freeOf 13 = .ok (.if_icmp .ne 9, 3) := by decide +kernel
theorem dX2_freeOf_16 : decode cX2_freeOf 16 = .ok (.iload_n 2, 1) := by decide +kernel
theorem dX2_freeOf_17 : decode cX2_freeOf 17 = .ok (.iconst 1, 1) := by decide +kernel
theorem dX2_freeOf_18 : decode cX2_freeOf 18 = .ok (.iload_n 3, 1) := by decide +kernel
theorem dX2_freeOf_19 : decode cX2_freeOf 19 = .ok (.ishl, 1) := by decide +kernel
theorem dX2_freeOf_20 : decode cX2_freeOf 20 = .ok (.ior, 1) := by decide +kernel
theorem dX2_freeOf_21 : decode cX2_freeOf 21 = .ok (.istore_n 2, 1) := by decide +kernel
theorem dX2_freeOf_22 : decode cX2_freeOf 22 = .ok (.iinc 3 1, 3) := by decide +kernel
theorem dX2_freeOf_25 : decode cX2_freeOf 25 = .ok (.goto (-21), 3) := by decide +kernel
theorem dX2_freeOf_28 : decode cX2_freeOf 28 = .ok (.iload_n 2, 1) := by decide +kernel
theorem dX2_freeOf_29 : decode cX2_freeOf 29 = .ok (.ireturn, 1) := by decide +kernel
theorem dX3_init_0 : decode cX3_init 0 = .ok (.aload_n 0, 1) := by decide +kernel
theorem dX3_init_1 : decode cX3_init 1 = .ok (.invokespecial 3, 3) := by decide +kernel
theorem dX3_init_4 : decode cX3_init 4 = .ok (.aload_n 0, 1) := by decide +kernel
theorem dX3_init_5 : decode cX3_init 5 = .ok (.sipush 4096, 3) := by decide +kernel
theorem dX3_init_8 : decode cX3_init 8 = .ok (.newarray .long, 2) := by decide +kernel
theorem dX3_init_10 : decode cX3_init 10 = .ok (.putfield 9, 3) := by decide +kernel
theorem dX3_init_13 : decode cX3_init 13 = .ok (.return_, 1) := by decide +kernel
set_option maxRecDepth 20000 in
theorem ggX3_count_J7_fill_d0a16 : GoodIn wsX3_count wsJ7_fill_d0a16 := goodIn_r _ [8] (by decide +kernel) (by decide +kernel)
set_option maxRecDepth 20000 in
theorem gX3_count_J7_fill_d0a16 : GoodIn wsX3_count (va_wsS RX3 15 yJ7_fill_d0a16 wsJ7_fill_d0a16) := goodIn_app (goodIn_of _ (by decide +kernel)) ggX3_count_J7_fill_d0a16
set_option maxRecDepth 20000 in
theorem ggX3_count_X3_addWays : GoodIn wsX3_count wsX3_addWays := goodIn_r _ [13, 1, 14, 15, 16, 12, 17, 18, 19, 20, 28] (by decide +kernel) (by decide +kernel)
set_option maxRecDepth 20000 in
theorem gX3_count_X3_addWays : GoodIn wsX3_count (wsV RX3 34 RX3 yX3_addWays wsX3_addWays) := goodIn_app (goodIn_of _ (by decide +kernel)) ggX3_count_X3_addWays
set_option maxRecDepth 20000 in
theorem ggX3_count_J6_bitCount_0f7a4 : GoodIn wsX3_count wsJ6_bitCount_0f7a4 := goodIn_r _ [24, 25, 26, 27] (by decide +kernel) (by decide +kernel)
set_option maxRecDepth 20000 in
theorem gX3_count_J6_bitCount_0f7a4 : GoodIn wsX3_count (va_wsS RX3 38 yJ6_bitCount_0f7a4 wsJ6_bitCount_0f7a4) := goodIn_app (goodIn_of _ (by decide +kernel)) ggX3_count_J6_bitCount_0f7a4
theorem dX3_count_0 : decode cX3_count 0 = .ok (.aload_n 0, 1) := by decide +kernel
theorem dX3_count_1 : decode cX3_count 1 = .ok (.getfield 9, 3) := by decide +kernel
theorem dX3_count_4 : decode cX3_count 4 = .ok (.lconst 0, 1) := by decide +kernel
theorem dX3_count_5 : decode cX3_count 5 = .ok (.invokestatic 15, 3) := by decide +kernel
theorem dX3_count_8 : decode cX3_count 8 = .ok (.aload_n 0, 1) := by decide +kernel
theorem dX3_count_9 : decode cX3_count 9 = .ok (.getfield 9, 3) := by decide +kernel
theorem dX3_count_12 : decode cX3_count 12 = .ok (.iconst 0, 1) := by decide +kernel
theorem dX3_count_13 : decode cX3_count 13 = .ok (.lconst 1, 1) := by decide +kernel
theorem dX3_count_14 : decode cX3_count 14 = .ok (.lastore, 1) := by decide +kernel
theorem dX3_count_15 : decode cX3_count 15 = .ok (.iconst 0, 1) := by decide +kernel
theorem dX3_count_16 : decode cX3_count 16 = .ok (.istore_n 3, 1) := by decide +kernel
theorem dX3_count_17 : decode cX3_count 17 = .ok (.iload_n 3, 1) := by decide +kernel
theorem dX3_count_18 : decode cX3_count 18 = .ok (.aload_n 1, 1) := by decide +kernel
theorem dX3_count_19 : decode cX3_count 19 = .ok (.getfield 21, 3) := by decide +kernel
theorem dX3_count_22 : decode cX3_count 22 = .ok (.if_icmp .ge 32, 3) := by decide +kernel
theorem dX3_count_25 : decode cX3_count 25 = .ok (.aload_n 1, 1) := by decide +kernel
theorem dX3_count_26 : decode cX3_count 26 = .ok (.getfield 27, 3) := by decide +kernel
theorem dX3_count_29 : decode cX3_count 29 = .ok (.iload_n 3, 1) := by decide +kernel
theorem dX3_count_30 : decode cX3_count 30 = .ok (.iaload, 1) := by decide +kernel
theorem dX3_count_31 : decode cX3_count 31 = .ok (.ifCond .eq 17, 3) := by decide +kernel
theorem dX3_count_34 : decode cX3_count 34 = .ok (.aload_n 0, 1) := by decide +kernel
theorem dX3_count_35 : decode cX3_count 35 = .ok (.aload_n 1, 1) := by decide +kernel
theorem dX3_count_36 : decode cX3_count 36 = .ok (.getfield 27, 3) := by decide +kernel
theorem dX3_count_39 : decode cX3_count 39 = .ok (.iload_n 3, 1) := by decide +kernel
theorem dX3_count_40 : decode cX3_count 40 = .ok (.iaload, 1) := by decide +kernel
theorem dX3_count_41 : decode cX3_count 41 = .ok (.aload_n 1, 1) := by decide +kernel
theorem dX3_count_42 : decode cX3_count 42 = .ok (.getfield 31, 3) := by decide +kernel
theorem dX3_count_45 : decode cX3_count 45 = .ok (.invokevirtual 34, 3) := by decide +kernel
theorem dX3_count_48 : decode cX3_count 48 = .ok (.iinc 3 1, 3) := by decide +kernel
theorem dX3_count_51 : decode cX3_count 51 = .ok (.goto (-34), 3) := by decide +kernel
theorem dX3_count_54 : decode cX3_count 54 = .ok (.lconst 0, 1) := by decide +kernel
theorem dX3_count_55 : decode cX3_count 55 = .ok (.lstore_n 3, 1) := by decide +kernel
theorem dX3_count_56 : decode cX3_count 56 = .ok (.iconst 0, 1) := by decide +kernel
theorem dX3_count_57 : decode cX3_count 57 = .ok (.istore 5, 2) := by decide +kernel
theorem dX3_count_59 : decode cX3_count 59 = .ok (.iload 5, 2) := by decide +kernel
theorem dX3_count_61 : decode cX3_count 61 = .ok (.iconst 1, 1) := by decide +kernel
theorem dX3_count_62 : decode cX3_count 62 = .ok (.aload_n 1, 1) := by decide +kernel
theorem dX3_count_63 : decode cX3_count 63 = .ok (.getfield 31, 3) := by decide +kernel
theorem dX3_count_66 : decode cX3_count 66 = .ok (.ishl, 1) := by decide +kernel
theorem dX3_count_67 : decode cX3_count 67 = .ok (.if_icmp .ge 28, 3) := by decide +kernel
theorem dX3_count_70 : decode cX3_count 70 = .ok (.iload 5, 2) := by decide +kernel
theorem dX3_count_72 : decode cX3_count 72 = .ok (.invokestatic 38, 3) := by decide +kernel
theorem dX3_count_75 : decode cX3_count 75 = .ok (.iload_n 2, 1) := by decide +kernel
theorem dX3_count_76 : decode cX3_count 76 = .ok (.if_icmp .ne 13, 3) := by decide +kernel
theorem dX3_count_79 : decode cX3_count 79 = .ok (.lload_n 3, 1) := by decide +kernel
theorem dX3_count_80 : decode cX3_count 80 = .ok (.aload_n 0, 1) := by decide +kernel
theorem dX3_count_81 : decode cX3_count 81 = .ok (.getfield 9, 3) := by decide +kernel
theorem dX3_count_84 : decode cX3_count 84 = .ok (.iload 5, 2) := by decide +kernel
theorem dX3_count_86 : decode cX3_count 86 = .ok (.laload, 1) := by decide +kernel
theorem dX3_count_87 : decode cX3_count 87 = .ok (.ladd, 1) := by decide +kernel
theorem dX3_count_88 : decode cX3_count 88 = .ok (.lstore_n 3, 1) := by decide +kernel
theorem dX3_count_89 : decode cX3_count 89 = .ok (.iinc 5 1, 3) := by decide +kernel
theorem dX3_count_92 : decode cX3_count 92 = .ok (.goto (-33), 3) := by decide +kernel
theorem dX3_count_95 : decode cX3_count 95 = .ok (.lload_n 3, 1) := by decide +kernel
theorem dX3_count_96 : decode cX3_count 96 = .ok (.lreturn, 1) := by decide +kernel
set_option maxRecDepth 20000 in
theorem ggX3_addWays_X3_spreadWays : GoodIn wsX3_addWays wsX3_spreadWays := goodIn_r _ [6, 1, 7, 8, 9, 10] (by decide +kernel) (by decide +kernel)
set_option maxRecDepth 20000 in
theorem gX3_addWays_X3_spreadWays : GoodIn wsX3_addWays (wsV RX3 44 RX3 yX3_spreadWays wsX3_spreadWays) := goodIn_app (goodIn_of _ (by decide +kernel)) ggX3_addWays_X3_spreadWays
theorem dX3_addWays_0 : decode cX3_addWays 0 = .ok (.iconst 1, 1) := by decide +kernel
theorem dX3_addWays_1 : decode cX3_addWays 1 = .ok (.iload_n 2, 1) := by decide +kernel
theorem dX3_addWays_2 : decode cX3_addWays 2 = .ok (.ishl, 1) := by decide +kernel
theorem dX3_addWays_3 : decode cX3_addWays 3 = .ok (.iconst 1, 1) := by decide +kernel
theorem dX3_addWays_4 : decode cX3_addWays 4 = .ok (.isub, 1) := by decide +kernel
theorem dX3_addWays_5 : decode cX3_addWays 5 = .ok (.istore_n 3, 1) := by decide +kernel
theorem dX3_addWays_6 : decode cX3_addWays 6 = .ok (.iload_n 3, 1) := by decide +kernel
theorem dX3_addWays_7 : decode cX3_addWays 7 = .ok (.ifCond .lt 31, 3) := by decide +kernel
theorem dX3_addWays_10 : decode cX3_addWays 10 = .ok (.aload_n 0, 1) := by decide +kernel
theorem dX3_addWays_11 : decode cX3_addWays 11 = .ok (.getfield 9, 3) := by decide +kernel
theorem dX3_addWays_14 : decode cX3_addWays 14 = .ok (.iload_n 3, 1) := by decide +kernel
theorem dX3_addWays_15 : decode cX3_addWays 15 = .ok (.laload, 1) := by decide +kernel
theorem dX3_addWays_16 : decode cX3_addWays 16 = .ok (.lconst 0, 1) := by decide +kernel
theorem dX3_addWays_17 : decode cX3_addWays 17 = .ok (.lcmp, 1) := by decide +kernel
theorem dX3_addWays_18 : decode cX3_addWays 18 = .ok (.ifCond .eq 14, 3) := by decide +kernel
theorem dX3_addWays_21 : decode cX3_addWays 21 = .ok (.aload_n 0, 1) := by decide +kernel
theorem dX3_addWays_22 : decode cX3_addWays 22 = .ok (.iload_n 3, 1) := by decide +kernel
theorem dX3_addWays_23 : decode cX3_addWays 23 = .ok (.iload_n 1, 1) := by decide +kernel
theorem dX3_addWays_24 : decode cX3_addWays 24 = .ok (.iload_n 3, 1) := by decide +kernel
theorem dX3_addWays_25 : decode cX3_addWays 25 = .ok (.iconst (-1), 1) := by decide +kernel
theorem dX3_addWays_26 : decode cX3_addWays 26 = .ok (.ixor, 1) := by decide +kernel
theorem dX3_addWays_27 : decode cX3_addWays 27 = .ok (.iand, 1) := by decide +kernel
theorem dX3_addWays_28 : decode cX3_addWays 28 = .ok (.iload_n 2, 1) := by decide +kernel
theorem dX3_addWays_29 : decode cX3_addWays 29 = .ok (.invokevirtual 44, 3) := by decide +kernel
theorem dX3_addWays_32 : decode cX3_addWays 32 = .ok (.iinc 3 (-1), 3) := by decide +kernel
theorem dX3_addWays_35 : decode cX3_addWays 35 = .ok (.goto (-29), 3) := by decide +kernel
theorem dX3_addWays_38 : decode cX3_addWays 38 = .ok (.return_, 1) := by decide +kernel
set_option maxRecDepth 20000 in
theorem ggX3_spreadWays_X6_holds : GoodIn wsX3_spreadWays wsX6_holds := goodIn_r _ [4] (by decide +kernel) (by decide +kernel)
set_option maxRecDepth 20000 in
theorem gX3_spreadWays_X6_holds_n48 : GoodIn wsX3_spreadWays (wsX6_holds) := ggX3_spreadWays_X6_holds
theorem dX3_spreadWays_0 : decode cX3_spreadWays 0 = .ok (.iconst 0, 1) := by decide +kernel
theorem dX3_spreadWays_1 : decode cX3_spreadWays 1 = .ok (.istore 4, 2) := by decide +kernel
theorem dX3_spreadWays_3 : decode cX3_spreadWays 3 = .ok (.iload 4, 2) := by decide +kernel
theorem dX3_spreadWays_5 : decode cX3_spreadWays 5 = .ok (.iload_n 3, 1) := by decide +kernel
theorem dX3_spreadWays_6 : decode cX3_spreadWays 6 = .ok (.if_icmp .ge 38, 3) := by decide +kernel
theorem dX3_spreadWays_9 : decode cX3_spreadWays 9 = .ok (.iload_n 2, 1) := by decide +kernel
theorem dX3_spreadWays_10 : decode cX3_spreadWays 10 = .ok (.iload 4, 2) := by decide +kernel
theorem dX3_spreadWays_12 : decode cX3_spreadWays 12 = .ok (.invokestatic 48, 3) := by decide +kernel
theorem dX3_spreadWays_15 : decode cX3_spreadWays 15 = .ok (.ifCond .eq 23, 3) := by decide +kernel
theorem dX3_spreadWays_18 : decode cX3_spreadWays 18 = .ok (.aload_n 0, 1) := by decide +kernel
theorem dX3_spreadWays_19 : decode cX3_spreadWays 19 = .ok (.getfield 9, 3) := by decide +kernel
theorem dX3_spreadWays_22 : decode cX3_spreadWays 22 = .ok (.iload_n 1, 1) := by decide +kernel
theorem dX3_spreadWays_23 : decode cX3_spreadWays 23 = .ok (.iconst 1, 1) := by decide +kernel
theorem dX3_spreadWays_24 : decode cX3_spreadWays 24 = .ok (.iload 4, 2) := by decide +kernel
theorem dX3_spreadWays_26 : decode cX3_spreadWays 26 = .ok (.ishl, 1) := by decide +kernel
theorem dX3_spreadWays_27 : decode cX3_spreadWays 27 = .ok (.ior, 1) := by decide +kernel
theorem dX3_spreadWays_28 : decode cX3_spreadWays 28 = .ok (.dup2, 1) := by decide +kernel
theorem dX3_spreadWays_29 : decode cX3_spreadWays 29 = .ok (.laload, 1) := by decide +kernel
theorem dX3_spreadWays_30 : decode cX3_spreadWays 30 = .ok (.aload_n 0, 1) := by decide +kernel
theorem dX3_spreadWays_31 : decode cX3_spreadWays 31 = .ok (.getfield 9, 3) := by decide +kernel
theorem dX3_spreadWays_34 : decode cX3_spreadWays 34 = .ok (.iload_n 1, 1) := by decide +kernel
theorem dX3_spreadWays_35 : decode cX3_spreadWays 35 = .ok (.laload, 1) := by decide +kernel
theorem dX3_spreadWays_36 : decode cX3_spreadWays 36 = .ok (.ladd, 1) := by decide +kernel
theorem dX3_spreadWays_37 : decode cX3_spreadWays 37 = .ok (.lastore, 1) := by decide +kernel
theorem dX3_spreadWays_38 : decode cX3_spreadWays 38 = .ok (.iinc 4 1, 3) := by decide +kernel
theorem dX3_spreadWays_41 : decode cX3_spreadWays 41 = .ok (.goto (-38), 3) := by decide +kernel
theorem dX3_spreadWays_44 : decode cX3_spreadWays 44 = .ok (.return_, 1) := by decide +kernel
set_option maxRecDepth 20000 in
theorem ggX4_init_X2_init : GoodIn wsX4_init wsX2_init := goodIn_r _ [14, 15, 2, 3, 8, 16, 17, 18, 19, 20, 21, 22, 23, 24] (by decide +kernel) (by decide +kernel)
set_option maxRecDepth 20000 in
theorem gX4_init_X2_init : GoodIn wsX4_init (wsX2_init) := ggX4_init_X2_init
theorem dX4_init_0 : decode cX4_init 0 = .ok (.aload_n 0, 1) := by decide +kernel
theorem dX4_init_1 : decode cX4_init 1 = .ok (.invokespecial 3, 3) := by decide +kernel
theorem dX4_init_4 : decode cX4_init 4 = .ok (.aload_n 0, 1) := by decide +kernel
theorem dX4_init_5 : decode cX4_init 5 = .ok (.new 9, 3) := by decide +kernel
theorem dX4_init_8 : decode cX4_init 8 = .ok (.dup, 1) := by decide +kernel
theorem dX4_init_9 : decode cX4_init 9 = .ok (.invokespecial 11, 3) := by decide +kernel
theorem dX4_init_12 : decode cX4_init 12 = .ok (.putfield 12, 3) := by decide +kernel
theorem dX4_init_15 : decode cX4_init 15 = .ok (.aload_n 0, 1) := by decide +kernel
theorem dX4_init_16 : decode cX4_init 16 = .ok (.bipush 12, 2) := by decide +kernel
theorem dX4_init_18 : decode cX4_init 18 = .ok (.newarray .int, 2) := by decide +kernel
theorem dX4_init_20 : decode cX4_init 20 = .ok (.putfield 18, 3) := by decide +kernel
theorem dX4_init_23 : decode cX4_init 23 = .ok (.aload_n 0, 1) := by decide +kernel
theorem dX4_init_24 : decode cX4_init 24 = .ok (.bipush 12, 2) := by decide +kernel
theorem dX4_init_26 : decode cX4_init 26 = .ok (.newarray .int, 2) := by decide +kernel
theorem dX4_init_28 : decode cX4_init 28 = .ok (.putfield 22, 3) := by decide +kernel
theorem dX4_init_31 : decode cX4_init 31 = .ok (.aload_n 0, 1) := by decide +kernel
theorem dX4_init_32 : decode cX4_init 32 = .ok (.bipush 12, 2) := by decide +kernel
theorem dX4_init_34 : decode cX4_init 34 = .ok (.newarray .int, 2) := by decide +kernel
theorem dX4_init_36 : decode cX4_init 36 = .ok (.putfield 25, 3) := by decide +kernel
theorem dX4_init_39 : decode cX4_init 39 = .ok (.return_, 1) := by decide +kernel
set_option maxRecDepth 20000 in
theorem ggX4_build_X2_clear : GoodIn wsX4_build wsX2_clear := goodIn_r _ [10, 11, 12, 13, 14, 15, 16, 17, 80, 81, 82] (by decide +kernel) (by decide +kernel)
set_option maxRecDepth 20000 in
theorem gX4_build_X2_clear : GoodIn wsX4_build (wsV RX4 28 RX2 yX2_clear wsX2_clear) := goodIn_app (goodIn_of _ (by decide +kernel)) ggX4_build_X2_clear
set_option maxRecDepth 20000 in
theorem ggX4_build_X4_giveLevels : GoodIn wsX4_build wsX4_giveLevels := goodIn_r _ [22, 1, 23, 24, 25, 26, 27, 9, 28, 11, 29, 30, 31, 32, 33, 34, 35, 36, 37, 21, 38, 39, 40, 41, 42, 43, 44, 45, 46, 73, 74, 75, 76, 77, 78, 79, 83, 84, 85, 86, 87, 80, 81, 82] (by decide +kernel) (by decide +kernel)
set_option maxRecDepth 20000 in
theorem gX4_build_X4_giveLevels : GoodIn wsX4_build (wsV RX4 35 RX4 yX4_giveLevels wsX4_giveLevels) := goodIn_app (goodIn_of _ (by decide +kernel)) ggX4_build_X4_giveLevels
set_option maxRecDepth 20000 in
theorem ggX4_build_X4_leastDepth : GoodIn wsX4_build wsX4_leastDepth := goodIn_r _ [50, 1, 39, 23, 24, 51, 52, 53, 54, 9, 55, 12, 29, 30, 31, 73, 74, 75, 76, 77, 78, 79, 83, 84, 85, 86, 87, 80, 81, 82] (by decide +kernel) (by decide +kernel)
set_option maxRecDepth 20000 in
theorem gX4_build_X4_leastDepth : GoodIn wsX4_build (wsV RX4 39 RX4 yX4_leastDepth wsX4_leastDepth) := goodIn_app (goodIn_of _ (by decide +kernel)) ggX4_build_X4_leastDepth
set_option maxRecDepth 20000 in
theorem ggX4_build_X4_findPaths : GoodIn wsX4_build wsX4_findPaths := goodIn_r _ [59, 60, 23, 24, 1, 61, 62, 63, 21, 64, 3, 39, 40, 41, 42, 43, 44, 45, 46, 32, 33, 34, 65, 66, 67, 68, 69, 70, 71, 9, 72, 11, 12, 73, 74, 75, 76, 77, 78, 79, 83, 84, 85, 86, 87, 80, 81, 82] (by decide +kernel) (by decide +kernel)
set_option maxRecDepth 20000 in
theorem gX4_build_X4_findPaths : GoodIn wsX4_build (wsV RX4 46 RX4 yX4_findPaths wsX4_findPaths) := goodIn_app (goodIn_of _ (by decide +kernel)) ggX4_build_X4_findPaths
theorem dX4_build_0 : decode cX4_build 0 = .ok (.aload_n 0, 1) := by decide +kernel
theorem dX4_build_1 : decode cX4_build 1 = .ok (.getfield 12, 3) := by decide +kernel
theorem dX4_build_4 : decode cX4_build 4 = .ok (.invokevirtual 28, 3) := by decide +kernel
theorem dX4_build_7 : decode cX4_build 7 = .ok (.aload_n 0, 1) := by decide +kernel
theorem dX4_build_8 : decode cX4_build 8 = .ok (.iconst 0, 1) := by decide +kernel
theorem dX4_build_9 : decode cX4_build 9 = .ok (.putfield 31, 3) := by decide +kernel
theorem dX4_build_12 : decode cX4_build 12 = .ok (.iconst 0, 1) := by decide +kernel
theorem dX4_build_13 : decode cX4_build 13 = .ok (.istore_n 2, 1) := by decide +kernel
theorem dX4_build_14 : decode cX4_build 14 = .ok (.iload_n 2, 1) := by decide +kernel
theorem dX4_build_15 : decode cX4_build 15 = .ok (.bipush 12, 2) := by decide +kernel
theorem dX4_build_17 : decode cX4_build 17 = .ok (.if_icmp .ge 62, 3) := by decide +kernel
theorem dX4_build_20 : decode cX4_build 20 = .ok (.aload_n 0, 1) := by decide +kernel
theorem dX4_build_21 : decode cX4_build 21 = .ok (.aload_n 1, 1) := by decide +kernel
theorem dX4_build_22 : decode cX4_build 22 = .ok (.invokevirtual 35, 3) := by decide +kernel
theorem dX4_build_25 : decode cX4_build 25 = .ok (.aload_n 0, 1) := by decide +kernel
theorem dX4_build_26 : decode cX4_build 26 = .ok (.aload_n 0, 1) := by decide +kernel
theorem dX4_build_27 : decode cX4_build 27 = .ok (.aload_n 1, 1) := by decide +kernel
theorem dX4_build_28 : decode cX4_build 28 = .ok (.invokevirtual 39, 3) := by decide +kernel
theorem dX4_build_31 : decode cX4_build 31 = .ok (.putfield 43, 3) := by decide +kernel
theorem dX4_build_34 : decode cX4_build 34 = .ok (.aload_n 0, 1) := by decide +kernel
theorem dX4_build_35 : decode cX4_build 35 = .ok (.getfield 43, 3) := by decide +kernel
theorem dX4_build_38 : decode cX4_build 38 = .ok (.iconst (-1), 1) := by decide +kernel
theorem dX4_build_39 : decode cX4_build 39 = .ok (.if_icmp .ne 6, 3) := by decide +kernel
theorem dX4_build_42 : decode cX4_build 42 = .ok (.goto 37, 3) := by decide +kernel
theorem dX4_build_45 : decode cX4_build 45 = .ok (.aload_n 0, 1) := by decide +kernel
theorem dX4_build_46 : decode cX4_build 46 = .ok (.getfield 18, 3) := by decide +kernel
theorem dX4_build_49 : decode cX4_build 49 = .ok (.iload_n 2, 1) := by decide +kernel
theorem dX4_build_50 : decode cX4_build 50 = .ok (.aload_n 0, 1) := by decide +kernel
theorem dX4_build_51 : decode cX4_build 51 = .ok (.getfield 43, 3) := by decide +kernel
theorem dX4_build_54 : decode cX4_build 54 = .ok (.iastore, 1) := by decide +kernel
theorem dX4_build_55 : decode cX4_build 55 = .ok (.aload_n 0, 1) := by decide +kernel
theorem dX4_build_56 : decode cX4_build 56 = .ok (.getfield 22, 3) := by decide +kernel
theorem dX4_build_59 : decode cX4_build 59 = .ok (.iload_n 2, 1) := by decide +kernel
theorem dX4_build_60 : decode cX4_build 60 = .ok (.aload_n 0, 1) := by decide +kernel
theorem dX4_build_61 : decode cX4_build 61 = .ok (.aload_n 1, 1) := by decide +kernel
theorem dX4_build_62 : decode cX4_build 62 = .ok (.invokevirtual 46, 3) := by decide +kernel
theorem dX4_build_65 : decode cX4_build 65 = .ok (.iastore, 1) := by decide +kernel
theorem dX4_build_66 : decode cX4_build 66 = .ok (.aload_n 0, 1) := by decide +kernel
theorem dX4_build_67 : decode cX4_build 67 = .ok (.iload_n 2, 1) := by decide +kernel
theorem dX4_build_68 : decode cX4_build 68 = .ok (.iconst 1, 1) := by decide +kernel
theorem dX4_build_69 : decode cX4_build 69 = .ok (.iadd, 1) := by decide +kernel
theorem dX4_build_70 : decode cX4_build 70 = .ok (.putfield 31, 3) := by decide +kernel
theorem dX4_build_73 : decode cX4_build 73 = .ok (.iinc 2 1, 3) := by decide +kernel
theorem dX4_build_76 : decode cX4_build 76 = .ok (.goto (-62), 3) := by decide +kernel
theorem dX4_build_79 : decode cX4_build 79 = .ok (.return_, 1) := by decide +kernel
set_option maxRecDepth 20000 in
theorem ggX4_giveLevels_X2_freeLefts : GoodIn wsX4_giveLevels wsX2_freeLefts := goodIn_r _ [8, 9, 10, 11, 7, 12, 41, 42, 43] (by decide +kernel) (by decide +kernel)
set_option maxRecDepth 20000 in
theorem gX4_giveLevels_X2_freeLefts : GoodIn wsX4_giveLevels (wsV RX4 54 RX2 yX2_freeLefts wsX2_freeLefts) := goodIn_app (goodIn_of _ (by decide +kernel)) ggX4_giveLevels_X2_freeLefts
set_option maxRecDepth 20000 in
theorem ggX4_giveLevels_X6_holds : GoodIn wsX4_giveLevels wsX6_holds := goodIn_r _ [15] (by decide +kernel) (by decide +kernel)
set_option maxRecDepth 20000 in
theorem gX4_giveLevels_X6_holds_n58 : GoodIn wsX4_giveLevels (wsX6_holds) := ggX4_giveLevels_X6_holds
set_option maxRecDepth 20000 in
theorem ggX4_giveLevels_X4_levelPartners : GoodIn wsX4_giveLevels wsX4_levelPartners := goodIn_r _ [20, 21, 1, 22, 3, 23, 24, 25, 26, 27, 28, 13, 14, 15, 36, 37, 38, 39, 40, 29, 30, 31, 32, 33, 34, 35, 41, 42, 43] (by decide +kernel) (by decide +kernel)
set_option maxRecDepth 20000 in
theorem gX4_giveLevels_X4_levelPartners : GoodIn wsX4_giveLevels (wsV RX4 62 RX4 yX4_levelPartners wsX4_levelPartners) := goodIn_app (goodIn_of _ (by decide +kernel)) ggX4_giveLevels_X4_levelPartners
theorem dX4_giveLevels_0 : decode cX4_giveLevels 0 = .ok (.aload_n 0, 1) := by decide +kernel
theorem dX4_giveLevels_1 : decode cX4_giveLevels 1 = .ok (.getfield 12, 3) := by decide +kernel
theorem dX4_giveLevels_4 : decode cX4_giveLevels 4 = .ok (.aload_n 1, 1) := by decide +kernel
theorem dX4_giveLevels_5 : decode cX4_giveLevels 5 = .ok (.getfield 49, 3) := by decide +kernel
theorem dX4_giveLevels_8 : decode cX4_giveLevels 8 = .ok (.invokevirtual 54, 3) := by decide +kernel
theorem dX4_giveLevels_11 : decode cX4_giveLevels 11 = .ok (.istore_n 2, 1) := by decide +kernel
theorem dX4_giveLevels_12 : decode cX4_giveLevels 12 = .ok (.iconst 0, 1) := by decide +kernel
theorem dX4_giveLevels_13 : decode cX4_giveLevels 13 = .ok (.istore_n 3, 1) := by decide +kernel
theorem dX4_giveLevels_14 : decode cX4_giveLevels 14 = .ok (.iload_n 3, 1) := by decide +kernel
theorem dX4_giveLevels_15 : decode cX4_giveLevels 15 = .ok (.aload_n 1, 1) := by decide +kernel
theorem dX4_giveLevels_16 : decode cX4_giveLevels 16 = .ok (.getfield 49, 3) := by decide +kernel
theorem dX4_giveLevels_19 : decode cX4_giveLevels 19 = .ok (.if_icmp .ge 28, 3) := by decide +kernel
theorem dX4_giveLevels_22 : decode cX4_giveLevels 22 = .ok (.aload_n 0, 1) := by decide +kernel
theorem dX4_giveLevels_23 : decode cX4_giveLevels 23 = .ok (.getfield 25, 3) := by decide +kernel
theorem dX4_giveLevels_26 : decode cX4_giveLevels 26 = .ok (.iload_n 3, 1) := by decide +kernel
theorem dX4_giveLevels_27 : decode cX4_giveLevels 27 = .ok (.iload_n 2, 1) := by decide +kernel
theorem dX4_giveLevels_28 : decode cX4_giveLevels 28 = .ok (.iload_n 3, 1) := by decide +kernel
theorem dX4_giveLevels_29 : decode cX4_giveLevels 29 = .ok (.invokestatic 58, 3) := by decide +kernel
theorem dX4_giveLevels_32 : decode cX4_giveLevels 32 = .ok (.ifCond .eq 7, 3) := by decide +kernel
theorem dX4_giveLevels_35 : decode cX4_giveLevels 35 = .ok (.iconst 0, 1) := by decide +kernel
theorem dX4_giveLevels_36 : decode cX4_giveLevels 36 = .ok (.goto 4, 3) := by decide +kernel
theorem dX4_giveLevels_39 : decode cX4_giveLevels 39 = .ok (.iconst (-1), 1) := by decide +kernel
theorem dX4_giveLevels_40 : decode cX4_giveLevels 40 = .ok (.iastore, 1) := by decide +kernel
theorem dX4_giveLevels_41 : decode cX4_giveLevels 41 = .ok (.iinc 3 1, 3) := by decide +kernel
theorem dX4_giveLevels_44 : decode cX4_giveLevels 44 = .ok (.goto (-30), 3) := by decide +kernel
theorem dX4_giveLevels_47 : decode cX4_giveLevels 47 = .ok (.iconst 0, 1) := by decide +kernel
theorem dX4_giveLevels_48 : decode cX4_giveLevels 48 = .ok (.istore_n 3, 1) := by decide +kernel
theorem dX4_giveLevels_49 : decode cX4_giveLevels 49 = .ok (.iload_n 3, 1) := by decide +kernel
theorem dX4_giveLevels_50 : decode cX4_giveLevels 50 = .ok (.aload_n 1, 1) := by decide +kernel
theorem dX4_giveLevels_51 : decode cX4_giveLevels 51 = .ok (.getfield 49, 3) := by decide +kernel
theorem dX4_giveLevels_54 : decode cX4_giveLevels 54 = .ok (.if_icmp .ge 48, 3) := by decide +kernel
theorem dX4_giveLevels_57 : decode cX4_giveLevels 57 = .ok (.iconst 0, 1) := by decide +kernel
theorem dX4_giveLevels_58 : decode cX4_giveLevels 58 = .ok (.istore 4, 2) := by decide +kernel
theorem dX4_giveLevels_60 : decode cX4_giveLevels 60 = .ok (.iload 4, 2) := by decide +kernel
theorem dX4_giveLevels_62 : decode cX4_giveLevels 62 = .ok (.aload_n 1, 1) := by decide +kernel
theorem dX4_giveLevels_63 : decode cX4_giveLevels 63 = .ok (.getfield 49, 3) := by decide +kernel
theorem dX4_giveLevels_66 : decode cX4_giveLevels 66 = .ok (.if_icmp .ge 30, 3) := by decide +kernel
theorem dX4_giveLevels_69 : decode cX4_giveLevels 69 = .ok (.aload_n 0, 1) := by decide +kernel
theorem dX4_giveLevels_70 : decode cX4_giveLevels 70 = .ok (.getfield 25, 3) := by decide +kernel
theorem dX4_giveLevels_73 : decode cX4_giveLevels 73 = .ok (.iload 4, 2) := by decide +kernel
theorem dX4_giveLevels_75 : decode cX4_giveLevels 75 = .ok (.iaload, 1) := by decide +kernel
theorem dX4_giveLevels_76 : decode cX4_giveLevels 76 = .ok (.iload_n 3, 1) := by decide +kernel
theorem dX4_giveLevels_77 : decode cX4_giveLevels 77 = .ok (.if_icmp .ne 13, 3) := by decide +kernel
theorem dX4_giveLevels_80 : decode cX4_giveLevels 80 = .ok (.aload_n 0, 1) := by decide +kernel
theorem dX4_giveLevels_81 : decode cX4_giveLevels 81 = .ok (.aload_n 1, 1) := by decide +kernel
theorem dX4_giveLevels_82 : decode cX4_giveLevels 82 = .ok (.iload 4, 2) := by decide +kernel
theorem dX4_giveLevels_84 : decode cX4_giveLevels 84 = .ok (.iload_n 3, 1) := by decide +kernel
theorem dX4_giveLevels_85 : decode cX4_giveLevels 85 = .ok (.iconst 1, 1) := by decide +kernel
theorem dX4_giveLevels_86 : decode cX4_giveLevels 86 = .ok (.iadd, 1) := by decide +kernel
theorem dX4_giveLevels_87 : decode cX4_giveLevels 87 = .ok (.invokevirtual 62, 3) := by decide +kernel
theorem dX4_giveLevels_90 : decode cX4_giveLevels 90 = .ok (.iinc 4 1, 3) := by decide +kernel
theorem dX4_giveLevels_93 : decode cX4_giveLevels 93 = .ok (.goto (-33), 3) := by decide +kernel
theorem dX4_giveLevels_96 : decode cX4_giveLevels 96 = .ok (.iinc 3 1, 3) := by decide +kernel
theorem dX4_giveLevels_99 : decode cX4_giveLevels 99 = .ok (.goto (-50), 3) := by decide +kernel
theorem dX4_giveLevels_102 : decode cX4_giveLevels 102 = .ok (.return_, 1) := by decide +kernel
set_option maxRecDepth 20000 in
theorem ggX4_levelPartners_X1_has : GoodIn wsX4_levelPartners wsX1_has := goodIn_r _ [9, 10, 11, 12, 13, 14, 15, 16, 17, 18] (by decide +kernel) (by decide +kernel)
set_option maxRecDepth 20000 in
theorem gX4_levelPartners_X1_has : GoodIn wsX4_levelPartners (wsV RX4 72 RX1 yX1_has wsX1_has) := goodIn_app (goodIn_of _ (by decide +kernel)) ggX4_levelPartners_X1_has
theorem dX4_levelPartners_0 : decode cX4_levelPartners 0 = .ok (.iconst 0, 1) := by decide +kernel
theorem dX4_levelPartners_1 : decode cX4_levelPartners 1 = .ok (.istore 4, 2) := by decide +kernel
theorem dX4_levelPartners_3 : decode cX4_levelPartners 3 = .ok (.iload 4, 2) := by decide +kernel
theorem dX4_levelPartners_5 : decode cX4_levelPartners 5 = .ok (.aload_n 1, 1) := by decide +kernel
theorem dX4_levelPartners_6 : decode cX4_levelPartners 6 = .ok (.getfield 66, 3) := by decide +kernel
theorem dX4_levelPartners_9 : decode cX4_levelPartners 9 = .ok (.if_icmp .ge 56, 3) := by decide +kernel
theorem dX4_levelPartners_12 : decode cX4_levelPartners 12 = .ok (.aload_n 0, 1) := by decide +kernel
theorem dX4_levelPartners_13 : decode cX4_levelPartners 13 = .ok (.getfield 12, 3) := by decide +kernel
theorem dX4_levelPartners_16 : decode cX4_levelPartners 16 = .ok (.getfield 69, 3) := by decide +kernel
theorem dX4_levelPartners_19 : decode cX4_levelPartners 19 = .ok (.iload 4, 2) := by decide +kernel
theorem dX4_levelPartners_21 : decode cX4_levelPartners 21 = .ok (.iaload, 1) := by decide +kernel
theorem dX4_levelPartners_22 : decode cX4_levelPartners 22 = .ok (.istore 5, 2) := by decide +kernel
theorem dX4_levelPartners_24 : decode cX4_levelPartners 24 = .ok (.aload_n 1, 1) := by decide +kernel
theorem dX4_levelPartners_25 : decode cX4_levelPartners 25 = .ok (.iload_n 2, 1) := by decide +kernel
theorem dX4_levelPartners_26 : decode cX4_levelPartners 26 = .ok (.iload 4, 2) := by decide +kernel
theorem dX4_levelPartners_28 : decode cX4_levelPartners 28 = .ok (.invokevirtual 72, 3) := by decide +kernel
theorem dX4_levelPartners_31 : decode cX4_levelPartners 31 = .ok (.ifCond .eq 28, 3) := by decide +kernel
theorem dX4_levelPartners_34 : decode cX4_levelPartners 34 = .ok (.iload 5, 2) := by decide +kernel
theorem dX4_levelPartners_36 : decode cX4_levelPartners 36 = .ok (.iconst (-1), 1) := by decide +kernel
theorem dX4_levelPartners_37 : decode cX4_levelPartners 37 = .ok (.if_icmp .eq 22, 3) := by decide +kernel
theorem dX4_levelPartners_40 : decode cX4_levelPartners 40 = .ok (.aload_n 0, 1) := by decide +kernel
theorem dX4_levelPartners_41 : decode cX4_levelPartners 41 = .ok (.getfield 25, 3) := by decide +kernel
theorem dX4_levelPartners_44 : decode cX4_levelPartners 44 = .ok (.iload 5, 2) := by decide +kernel
theorem dX4_levelPartners_46 : decode cX4_levelPartners 46 = .ok (.iaload, 1) := by decide +kernel
theorem dX4_levelPartners_47 : decode cX4_levelPartners 47 = .ok (.iconst (-1), 1) := by decide +kernel
theorem dX4_levelPartners_48 : decode cX4_levelPartners 48 = .ok (.if_icmp .ne 11, 3) := by decide +kernel
theorem dX4_levelPartners_51 : decode cX4_levelPartners 51 = .ok (.aload_n 0, 1) := by decide +kernel
theorem dX4_levelPartners_52 : decode cX4_levelPartners 52 = .ok (.getfield 25, 3) := by decide +kernel
theorem dX4_levelPartners_55 : decode cX4_levelPartners 55 = .ok (.iload 5, 2) := by decide +kernel
theorem dX4_levelPartners_57 : decode cX4_levelPartners 57 = .ok (.iload_n 3, 1) := by decide +kernel
theorem dX4_levelPartners_58 : decode cX4_levelPartners 58 = .ok (.iastore, 1) := by decide +kernel
theorem dX4_levelPartners_59 : decode cX4_levelPartners 59 = .ok (.iinc 4 1, 3) := by decide +kernel
theorem dX4_levelPartners_62 : decode cX4_levelPartners 62 = .ok (.goto (-59), 3) := by decide +kernel
theorem dX4_levelPartners_65 : decode cX4_levelPartners 65 = .ok (.return_, 1) := by decide +kernel
set_option maxRecDepth 20000 in
theorem ggX4_leastDepth_X2_freeRights : GoodIn wsX4_leastDepth wsX2_freeRights := goodIn_r _ [10, 11, 12, 13, 9, 14, 27, 28, 29] (by decide +kernel) (by decide +kernel)
set_option maxRecDepth 20000 in
theorem gX4_leastDepth_X2_freeRights : GoodIn wsX4_leastDepth (wsV RX4 75 RX2 yX2_freeRights wsX2_freeRights) := goodIn_app (goodIn_of _ (by decide +kernel)) ggX4_leastDepth_X2_freeRights
theorem dX4_leastDepth_0 : decode cX4_leastDepth 0 = .ok (.aload_n 0, 1) := by decide +kernel
theorem dX4_leastDepth_1 : decode cX4_leastDepth 1 = .ok (.getfield 12, 3) := by decide +kernel
theorem dX4_leastDepth_4 : decode cX4_leastDepth 4 = .ok (.aload_n 1, 1) := by decide +kernel
theorem dX4_leastDepth_5 : decode cX4_leastDepth 5 = .ok (.getfield 66, 3) := by decide +kernel
theorem dX4_leastDepth_8 : decode cX4_leastDepth 8 = .ok (.invokevirtual 75, 3) := by decide +kernel
theorem dX4_leastDepth_11 : decode cX4_leastDepth 11 = .ok (.istore_n 2, 1) := by decide +kernel
theorem dX4_leastDepth_12 : decode cX4_leastDepth 12 = .ok (.iconst (-1), 1) := by decide +kernel
theorem dX4_leastDepth_13 : decode cX4_leastDepth 13 = .ok (.istore_n 3, 1) := by decide +kernel
theorem dX4_leastDepth_14 : decode cX4_leastDepth 14 = .ok (.iconst 0, 1) := by decide +kernel
theorem dX4_leastDepth_15 : decode cX4_leastDepth 15 = .ok (.istore 4, 2) := by decide +kernel
theorem dX4_leastDepth_17 : decode cX4_leastDepth 17 = .ok (.iload 4, 2) := by decide +kernel
theorem dX4_leastDepth_19 : decode cX4_leastDepth 19 = .ok (.aload_n 1, 1) := by decide +kernel
theorem dX4_leastDepth_20 : decode cX4_leastDepth 20 = .ok (.getfield 49, 3) := by decide +kernel
theorem dX4_leastDepth_23 : decode cX4_leastDepth 23 = .ok (.if_icmp .ge 68, 3) := by decide +kernel
theorem dX4_leastDepth_26 : decode cX4_leastDepth 26 = .ok (.aload_n 0, 1) := by decide +kernel
theorem dX4_leastDepth_27 : decode cX4_leastDepth 27 = .ok (.getfield 25, 3) := by decide +kernel
theorem dX4_leastDepth_30 : decode cX4_leastDepth 30 = .ok (.iload 4, 2) := by decide +kernel
theorem dX4_leastDepth_32 : decode cX4_leastDepth 32 = .ok (.iaload, 1) := by decide +kernel
theorem dX4_leastDepth_33 : decode cX4_leastDepth 33 = .ok (.iconst (-1), 1) := by decide +kernel
theorem dX4_leastDepth_34 : decode cX4_leastDepth 34 = .ok (.if_icmp .eq 19, 3) := by decide +kernel
theorem dX4_leastDepth_37 : decode cX4_leastDepth 37 = .ok (.aload_n 1, 1) := by decide +kernel
theorem dX4_leastDepth_38 : decode cX4_leastDepth 38 = .ok (.getfield 78, 3) := by decide +kernel
theorem dX4_leastDepth_41 : decode cX4_leastDepth 41 = .ok (.iload 4, 2) := by decide +kernel
theorem dX4_leastDepth_43 : decode cX4_leastDepth 43 = .ok (.iaload, 1) := by decide +kernel
theorem dX4_leastDepth_44 : decode cX4_leastDepth 44 = .ok (.iload_n 2, 1) := by decide +kernel
theorem dX4_leastDepth_45 : decode cX4_leastDepth 45 = .ok (.iand, 1) := by decide +kernel
theorem dX4_leastDepth_46 : decode cX4_leastDepth 46 = .ok (.ifCond .eq 7, 3) := by decide +kernel
theorem dX4_leastDepth_49 : decode cX4_leastDepth 49 = .ok (.iconst 1, 1) := by decide +kernel
theorem dX4_leastDepth_50 : decode cX4_leastDepth 50 = .ok (.goto 4, 3) := by decide +kernel
theorem dX4_leastDepth_53 : decode cX4_leastDepth 53 = .ok (.iconst 0, 1) := by decide +kernel
theorem dX4_leastDepth_54 : decode cX4_leastDepth 54 = .ok (.istore 5, 2) := by decide +kernel
theorem dX4_leastDepth_56 : decode cX4_leastDepth 56 = .ok (.iload 5, 2) := by decide +kernel
theorem dX4_leastDepth_58 : decode cX4_leastDepth 58 = .ok (.ifCond .eq 27, 3) := by decide +kernel
theorem dX4_leastDepth_61 : decode cX4_leastDepth 61 = .ok (.iload_n 3, 1) := by decide +kernel
theorem dX4_leastDepth_62 : decode cX4_leastDepth 62 = .ok (.iconst (-1), 1) := by decide +kernel
theorem dX4_leastDepth_63 : decode cX4_leastDepth 63 = .ok (.if_icmp .eq 14, 3) := by decide +kernel
theorem dX4_leastDepth_66 : decode cX4_leastDepth 66 = .ok (.aload_n 0, 1) := by decide +kernel
theorem dX4_leastDepth_67 : decode cX4_leastDepth 67 = .ok (.getfield 25, 3) := by decide +kernel
theorem dX4_leastDepth_70 : decode cX4_leastDepth 70 = .ok (.iload 4, 2) := by decide +kernel
theorem dX4_leastDepth_72 : decode cX4_leastDepth 72 = .ok (.iaload, 1) := by decide +kernel
theorem dX4_leastDepth_73 : decode cX4_leastDepth 73 = .ok (.iload_n 3, 1) := by decide +kernel
theorem dX4_leastDepth_74 : decode cX4_leastDepth 74 = .ok (.if_icmp .ge 11, 3) := by decide +kernel
theorem dX4_leastDepth_77 : decode cX4_leastDepth 77 = .ok (.aload_n 0, 1) := by decide +kernel
theorem dX4_leastDepth_78 : decode cX4_leastDepth 78 = .ok (.getfield 25, 3) := by decide +kernel
theorem dX4_leastDepth_81 : decode cX4_leastDepth 81 = .ok (.iload 4, 2) := by decide +kernel
theorem dX4_leastDepth_83 : decode cX4_leastDepth 83 = .ok (.iaload, 1) := by decide +kernel
theorem dX4_leastDepth_84 : decode cX4_leastDepth 84 = .ok (.istore_n 3, 1) := by decide +kernel
theorem dX4_leastDepth_85 : decode cX4_leastDepth 85 = .ok (.iinc 4 1, 3) := by decide +kernel
theorem dX4_leastDepth_88 : decode cX4_leastDepth 88 = .ok (.goto (-71), 3) := by decide +kernel
theorem dX4_leastDepth_91 : decode cX4_leastDepth 91 = .ok (.iload_n 3, 1) := by decide +kernel
theorem dX4_leastDepth_92 : decode cX4_leastDepth 92 = .ok (.ireturn, 1) := by decide +kernel
set_option maxRecDepth 20000 in
theorem ggX4_findPaths_X4_findPartner : GoodIn wsX4_findPaths wsX4_findPartner := goodIn_r _ [9, 10, 11, 1, 4, 12, 13, 14, 15, 16, 17, 18, 19, 20, 21, 22, 23, 24, 8, 25, 3, 6, 7, 26, 27, 28, 29, 30, 31, 32, 33, 34, 35, 36, 37, 38, 39, 40, 41, 42, 43, 44, 45, 46, 47] (by decide +kernel) (by decide +kernel)
set_option maxRecDepth 20000 in
theorem gX4_findPaths_X4_findPartner : GoodIn wsX4_findPaths (va_wsS RX4 84 yX4_findPartner wsX4_findPartner) := goodIn_app (goodIn_of _ (by decide +kernel)) ggX4_findPaths_X4_findPartner
theorem dX4_findPaths_0 : decode cX4_findPaths 0 = .ok (.aload_n 0, 1) := by decide +kernel
theorem dX4_findPaths_1 : decode cX4_findPaths 1 = .ok (.iconst 0, 1) := by decide +kernel
theorem dX4_findPaths_2 : decode cX4_findPaths 2 = .ok (.putfield 81, 3) := by decide +kernel
theorem dX4_findPaths_5 : decode cX4_findPaths 5 = .ok (.iconst 0, 1) := by decide +kernel
theorem dX4_findPaths_6 : decode cX4_findPaths 6 = .ok (.istore_n 2, 1) := by decide +kernel
theorem dX4_findPaths_7 : decode cX4_findPaths 7 = .ok (.iconst 0, 1) := by decide +kernel
theorem dX4_findPaths_8 : decode cX4_findPaths 8 = .ok (.istore_n 3, 1) := by decide +kernel
theorem dX4_findPaths_9 : decode cX4_findPaths 9 = .ok (.iload_n 3, 1) := by decide +kernel
theorem dX4_findPaths_10 : decode cX4_findPaths 10 = .ok (.aload_n 1, 1) := by decide +kernel
theorem dX4_findPaths_11 : decode cX4_findPaths 11 = .ok (.getfield 49, 3) := by decide +kernel
theorem dX4_findPaths_14 : decode cX4_findPaths 14 = .ok (.if_icmp .ge 31, 3) := by decide +kernel
theorem dX4_findPaths_17 : decode cX4_findPaths 17 = .ok (.aload_n 0, 1) := by decide +kernel
theorem dX4_findPaths_18 : decode cX4_findPaths 18 = .ok (.getfield 25, 3) := by decide +kernel
theorem dX4_findPaths_21 : decode cX4_findPaths 21 = .ok (.iload_n 3, 1) := by decide +kernel
theorem dX4_findPaths_22 : decode cX4_findPaths 22 = .ok (.iaload, 1) := by decide +kernel
theorem dX4_findPaths_23 : decode cX4_findPaths 23 = .ok (.ifCond .ne 16, 3) := by decide +kernel
theorem dX4_findPaths_26 : decode cX4_findPaths 26 = .ok (.aload_n 0, 1) := by decide +kernel
theorem dX4_findPaths_27 : decode cX4_findPaths 27 = .ok (.aload_n 1, 1) := by decide +kernel
theorem dX4_findPaths_28 : decode cX4_findPaths 28 = .ok (.iload_n 3, 1) := by decide +kernel
theorem dX4_findPaths_29 : decode cX4_findPaths 29 = .ok (.iconst 0, 1) := by decide +kernel
theorem dX4_findPaths_30 : decode cX4_findPaths 30 = .ok (.invokestatic 84, 3) := by decide +kernel
theorem dX4_findPaths_33 : decode cX4_findPaths 33 = .ok (.ifCond .eq 6, 3) := by decide +kernel
theorem dX4_findPaths_36 : decode cX4_findPaths 36 = .ok (.iinc 2 1, 3) := by decide +kernel
theorem dX4_findPaths_39 : decode cX4_findPaths 39 = .ok (.iinc 3 1, 3) := by decide +kernel
theorem dX4_findPaths_42 : decode cX4_findPaths 42 = .ok (.goto (-33), 3) := by decide +kernel
theorem dX4_findPaths_45 : decode cX4_findPaths 45 = .ok (.aload_n 0, 1) := by decide +kernel
theorem dX4_findPaths_46 : decode cX4_findPaths 46 = .ok (.getfield 12, 3) := by decide +kernel
theorem dX4_findPaths_49 : decode cX4_findPaths 49 = .ok (.dup, 1) := by decide +kernel
theorem dX4_findPaths_50 : decode cX4_findPaths 50 = .ok (.getfield 88, 3) := by decide +kernel
theorem dX4_findPaths_53 : decode cX4_findPaths 53 = .ok (.iload_n 2, 1) := by decide +kernel
theorem dX4_findPaths_54 : decode cX4_findPaths 54 = .ok (.iadd, 1) := by decide +kernel
theorem dX4_findPaths_55 : decode cX4_findPaths 55 = .ok (.putfield 88, 3) := by decide +kernel
theorem dX4_findPaths_58 : decode cX4_findPaths 58 = .ok (.iload_n 2, 1) := by decide +kernel
theorem dX4_findPaths_59 : decode cX4_findPaths 59 = .ok (.ireturn, 1) := by decide +kernel
set_option maxRecDepth 20000 in
theorem ggX4_findPartner_X1_has : GoodIn wsX4_findPartner wsX1_has := goodIn_r _ [10, 11, 12, 13, 14, 37, 38, 39, 40, 41] (by decide +kernel) (by decide +kernel)
set_option maxRecDepth 20000 in
theorem gX4_findPartner_X1_has : GoodIn wsX4_findPartner (wsV RX4 72 RX1 yX1_has wsX1_has) := goodIn_app (goodIn_of _ (by decide +kernel)) ggX4_findPartner_X1_has
set_option maxRecDepth 20000 in
theorem ggX4_findPartner_X4_isToTake : GoodIn wsX4_findPartner wsX4_isToTake := goodIn_r _ [19, 3, 4, 5, 1, 20, 12, 13, 14, 30, 31, 32, 33, 34, 35, 36, 42, 43, 44] (by decide +kernel) (by decide +kernel)
set_option maxRecDepth 20000 in
theorem gX4_findPartner_X4_isToTake : GoodIn wsX4_findPartner (wsV RX4 91 RX4 yX4_isToTake wsX4_isToTake) := goodIn_app (goodIn_of _ (by decide +kernel)) ggX4_findPartner_X4_isToTake
set_option maxRecDepth 20000 in
theorem ggX4_findPartner_X4_findPartner : GoodIn wsX4_findPartner wsX4_findPartner := goodIn_r _ [0, 1, 2, 3, 4, 5, 6, 7, 8, 9, 10, 11, 12, 13, 14, 15, 16, 17, 18, 19, 20, 21, 22, 23, 24, 25, 26, 27, 28, 29, 30, 31, 32, 33, 34, 35, 36, 37, 38, 39, 40, 41, 42, 43, 44] (by decide +kernel) (by decide +kernel)
set_option maxRecDepth 20000 in
theorem gX4_findPartner_X4_findPartner : GoodIn wsX4_findPartner (va_wsS RX4 84 yX4_findPartner wsX4_findPartner) := goodIn_app (goodIn_of _ (by decide +kernel)) ggX4_findPartner_X4_findPartner
set_option maxRecDepth 20000 in
theorem ggX4_findPartner_X2_join : GoodIn wsX4_findPartner wsX2_join := goodIn_r _ [27, 28, 29, 42, 43, 44] (by decide +kernel) (by decide +kernel)
set_option maxRecDepth 20000 in
theorem gX4_findPartner_X2_join : GoodIn wsX4_findPartner (wsV RX4 94 RX2 yX2_join wsX2_join) := goodIn_app (goodIn_of _ (by decide +kernel)) ggX4_findPartner_X2_join
theorem dX4_findPartner_0 : decode cX4_findPartner 0 = .ok (.iload_n 3, 1) := by decide +kernel
theorem dX4_findPartner_1 : decode cX4_findPartner 1 = .ok (.aload_n 0, 1) := by decide +kernel
theorem dX4_findPartner_2 : decode cX4_findPartner 2 = .ok (.getfield 43, 3) := by decide +kernel
theorem dX4_findPartner_5 : decode cX4_findPartner 5 = .ok (.if_icmp .gt 9, 3) := by decide +kernel
theorem dX4_findPartner_8 : decode cX4_findPartner 8 = .ok (.iload_n 3, 1) := by decide +kernel
theorem dX4_findPartner_9 : decode cX4_findPartner 9 = .ok (.bipush 12, 2) := by decide +kernel
theorem dX4_findPartner_11 : decode cX4_findPartner 11 = .ok (.if_icmp .lt 5, 3) := by decide +kernel
theorem dX4_findPartner_14 : decode cX4_findPartner 14 = .ok (.iconst 0, 1) := by decide +kernel
theorem dX4_findPartner_15 : decode cX4_findPartner 15 = .ok (.ireturn, 1) := by decide +kernel
theorem dX4_findPartner_16 : decode cX4_findPartner 16 = .ok (.iconst 0, 1) := by decide +kernel
theorem dX4_findPartner_17 : decode cX4_findPartner 17 = .ok (.istore 4, 2) := by decide +kernel
theorem dX4_findPartner_19 : decode cX4_findPartner 19 = .ok (.iload 4, 2) := by decide +kernel
theorem dX4_findPartner_21 : decode cX4_findPartner 21 = .ok (.aload_n 1, 1) := by decide +kernel
theorem dX4_findPartner_22 : decode cX4_findPartner 22 = .ok (.getfield 66, 3) := by decide +kernel
theorem dX4_findPartner_25 : decode cX4_findPartner 25 = .ok (.if_icmp .ge 85, 3) := by decide +kernel
theorem dX4_findPartner_28 : decode cX4_findPartner 28 = .ok (.aload_n 1, 1) := by decide +kernel
theorem dX4_findPartner_29 : decode cX4_findPartner 29 = .ok (.iload_n 2, 1) := by decide +kernel
theorem dX4_findPartner_30 : decode cX4_findPartner 30 = .ok (.iload 4, 2) := by decide +kernel
theorem dX4_findPartner_32 : decode cX4_findPartner 32 = .ok (.invokevirtual 72, 3) := by decide +kernel
theorem dX4_findPartner_35 : decode cX4_findPartner 35 = .ok (.ifCond .eq 69, 3) := by decide +kernel
theorem dX4_findPartner_38 : decode cX4_findPartner 38 = .ok (.aload_n 0, 1) := by decide +kernel
theorem dX4_findPartner_39 : decode cX4_findPartner 39 = .ok (.iload 4, 2) := by decide +kernel
theorem dX4_findPartner_41 : decode cX4_findPartner 41 = .ok (.iload_n 3, 1) := by decide +kernel
theorem dX4_findPartner_42 : decode cX4_findPartner 42 = .ok (.invokevirtual 91, 3) := by decide +kernel
theorem dX4_findPartner_45 : decode cX4_findPartner 45 = .ok (.ifCond .eq 59, 3) := by decide +kernel
theorem dX4_findPartner_48 : decode cX4_findPartner 48 = .ok (.aload_n 0, 1) := by decide +kernel
theorem dX4_findPartner_49 : decode cX4_findPartner 49 = .ok (.dup, 1) := by decide +kernel
theorem dX4_findPartner_50 : decode cX4_findPartner 50 = .ok (.getfield 81, 3) := by decide +kernel
theorem dX4_findPartner_53 : decode cX4_findPartner 53 = .ok (.iconst 1, 1) := by decide +kernel
theorem dX4_findPartner_54 : decode cX4_findPartner 54 = .ok (.iload 4, 2) := by decide +kernel
theorem dX4_findPartner_56 : decode cX4_findPartner 56 = .ok (.ishl, 1) := by decide +kernel
theorem dX4_findPartner_57 : decode cX4_findPartner 57 = .ok (.ior, 1) := by decide +kernel
theorem dX4_findPartner_58 : decode cX4_findPartner 58 = .ok (.putfield 81, 3) := by decide +kernel
theorem dX4_findPartner_61 : decode cX4_findPartner 61 = .ok (.aload_n 0, 1) := by decide +kernel
theorem dX4_findPartner_62 : decode cX4_findPartner 62 = .ok (.getfield 12, 3) := by decide +kernel
theorem dX4_findPartner_65 : decode cX4_findPartner 65 = .ok (.getfield 69, 3) := by decide +kernel
theorem dX4_findPartner_68 : decode cX4_findPartner 68 = .ok (.iload 4, 2) := by decide +kernel
theorem dX4_findPartner_70 : decode cX4_findPartner 70 = .ok (.iaload, 1) := by decide +kernel
theorem dX4_findPartner_71 : decode cX4_findPartner 71 = .ok (.istore 5, 2) := by decide +kernel
theorem dX4_findPartner_73 : decode cX4_findPartner 73 = .ok (.iload 5, 2) := by decide +kernel
theorem dX4_findPartner_75 : decode cX4_findPartner 75 = .ok (.iconst (-1), 1) := by decide +kernel
theorem dX4_findPartner_76 : decode cX4_findPartner 76 = .ok (.if_icmp .eq 16, 3) := by decide +kernel
theorem dX4_findPartner_79 : decode cX4_findPartner 79 = .ok (.aload_n 0, 1) := by decide +kernel
theorem dX4_findPartner_80 : decode cX4_findPartner 80 = .ok (.aload_n 1, 1) := by decide +kernel
theorem dX4_findPartner_81 : decode cX4_findPartner 81 = .ok (.iload 5, 2) := by decide +kernel
theorem dX4_findPartner_83 : decode cX4_findPartner 83 = .ok (.iload_n 3, 1) := by decide +kernel
theorem dX4_findPartner_84 : decode cX4_findPartner 84 = .ok (.iconst 1, 1) := by decide +kernel
theorem dX4_findPartner_85 : decode cX4_findPartner 85 = .ok (.iadd, 1) := by decide +kernel
theorem dX4_findPartner_86 : decode cX4_findPartner 86 = .ok (.invokestatic 84, 3) := by decide +kernel
theorem dX4_findPartner_89 : decode cX4_findPartner 89 = .ok (.ifCond .eq 15, 3) := by decide +kernel
theorem dX4_findPartner_92 : decode cX4_findPartner 92 = .ok (.aload_n 0, 1) := by decide +kernel
theorem dX4_findPartner_93 : decode cX4_findPartner 93 = .ok (.getfield 12, 3) := by decide +kernel
theorem dX4_findPartner_96 : decode cX4_findPartner 96 = .ok (.iload_n 2, 1) := by decide +kernel
theorem dX4_findPartner_97 : decode cX4_findPartner 97 = .ok (.iload 4, 2) := by decide +kernel
theorem dX4_findPartner_99 : decode cX4_findPartner 99 = .ok (.invokevirtual 94, 3) := by decide +kernel
theorem dX4_findPartner_102 : decode cX4_findPartner 102 = .ok (.iconst 1, 1) := by decide +kernel
theorem dX4_findPartner_103 : decode cX4_findPartner 103 = .ok (.ireturn, 1) := by decide +kernel
theorem dX4_findPartner_104 : decode cX4_findPartner 104 = .ok (.iinc 4 1, 3) := by decide +kernel
theorem dX4_findPartner_107 : decode cX4_findPartner 107 = .ok (.goto (-88), 3) := by decide +kernel
theorem dX4_findPartner_110 : decode cX4_findPartner 110 = .ok (.iconst 0, 1) := by decide +kernel
theorem dX4_findPartner_111 : decode cX4_findPartner 111 = .ok (.ireturn, 1) := by decide +kernel
set_option maxRecDepth 20000 in
theorem ggX4_isToTake_X6_holds : GoodIn wsX4_isToTake wsX6_holds := goodIn_r _ [8] (by decide +kernel) (by decide +kernel)
set_option maxRecDepth 20000 in
theorem gX4_isToTake_X6_holds_n58 : GoodIn wsX4_isToTake (wsX6_holds) := ggX4_isToTake_X6_holds
theorem dX4_isToTake_0 : decode cX4_isToTake 0 = .ok (.aload_n 0, 1) := by decide +kernel
theorem dX4_isToTake_1 : decode cX4_isToTake 1 = .ok (.getfield 81, 3) := by decide +kernel
theorem dX4_isToTake_4 : decode cX4_isToTake 4 = .ok (.iload_n 1, 1) := by decide +kernel
theorem dX4_isToTake_5 : decode cX4_isToTake 5 = .ok (.invokestatic 58, 3) := by decide +kernel
theorem dX4_isToTake_8 : decode cX4_isToTake 8 = .ok (.ifCond .eq 5, 3) := by decide +kernel
theorem dX4_isToTake_11 : decode cX4_isToTake 11 = .ok (.iconst 0, 1) := by decide +kernel
theorem dX4_isToTake_12 : decode cX4_isToTake 12 = .ok (.ireturn, 1) := by decide +kernel
theorem dX4_isToTake_13 : decode cX4_isToTake 13 = .ok (.aload_n 0, 1) := by decide +kernel
theorem dX4_isToTake_14 : decode cX4_isToTake 14 = .ok (.getfield 12, 3) := by decide +kernel
theorem dX4_isToTake_17 : decode cX4_isToTake 17 = .ok (.getfield 69, 3) := by decide +kernel
theorem dX4_isToTake_20 : decode cX4_isToTake 20 = .ok (.iload_n 1, 1) := by decide +kernel
theorem dX4_isToTake_21 : decode cX4_isToTake 21 = .ok (.iaload, 1) := by decide +kernel
theorem dX4_isToTake_22 : decode cX4_isToTake 22 = .ok (.istore_n 3, 1) := by decide +kernel
theorem dX4_isToTake_23 : decode cX4_isToTake 23 = .ok (.iload_n 3, 1) := by decide +kernel
theorem dX4_isToTake_24 : decode cX4_isToTake 24 = .ok (.iconst (-1), 1) := by decide +kernel
theorem dX4_isToTake_25 : decode cX4_isToTake 25 = .ok (.if_icmp .ne 17, 3) := by decide +kernel
theorem dX4_isToTake_28 : decode cX4_isToTake 28 = .ok (.iload_n 2, 1) := by decide +kernel
theorem dX4_isToTake_29 : decode cX4_isToTake 29 = .ok (.aload_n 0, 1) := by decide +kernel
theorem dX4_isToTake_30 : decode cX4_isToTake 30 = .ok (.getfield 43, 3) := by decide +kernel
theorem dX4_isToTake_33 : decode cX4_isToTake 33 = .ok (.if_icmp .ne 7, 3) := by decide +kernel
theorem dX4_isToTake_36 : decode cX4_isToTake 36 = .ok (.iconst 1, 1) := by decide +kernel
theorem dX4_isToTake_37 : decode cX4_isToTake 37 = .ok (.goto 4, 3) := by decide +kernel
theorem dX4_isToTake_40 : decode cX4_isToTake 40 = .ok (.iconst 0, 1) := by decide +kernel
theorem dX4_isToTake_41 : decode cX4_isToTake 41 = .ok (.ireturn, 1) := by decide +kernel
theorem dX4_isToTake_42 : decode cX4_isToTake 42 = .ok (.iload_n 2, 1) := by decide +kernel
theorem dX4_isToTake_43 : decode cX4_isToTake 43 = .ok (.aload_n 0, 1) := by decide +kernel
theorem dX4_isToTake_44 : decode cX4_isToTake 44 = .ok (.getfield 43, 3) := by decide +kernel
theorem dX4_isToTake_47 : decode cX4_isToTake 47 = .ok (.if_icmp .ge 19, 3) := by decide +kernel
theorem dX4_isToTake_50 : decode cX4_isToTake 50 = .ok (.aload_n 0, 1) := by decide +kernel
theorem dX4_isToTake_51 : decode cX4_isToTake 51 = .ok (.getfield 25, 3) := by decide +kernel
theorem dX4_isToTake_54 : decode cX4_isToTake 54 = .ok (.iload_n 3, 1) := by decide +kernel
theorem dX4_isToTake_55 : decode cX4_isToTake 55 = .ok (.iaload, 1) := by decide +kernel
theorem dX4_isToTake_56 : decode cX4_isToTake 56 = .ok (.iload_n 2, 1) := by decide +kernel
theorem dX4_isToTake_57 : decode cX4_isToTake 57 = .ok (.iconst 1, 1) := by decide +kernel
theorem dX4_isToTake_58 : decode cX4_isToTake 58 = .ok (.iadd, 1) := by decide +kernel
theorem dX4_isToTake_59 : decode cX4_isToTake 59 = .ok (.if_icmp .ne 7, 3) := by decide +kernel
theorem dX4_isToTake_62 : decode cX4_isToTake 62 = .ok (.iconst 1, 1) := by decide +kernel
theorem dX4_isToTake_63 : decode cX4_isToTake 63 = .ok (.goto 4, 3) := by decide +kernel
theorem dX4_isToTake_66 : decode cX4_isToTake 66 = .ok (.iconst 0, 1) := by decide +kernel
theorem dX4_isToTake_67 : decode cX4_isToTake 67 = .ok (.ireturn, 1) := by decide +kernel
theorem dX5_init_0 : decode cX5_init 0 = .ok (.aload_n 0, 1) := by decide +kernel
theorem dX5_init_1 : decode cX5_init 1 = .ok (.invokespecial 3, 3) := by decide +kernel
theorem dX5_init_4 : decode cX5_init 4 = .ok (.aload_n 0, 1) := by decide +kernel
theorem dX5_init_5 : decode cX5_init 5 = .ok (.bipush 12, 2) := by decide +kernel
theorem dX5_init_7 : decode cX5_init 7 = .ok (.newarray .int, 2) := by decide +kernel
theorem dX5_init_9 : decode cX5_init 9 = .ok (.putfield 9, 3) := by decide +kernel
theorem dX5_init_12 : decode cX5_init 12 = .ok (.aload_n 0, 1) := by decide +kernel
theorem dX5_init_13 : decode cX5_init 13 = .ok (.bipush 12, 2) := by decide +kernel
theorem dX5_init_15 : decode cX5_init 15 = .ok (.newarray .int, 2) := by decide +kernel
theorem dX5_init_17 : decode cX5_init 17 = .ok (.putfield 15, 3) := by decide +kernel
theorem dX5_init_20 : decode cX5_init 20 = .ok (.return_, 1) := by decide +kernel
set_option maxRecDepth 20000 in
theorem ggX5_enlarge_J7_fill_53178 : GoodIn wsX5_enlarge wsJ7_fill_53178 := goodIn_r _ [7] (by decide +kernel) (by decide +kernel)
set_option maxRecDepth 20000 in
theorem gX5_enlarge_J7_fill_53178 : GoodIn wsX5_enlarge (va_wsS RX5 18 yJ7_fill_53178 wsJ7_fill_53178) := goodIn_app (goodIn_of _ (by decide +kernel)) ggX5_enlarge_J7_fill_53178
set_option maxRecDepth 20000 in
theorem ggX5_enlarge_X5_queueFreeLefts : GoodIn wsX5_enlarge wsX5_queueFreeLefts := goodIn_r _ [12, 2, 13, 14, 15, 16, 17, 18, 19, 20, 21, 22, 23, 24, 25, 26, 27, 28, 11, 29, 3, 53, 54, 55, 56, 57, 58, 59, 60, 61, 62, 63] (by decide +kernel) (by decide +kernel)
set_option maxRecDepth 20000 in
theorem gX5_enlarge_X5_queueFreeLefts : GoodIn wsX5_enlarge (wsV RX5 24 RX5 yX5_queueFreeLefts wsX5_queueFreeLefts) := goodIn_app (goodIn_of _ (by decide +kernel)) ggX5_enlarge_X5_queueFreeLefts
set_option maxRecDepth 20000 in
theorem ggX5_enlarge_X5_lookFrom : GoodIn wsX5_enlarge wsX5_lookFrom := goodIn_r _ [33, 34, 1, 35, 36, 37, 38, 39, 40, 41, 23, 24, 25, 26, 27, 28, 11, 29, 2, 3, 56, 57, 58, 59, 60, 53, 54, 55, 61, 62, 63] (by decide +kernel) (by decide +kernel)
set_option maxRecDepth 20000 in
theorem gX5_enlarge_X5_lookFrom : GoodIn wsX5_enlarge (wsV RX5 32 RX5 yX5_lookFrom wsX5_lookFrom) := goodIn_app (goodIn_of _ (by decide +kernel)) ggX5_enlarge_X5_lookFrom
set_option maxRecDepth 20000 in
theorem ggX5_enlarge_X5_changePath : GoodIn wsX5_enlarge wsX5_changePath := goodIn_r _ [45, 1, 46, 47, 48, 49, 50, 17, 51, 19, 52, 53, 54, 55, 61, 62, 63] (by decide +kernel) (by decide +kernel)
set_option maxRecDepth 20000 in
theorem gX5_enlarge_X5_changePath : GoodIn wsX5_enlarge (wsV RX5 36 RX5 yX5_changePath wsX5_changePath) := goodIn_app (goodIn_of _ (by decide +kernel)) ggX5_enlarge_X5_changePath
theorem dX5_enlarge_0 : decode cX5_enlarge 0 = .ok (.aload_n 0, 1) := by decide +kernel
theorem dX5_enlarge_1 : decode cX5_enlarge 1 = .ok (.getfield 15, 3) := by decide +kernel
theorem dX5_enlarge_4 : decode cX5_enlarge 4 = .ok (.iconst (-1), 1) := by decide +kernel
theorem dX5_enlarge_5 : decode cX5_enlarge 5 = .ok (.invokestatic 18, 3) := by decide +kernel
theorem dX5_enlarge_8 : decode cX5_enlarge 8 = .ok (.aload_n 0, 1) := by decide +kernel
theorem dX5_enlarge_9 : decode cX5_enlarge 9 = .ok (.aload_n 1, 1) := by decide +kernel
theorem dX5_enlarge_10 : decode cX5_enlarge 10 = .ok (.aload_n 2, 1) := by decide +kernel
theorem dX5_enlarge_11 : decode cX5_enlarge 11 = .ok (.invokevirtual 24, 3) := by decide +kernel
theorem dX5_enlarge_14 : decode cX5_enlarge 14 = .ok (.iconst 0, 1) := by decide +kernel
theorem dX5_enlarge_15 : decode cX5_enlarge 15 = .ok (.istore_n 3, 1) := by decide +kernel
theorem dX5_enlarge_16 : decode cX5_enlarge 16 = .ok (.iload_n 3, 1) := by decide +kernel
theorem dX5_enlarge_17 : decode cX5_enlarge 17 = .ok (.aload_n 0, 1) := by decide +kernel
theorem dX5_enlarge_18 : decode cX5_enlarge 18 = .ok (.getfield 28, 3) := by decide +kernel
theorem dX5_enlarge_21 : decode cX5_enlarge 21 = .ok (.if_icmp .ge 44, 3) := by decide +kernel
theorem dX5_enlarge_24 : decode cX5_enlarge 24 = .ok (.iload_n 3, 1) := by decide +kernel
theorem dX5_enlarge_25 : decode cX5_enlarge 25 = .ok (.bipush 12, 2) := by decide +kernel
theorem dX5_enlarge_27 : decode cX5_enlarge 27 = .ok (.if_icmp .ge 38, 3) := by decide +kernel
theorem dX5_enlarge_30 : decode cX5_enlarge 30 = .ok (.aload_n 0, 1) := by decide +kernel
theorem dX5_enlarge_31 : decode cX5_enlarge 31 = .ok (.aload_n 0, 1) := by decide +kernel
theorem dX5_enlarge_32 : decode cX5_enlarge 32 = .ok (.getfield 9, 3) := by decide +kernel
theorem dX5_enlarge_35 : decode cX5_enlarge 35 = .ok (.iload_n 3, 1) := by decide +kernel
theorem dX5_enlarge_36 : decode cX5_enlarge 36 = .ok (.iaload, 1) := by decide +kernel
theorem dX5_enlarge_37 : decode cX5_enlarge 37 = .ok (.aload_n 1, 1) := by decide +kernel
theorem dX5_enlarge_38 : decode cX5_enlarge 38 = .ok (.aload_n 2, 1) := by decide +kernel
theorem dX5_enlarge_39 : decode cX5_enlarge 39 = .ok (.invokevirtual 32, 3) := by decide +kernel
theorem dX5_enlarge_42 : decode cX5_enlarge 42 = .ok (.istore 4, 2) := by decide +kernel
theorem dX5_enlarge_44 : decode cX5_enlarge 44 = .ok (.iload 4, 2) := by decide +kernel
theorem dX5_enlarge_46 : decode cX5_enlarge 46 = .ok (.iconst (-1), 1) := by decide +kernel
theorem dX5_enlarge_47 : decode cX5_enlarge 47 = .ok (.if_icmp .eq 12, 3) := by decide +kernel
theorem dX5_enlarge_50 : decode cX5_enlarge 50 = .ok (.aload_n 0, 1) := by decide +kernel
theorem dX5_enlarge_51 : decode cX5_enlarge 51 = .ok (.iload 4, 2) := by decide +kernel
theorem dX5_enlarge_53 : decode cX5_enlarge 53 = .ok (.aload_n 2, 1) := by decide +kernel
theorem dX5_enlarge_54 : decode cX5_enlarge 54 = .ok (.invokevirtual 36, 3) := by decide +kernel
theorem dX5_enlarge_57 : decode cX5_enlarge 57 = .ok (.iconst 1, 1) := by decide +kernel
theorem dX5_enlarge_58 : decode cX5_enlarge 58 = .ok (.ireturn, 1) := by decide +kernel
theorem dX5_enlarge_59 : decode cX5_enlarge 59 = .ok (.iinc 3 1, 3) := by decide +kernel
theorem dX5_enlarge_62 : decode cX5_enlarge 62 = .ok (.goto (-46), 3) := by decide +kernel
theorem dX5_enlarge_65 : decode cX5_enlarge 65 = .ok (.iconst 0, 1) := by decide +kernel
theorem dX5_enlarge_66 : decode cX5_enlarge 66 = .ok (.ireturn, 1) := by decide +kernel
set_option maxRecDepth 20000 in
theorem ggX5_queueFreeLefts_X2_freeLefts : GoodIn wsX5_queueFreeLefts wsX2_freeLefts := goodIn_r _ [7, 8, 9, 10, 6, 11, 29, 30, 31] (by decide +kernel) (by decide +kernel)
set_option maxRecDepth 20000 in
theorem gX5_queueFreeLefts_X2_freeLefts : GoodIn wsX5_queueFreeLefts (wsV RX5 45 RX2 yX2_freeLefts wsX2_freeLefts) := goodIn_app (goodIn_of _ (by decide +kernel)) ggX5_queueFreeLefts_X2_freeLefts
set_option maxRecDepth 20000 in
theorem ggX5_queueFreeLefts_X6_holds : GoodIn wsX5_queueFreeLefts wsX6_holds := goodIn_r _ [14] (by decide +kernel) (by decide +kernel)
set_option maxRecDepth 20000 in
theorem gX5_queueFreeLefts_X6_holds_n51 : GoodIn wsX5_queueFreeLefts (wsX6_holds) := ggX5_queueFreeLefts_X6_holds
set_option maxRecDepth 20000 in
theorem ggX5_queueFreeLefts_X5_putAtEnd : GoodIn wsX5_queueFreeLefts wsX5_putAtEnd := goodIn_r _ [19, 1, 20, 21, 22, 23] (by decide +kernel) (by decide +kernel)
set_option maxRecDepth 20000 in
theorem gX5_queueFreeLefts_X5_putAtEnd : GoodIn wsX5_queueFreeLefts (wsV RX5 55 RX5 yX5_putAtEnd wsX5_putAtEnd) := goodIn_app (goodIn_of _ (by decide +kernel)) ggX5_queueFreeLefts_X5_putAtEnd
theorem dX5_queueFreeLefts_0 : decode cX5_queueFreeLefts 0 = .ok (.aload_n 0, 1) := by decide +kernel
theorem dX5_queueFreeLefts_1 : decode cX5_queueFreeLefts 1 = .ok (.iconst 0, 1) := by decide +kernel
theorem dX5_queueFreeLefts_2 : decode cX5_queueFreeLefts 2 = .ok (.putfield 28, 3) := by decide +kernel
theorem dX5_queueFreeLefts_5 : decode cX5_queueFreeLefts 5 = .ok (.aload_n 2, 1) := by decide +kernel
theorem dX5_queueFreeLefts_6 : decode cX5_queueFreeLefts 6 = .ok (.aload_n 1, 1) := by decide +kernel
theorem dX5_queueFreeLefts_7 : decode cX5_queueFreeLefts 7 = .ok (.getfield 40, 3) := by decide +kernel
theorem dX5_queueFreeLefts_10 : decode cX5_queueFreeLefts 10 = .ok (.invokevirtual 45, 3) := by decide +kernel
theorem dX5_queueFreeLefts_13 : decode cX5_queueFreeLefts 13 = .ok (.istore_n 3, 1) := by decide +kernel
theorem dX5_queueFreeLefts_14 : decode cX5_queueFreeLefts 14 = .ok (.iconst 0, 1) := by decide +kernel
theorem dX5_queueFreeLefts_15 : decode cX5_queueFreeLefts 15 = .ok (.istore 4, 2) := by decide +kernel
theorem dX5_queueFreeLefts_17 : decode cX5_queueFreeLefts 17 = .ok (.iload 4, 2) := by decide +kernel
theorem dX5_queueFreeLefts_19 : decode cX5_queueFreeLefts 19 = .ok (.aload_n 1, 1) := by decide +kernel
theorem dX5_queueFreeLefts_20 : decode cX5_queueFreeLefts 20 = .ok (.getfield 40, 3) := by decide +kernel
theorem dX5_queueFreeLefts_23 : decode cX5_queueFreeLefts 23 = .ok (.if_icmp .ge 24, 3) := by decide +kernel
theorem dX5_queueFreeLefts_26 : decode cX5_queueFreeLefts 26 = .ok (.iload_n 3, 1) := by decide +kernel
theorem dX5_queueFreeLefts_27 : decode cX5_queueFreeLefts 27 = .ok (.iload 4, 2) := by decide +kernel
theorem dX5_queueFreeLefts_29 : decode cX5_queueFreeLefts 29 = .ok (.invokestatic 51, 3) := by decide +kernel
theorem dX5_queueFreeLefts_32 : decode cX5_queueFreeLefts 32 = .ok (.ifCond .eq 9, 3) := by decide +kernel
theorem dX5_queueFreeLefts_35 : decode cX5_queueFreeLefts 35 = .ok (.aload_n 0, 1) := by decide +kernel
theorem dX5_queueFreeLefts_36 : decode cX5_queueFreeLefts 36 = .ok (.iload 4, 2) := by decide +kernel
theorem dX5_queueFreeLefts_38 : decode cX5_queueFreeLefts 38 = .ok (.invokevirtual 55, 3) := by decide +kernel
theorem dX5_queueFreeLefts_41 : decode cX5_queueFreeLefts 41 = .ok (.iinc 4 1, 3) := by decide +kernel
theorem dX5_queueFreeLefts_44 : decode cX5_queueFreeLefts 44 = .ok (.goto (-27), 3) := by decide +kernel
theorem dX5_queueFreeLefts_47 : decode cX5_queueFreeLefts 47 = .ok (.return_, 1) := by decide +kernel
theorem dX5_putAtEnd_0 : decode cX5_putAtEnd 0 = .ok (.aload_n 0, 1) := by decide +kernel
theorem dX5_putAtEnd_1 : decode cX5_putAtEnd 1 = .ok (.getfield 28, 3) := by decide +kernel
theorem dX5_putAtEnd_4 : decode cX5_putAtEnd 4 = .ok (.bipush 12, 2) := by decide +kernel
theorem dX5_putAtEnd_6 : decode cX5_putAtEnd 6 = .ok (.if_icmp .ge 23, 3) := by decide +kernel
theorem dX5_putAtEnd_9 : decode cX5_putAtEnd 9 = .ok (.aload_n 0, 1) := by decide +kernel
theorem dX5_putAtEnd_10 : decode cX5_putAtEnd 10 = .ok (.getfield 9, 3) := by decide +kernel
theorem dX5_putAtEnd_13 : decode cX5_putAtEnd 13 = .ok (.aload_n 0, 1) := by decide +kernel
theorem dX5_putAtEnd_14 : decode cX5_putAtEnd 14 = .ok (.getfield 28, 3) := by decide +kernel
theorem dX5_putAtEnd_17 : decode cX5_putAtEnd 17 = .ok (.iload_n 1, 1) := by decide +kernel
theorem dX5_putAtEnd_18 : decode cX5_putAtEnd 18 = .ok (.iastore, 1) := by decide +kernel
theorem dX5_putAtEnd_19 : decode cX5_putAtEnd 19 = .ok (.aload_n 0, 1) := by decide +kernel
theorem dX5_putAtEnd_20 : decode cX5_putAtEnd 20 = .ok (.dup, 1) := by decide +kernel
theorem dX5_putAtEnd_21 : decode cX5_putAtEnd 21 = .ok (.getfield 28, 3) := by decide +kernel
theorem dX5_putAtEnd_24 : decode cX5_putAtEnd 24 = .ok (.iconst 1, 1) := by decide +kernel
theorem dX5_putAtEnd_25 : decode cX5_putAtEnd 25 = .ok (.iadd, 1) := by decide +kernel
theorem dX5_putAtEnd_26 : decode cX5_putAtEnd 26 = .ok (.putfield 28, 3) := by decide +kernel
theorem dX5_putAtEnd_29 : decode cX5_putAtEnd 29 = .ok (.return_, 1) := by decide +kernel
set_option maxRecDepth 20000 in
theorem ggX5_lookFrom_X1_has : GoodIn wsX5_lookFrom wsX1_has := goodIn_r _ [8, 9, 10, 11, 12, 20, 21, 22, 23, 24] (by decide +kernel) (by decide +kernel)
set_option maxRecDepth 20000 in
theorem gX5_lookFrom_X1_has : GoodIn wsX5_lookFrom (wsV RX5 62 RX1 yX1_has wsX1_has) := goodIn_app (goodIn_of _ (by decide +kernel)) ggX5_lookFrom_X1_has
set_option maxRecDepth 20000 in
theorem ggX5_lookFrom_X5_putAtEnd : GoodIn wsX5_lookFrom wsX5_putAtEnd := goodIn_r _ [17, 18, 19, 25, 26, 27] (by decide +kernel) (by decide +kernel)
set_option maxRecDepth 20000 in
theorem gX5_lookFrom_X5_putAtEnd : GoodIn wsX5_lookFrom (wsV RX5 55 RX5 yX5_putAtEnd wsX5_putAtEnd) := goodIn_app (goodIn_of _ (by decide +kernel)) ggX5_lookFrom_X5_putAtEnd
theorem dX5_lookFrom_0 : decode cX5_lookFrom 0 = .ok (.iconst 0, 1) := by decide +kernel
theorem dX5_lookFrom_1 : decode cX5_lookFrom 1 = .ok (.istore 4, 2) := by decide +kernel
theorem dX5_lookFrom_3 : decode cX5_lookFrom 3 = .ok (.iload 4, 2) := by decide +kernel
theorem dX5_lookFrom_5 : decode cX5_lookFrom 5 = .ok (.aload_n 2, 1) := by decide +kernel
theorem dX5_lookFrom_6 : decode cX5_lookFrom 6 = .ok (.getfield 59, 3) := by decide +kernel
theorem dX5_lookFrom_9 : decode cX5_lookFrom 9 = .ok (.if_icmp .ge 62, 3) := by decide +kernel
theorem dX5_lookFrom_12 : decode cX5_lookFrom 12 = .ok (.aload_n 2, 1) := by decide +kernel
theorem dX5_lookFrom_13 : decode cX5_lookFrom 13 = .ok (.iload_n 1, 1) := by decide +kernel
theorem dX5_lookFrom_14 : decode cX5_lookFrom 14 = .ok (.iload 4, 2) := by decide +kernel
theorem dX5_lookFrom_16 : decode cX5_lookFrom 16 = .ok (.invokevirtual 62, 3) := by decide +kernel
theorem dX5_lookFrom_19 : decode cX5_lookFrom 19 = .ok (.ifCond .eq 46, 3) := by decide +kernel
theorem dX5_lookFrom_22 : decode cX5_lookFrom 22 = .ok (.aload_n 0, 1) := by decide +kernel
theorem dX5_lookFrom_23 : decode cX5_lookFrom 23 = .ok (.getfield 15, 3) := by decide +kernel
theorem dX5_lookFrom_26 : decode cX5_lookFrom 26 = .ok (.iload 4, 2) := by decide +kernel
theorem dX5_lookFrom_28 : decode cX5_lookFrom 28 = .ok (.iaload, 1) := by decide +kernel
theorem dX5_lookFrom_29 : decode cX5_lookFrom 29 = .ok (.iconst (-1), 1) := by decide +kernel
theorem dX5_lookFrom_30 : decode cX5_lookFrom 30 = .ok (.if_icmp .ne 35, 3) := by decide +kernel
theorem dX5_lookFrom_33 : decode cX5_lookFrom 33 = .ok (.aload_n 0, 1) := by decide +kernel
theorem dX5_lookFrom_34 : decode cX5_lookFrom 34 = .ok (.getfield 15, 3) := by decide +kernel
theorem dX5_lookFrom_37 : decode cX5_lookFrom 37 = .ok (.iload 4, 2) := by decide +kernel
theorem dX5_lookFrom_39 : decode cX5_lookFrom 39 = .ok (.iload_n 1, 1) := by decide +kernel
theorem dX5_lookFrom_40 : decode cX5_lookFrom 40 = .ok (.iastore, 1) := by decide +kernel
theorem dX5_lookFrom_41 : decode cX5_lookFrom 41 = .ok (.aload_n 3, 1) := by decide +kernel
theorem dX5_lookFrom_42 : decode cX5_lookFrom 42 = .ok (.getfield 65, 3) := by decide +kernel
theorem dX5_lookFrom_45 : decode cX5_lookFrom 45 = .ok (.iload 4, 2) := by decide +kernel
theorem dX5_lookFrom_47 : decode cX5_lookFrom 47 = .ok (.iaload, 1) := by decide +kernel
theorem dX5_lookFrom_48 : decode cX5_lookFrom 48 = .ok (.istore 5, 2) := by decide +kernel
theorem dX5_lookFrom_50 : decode cX5_lookFrom 50 = .ok (.iload 5, 2) := by decide +kernel
theorem dX5_lookFrom_52 : decode cX5_lookFrom 52 = .ok (.iconst (-1), 1) := by decide +kernel
theorem dX5_lookFrom_53 : decode cX5_lookFrom 53 = .ok (.if_icmp .ne 6, 3) := by decide +kernel
theorem dX5_lookFrom_56 : decode cX5_lookFrom 56 = .ok (.iload 4, 2) := by decide +kernel
theorem dX5_lookFrom_58 : decode cX5_lookFrom 58 = .ok (.ireturn, 1) := by decide +kernel
theorem dX5_lookFrom_59 : decode cX5_lookFrom 59 = .ok (.aload_n 0, 1) := by decide +kernel
theorem dX5_lookFrom_60 : decode cX5_lookFrom 60 = .ok (.iload 5, 2) := by decide +kernel
theorem dX5_lookFrom_62 : decode cX5_lookFrom 62 = .ok (.invokevirtual 55, 3) := by decide +kernel
theorem dX5_lookFrom_65 : decode cX5_lookFrom 65 = .ok (.iinc 4 1, 3) := by decide +kernel
theorem dX5_lookFrom_68 : decode cX5_lookFrom 68 = .ok (.goto (-65), 3) := by decide +kernel
theorem dX5_lookFrom_71 : decode cX5_lookFrom 71 = .ok (.iconst (-1), 1) := by decide +kernel
theorem dX5_lookFrom_72 : decode cX5_lookFrom 72 = .ok (.ireturn, 1) := by decide +kernel
set_option maxRecDepth 20000 in
theorem ggX5_changePath_X2_join : GoodIn wsX5_changePath wsX2_join := goodIn_r _ [8, 9, 10, 14, 15, 16] (by decide +kernel) (by decide +kernel)
set_option maxRecDepth 20000 in
theorem gX5_changePath_X2_join : GoodIn wsX5_changePath (wsV RX5 71 RX2 yX2_join wsX2_join) := goodIn_app (goodIn_of _ (by decide +kernel)) ggX5_changePath_X2_join
theorem dX5_changePath_0 : decode cX5_changePath 0 = .ok (.iload_n 1, 1) := by decide +kernel
theorem dX5_changePath_1 : decode cX5_changePath 1 = .ok (.istore_n 3, 1) := by decide +kernel
theorem dX5_changePath_2 : decode cX5_changePath 2 = .ok (.iconst 0, 1) := by decide +kernel
theorem dX5_changePath_3 : decode cX5_changePath 3 = .ok (.istore 4, 2) := by decide +kernel
theorem dX5_changePath_5 : decode cX5_changePath 5 = .ok (.iload 4, 2) := by decide +kernel
theorem dX5_changePath_7 : decode cX5_changePath 7 = .ok (.bipush 12, 2) := by decide +kernel
theorem dX5_changePath_9 : decode cX5_changePath 9 = .ok (.if_icmp .ge 50, 3) := by decide +kernel
theorem dX5_changePath_12 : decode cX5_changePath 12 = .ok (.iload_n 3, 1) := by decide +kernel
theorem dX5_changePath_13 : decode cX5_changePath 13 = .ok (.iconst (-1), 1) := by decide +kernel
theorem dX5_changePath_14 : decode cX5_changePath 14 = .ok (.if_icmp .eq 45, 3) := by decide +kernel
theorem dX5_changePath_17 : decode cX5_changePath 17 = .ok (.aload_n 0, 1) := by decide +kernel
theorem dX5_changePath_18 : decode cX5_changePath 18 = .ok (.getfield 15, 3) := by decide +kernel
theorem dX5_changePath_21 : decode cX5_changePath 21 = .ok (.iload_n 3, 1) := by decide +kernel
theorem dX5_changePath_22 : decode cX5_changePath 22 = .ok (.iaload, 1) := by decide +kernel
theorem dX5_changePath_23 : decode cX5_changePath 23 = .ok (.istore 5, 2) := by decide +kernel
theorem dX5_changePath_25 : decode cX5_changePath 25 = .ok (.iload 5, 2) := by decide +kernel
theorem dX5_changePath_27 : decode cX5_changePath 27 = .ok (.iconst (-1), 1) := by decide +kernel
theorem dX5_changePath_28 : decode cX5_changePath 28 = .ok (.if_icmp .ne 6, 3) := by decide +kernel
theorem dX5_changePath_31 : decode cX5_changePath 31 = .ok (.goto 28, 3) := by decide +kernel
theorem dX5_changePath_34 : decode cX5_changePath 34 = .ok (.aload_n 2, 1) := by decide +kernel
theorem dX5_changePath_35 : decode cX5_changePath 35 = .ok (.getfield 68, 3) := by decide +kernel
theorem dX5_changePath_38 : decode cX5_changePath 38 = .ok (.iload 5, 2) := by decide +kernel
theorem dX5_changePath_40 : decode cX5_changePath 40 = .ok (.iaload, 1) := by decide +kernel
theorem dX5_changePath_41 : decode cX5_changePath 41 = .ok (.istore 6, 2) := by decide +kernel
theorem dX5_changePath_43 : decode cX5_changePath 43 = .ok (.aload_n 2, 1) := by decide +kernel
theorem dX5_changePath_44 : decode cX5_changePath 44 = .ok (.iload 5, 2) := by decide +kernel
theorem dX5_changePath_46 : decode cX5_changePath 46 = .ok (.iload_n 3, 1) := by decide +kernel
theorem dX5_changePath_47 : decode cX5_changePath 47 = .ok (.invokevirtual 71, 3) := by decide +kernel
theorem dX5_changePath_50 : decode cX5_changePath 50 = .ok (.iload 6, 2) := by decide +kernel
theorem dX5_changePath_52 : decode cX5_changePath 52 = .ok (.istore_n 3, 1) := by decide +kernel
theorem dX5_changePath_53 : decode cX5_changePath 53 = .ok (.iinc 4 1, 3) := by decide +kernel
theorem dX5_changePath_56 : decode cX5_changePath 56 = .ok (.goto (-51), 3) := by decide +kernel
theorem dX5_changePath_59 : decode cX5_changePath 59 = .ok (.aload_n 2, 1) := by decide +kernel
theorem dX5_changePath_60 : decode cX5_changePath 60 = .ok (.dup, 1) := by decide +kernel
theorem dX5_changePath_61 : decode cX5_changePath 61 = .ok (.getfield 75, 3) := by decide +kernel
theorem dX5_changePath_64 : decode cX5_changePath 64 = .ok (.iconst 1, 1) := by decide +kernel
theorem dX5_changePath_65 : decode cX5_changePath 65 = .ok (.iadd, 1) := by decide +kernel
theorem dX5_changePath_66 : decode cX5_changePath 66 = .ok (.putfield 75, 3) := by decide +kernel
theorem dX5_changePath_69 : decode cX5_changePath 69 = .ok (.return_, 1) := by decide +kernel
set_option maxRecDepth 20000 in
theorem ggX6_init_X1_init : GoodIn wsX6_init wsX1_init := goodIn_r _ [29, 30, 2, 3, 31, 32, 33, 67, 68, 69, 70, 71] (by decide +kernel) (by decide +kernel)
set_option maxRecDepth 20000 in
theorem gX6_init_X1_init_n9 : GoodIn wsX6_init (wsX1_init) := ggX6_init_X1_init
set_option maxRecDepth 20000 in
theorem ggX6_init_X2_init : GoodIn wsX6_init wsX2_init := goodIn_r _ [36, 37, 2, 3, 31, 38, 39, 40, 41, 42, 43, 78, 79, 80] (by decide +kernel) (by decide +kernel)
set_option maxRecDepth 20000 in
theorem gX6_init_X2_init : GoodIn wsX6_init (wsX2_init) := ggX6_init_X2_init
set_option maxRecDepth 20000 in
theorem ggX6_init_X5_init : GoodIn wsX6_init wsX5_init := goodIn_r _ [45, 46, 2, 3, 31, 47, 48, 81, 82, 83] (by decide +kernel) (by decide +kernel)
set_option maxRecDepth 20000 in
theorem gX6_init_X5_init_n25 : GoodIn wsX6_init (wsX5_init) := ggX6_init_X5_init
set_option maxRecDepth 20000 in
theorem ggX6_init_X4_init : GoodIn wsX6_init wsX4_init := goodIn_r _ [50, 51, 2, 3, 52, 9, 10, 53, 31, 54, 55, 56, 57, 35, 36, 37, 38, 39, 40, 41, 42, 43, 78, 79, 80, 84, 85, 86, 87, 88, 89, 90] (by decide +kernel) (by decide +kernel)
set_option maxRecDepth 20000 in
theorem gX6_init_X4_init_n32 : GoodIn wsX6_init (wsX4_init) := ggX6_init_X4_init
set_option maxRecDepth 20000 in
theorem ggX6_init_X0_init : GoodIn wsX6_init wsX0_init := goodIn_r _ [59, 60, 2, 3, 31, 61, 91, 92, 93, 94, 95] (by decide +kernel) (by decide +kernel)
set_option maxRecDepth 20000 in
theorem gX6_init_X0_init_n39 : GoodIn wsX6_init (wsX0_init) := ggX6_init_X0_init
set_option maxRecDepth 20000 in
theorem ggX6_init_X3_init : GoodIn wsX6_init wsX3_init := goodIn_r _ [63, 64, 2, 3, 65, 66, 96] (by decide +kernel) (by decide +kernel)
set_option maxRecDepth 20000 in
theorem gX6_init_X3_init_n46 : GoodIn wsX6_init (wsX3_init) := ggX6_init_X3_init
theorem dX6_init_0 : decode cX6_init 0 = .ok (.aload_n 0, 1) := by decide +kernel
theorem dX6_init_1 : decode cX6_init 1 = .ok (.invokespecial 1, 3) := by decide +kernel
theorem dX6_init_4 : decode cX6_init 4 = .ok (.aload_n 0, 1) := by decide +kernel
theorem dX6_init_5 : decode cX6_init 5 = .ok (.new 7, 3) := by decide +kernel
theorem dX6_init_8 : decode cX6_init 8 = .ok (.dup, 1) := by decide +kernel
theorem dX6_init_9 : decode cX6_init 9 = .ok (.invokespecial 9, 3) := by decide +kernel
theorem dX6_init_12 : decode cX6_init 12 = .ok (.putfield 10, 3) := by decide +kernel
theorem dX6_init_15 : decode cX6_init 15 = .ok (.aload_n 0, 1) := by decide +kernel
theorem dX6_init_16 : decode cX6_init 16 = .ok (.new 16, 3) := by decide +kernel
theorem dX6_init_19 : decode cX6_init 19 = .ok (.dup, 1) := by decide +kernel
theorem dX6_init_20 : decode cX6_init 20 = .ok (.invokespecial 18, 3) := by decide +kernel
theorem dX6_init_23 : decode cX6_init 23 = .ok (.putfield 19, 3) := by decide +kernel
theorem dX6_init_26 : decode cX6_init 26 = .ok (.aload_n 0, 1) := by decide +kernel
theorem dX6_init_27 : decode cX6_init 27 = .ok (.new 23, 3) := by decide +kernel
theorem dX6_init_30 : decode cX6_init 30 = .ok (.dup, 1) := by decide +kernel
theorem dX6_init_31 : decode cX6_init 31 = .ok (.invokespecial 25, 3) := by decide +kernel
theorem dX6_init_34 : decode cX6_init 34 = .ok (.putfield 26, 3) := by decide +kernel
theorem dX6_init_37 : decode cX6_init 37 = .ok (.aload_n 0, 1) := by decide +kernel
theorem dX6_init_38 : decode cX6_init 38 = .ok (.new 30, 3) := by decide +kernel
theorem dX6_init_41 : decode cX6_init 41 = .ok (.dup, 1) := by decide +kernel
theorem dX6_init_42 : decode cX6_init 42 = .ok (.invokespecial 32, 3) := by decide +kernel
theorem dX6_init_45 : decode cX6_init 45 = .ok (.putfield 33, 3) := by decide +kernel
theorem dX6_init_48 : decode cX6_init 48 = .ok (.aload_n 0, 1) := by decide +kernel
theorem dX6_init_49 : decode cX6_init 49 = .ok (.new 37, 3) := by decide +kernel
theorem dX6_init_52 : decode cX6_init 52 = .ok (.dup, 1) := by decide +kernel
theorem dX6_init_53 : decode cX6_init 53 = .ok (.invokespecial 39, 3) := by decide +kernel
theorem dX6_init_56 : decode cX6_init 56 = .ok (.putfield 40, 3) := by decide +kernel
theorem dX6_init_59 : decode cX6_init 59 = .ok (.aload_n 0, 1) := by decide +kernel
theorem dX6_init_60 : decode cX6_init 60 = .ok (.new 44, 3) := by decide +kernel
theorem dX6_init_63 : decode cX6_init 63 = .ok (.dup, 1) := by decide +kernel
theorem dX6_init_64 : decode cX6_init 64 = .ok (.invokespecial 46, 3) := by decide +kernel
theorem dX6_init_67 : decode cX6_init 67 = .ok (.putfield 47, 3) := by decide +kernel
theorem dX6_init_70 : decode cX6_init 70 = .ok (.return_, 1) := by decide +kernel
theorem dX6_addLeft_0 : decode cX6_addLeft 0 = .ok (.aload_n 0, 1) := by decide +kernel
theorem dX6_addLeft_1 : decode cX6_addLeft 1 = .ok (.getfield 10, 3) := by decide +kernel
theorem dX6_addLeft_4 : decode cX6_addLeft 4 = .ok (.getfield 51, 3) := by decide +kernel
theorem dX6_addLeft_7 : decode cX6_addLeft 7 = .ok (.bipush 12, 2) := by decide +kernel
theorem dX6_addLeft_9 : decode cX6_addLeft 9 = .ok (.if_icmp .lt 13, 3) := by decide +kernel
theorem dX6_addLeft_12 : decode cX6_addLeft 12 = .ok (.new 55, 3) := by decide +kernel
theorem dX6_addLeft_15 : decode cX6_addLeft 15 = .ok (.dup, 1) := by decide +kernel
theorem dX6_addLeft_16 : decode cX6_addLeft 16 = .ok (.ldc 57, 2) := by decide +kernel
theorem dX6_addLeft_18 : decode cX6_addLeft 18 = .ok (.invokespecial 59, 3) := by decide +kernel
theorem dX6_addLeft_21 : decode cX6_addLeft 21 = .ok (.athrow, 1) := by decide +kernel
theorem dX6_addLeft_22 : decode cX6_addLeft 22 = .ok (.aload_n 0, 1) := by decide +kernel
theorem dX6_addLeft_23 : decode cX6_addLeft 23 = .ok (.getfield 10, 3) := by decide +kernel
theorem dX6_addLeft_26 : decode cX6_addLeft 26 = .ok (.getfield 51, 3) := by decide +kernel
theorem dX6_addLeft_29 : decode cX6_addLeft 29 = .ok (.istore_n 1, 1) := by decide +kernel
theorem dX6_addLeft_30 : decode cX6_addLeft 30 = .ok (.aload_n 0, 1) := by decide +kernel
theorem dX6_addLeft_31 : decode cX6_addLeft 31 = .ok (.getfield 10, 3) := by decide +kernel
theorem dX6_addLeft_34 : decode cX6_addLeft 34 = .ok (.iload_n 1, 1) := by decide +kernel
theorem dX6_addLeft_35 : decode cX6_addLeft 35 = .ok (.iconst 1, 1) := by decide +kernel
theorem dX6_addLeft_36 : decode cX6_addLeft 36 = .ok (.iadd, 1) := by decide +kernel
theorem dX6_addLeft_37 : decode cX6_addLeft 37 = .ok (.putfield 51, 3) := by decide +kernel
theorem dX6_addLeft_40 : decode cX6_addLeft 40 = .ok (.iload_n 1, 1) := by decide +kernel
theorem dX6_addLeft_41 : decode cX6_addLeft 41 = .ok (.ireturn, 1) := by decide +kernel
theorem dX6_addRight_0 : decode cX6_addRight 0 = .ok (.aload_n 0, 1) := by decide +kernel
theorem dX6_addRight_1 : decode cX6_addRight 1 = .ok (.getfield 10, 3) := by decide +kernel
theorem dX6_addRight_4 : decode cX6_addRight 4 = .ok (.getfield 62, 3) := by decide +kernel
theorem dX6_addRight_7 : decode cX6_addRight 7 = .ok (.bipush 12, 2) := by decide +kernel
theorem dX6_addRight_9 : decode cX6_addRight 9 = .ok (.if_icmp .lt 13, 3) := by decide +kernel
theorem dX6_addRight_12 : decode cX6_addRight 12 = .ok (.new 55, 3) := by decide +kernel
theorem dX6_addRight_15 : decode cX6_addRight 15 = .ok (.dup, 1) := by decide +kernel
theorem dX6_addRight_16 : decode cX6_addRight 16 = .ok (.ldc 65, 2) := by decide +kernel
theorem dX6_addRight_18 : decode cX6_addRight 18 = .ok (.invokespecial 59, 3) := by decide +kernel
theorem dX6_addRight_21 : decode cX6_addRight 21 = .ok (.athrow, 1) := by decide +kernel
theorem dX6_addRight_22 : decode cX6_addRight 22 = .ok (.aload_n 0, 1) := by decide +kernel
theorem dX6_addRight_23 : decode cX6_addRight 23 = .ok (.getfield 10, 3) := by decide +kernel
theorem dX6_addRight_26 : decode cX6_addRight 26 = .ok (.getfield 62, 3) := by decide +kernel
theorem dX6_addRight_29 : decode cX6_addRight 29 = .ok (.istore_n 1, 1) := by decide +kernel
theorem dX6_addRight_30 : decode cX6_addRight 30 = .ok (.aload_n 0, 1) := by decide +kernel
theorem dX6_addRight_31 : decode cX6_addRight 31 = .ok (.getfield 10, 3) := by decide +kernel
theorem dX6_addRight_34 : decode cX6_addRight 34 = .ok (.iload_n 1, 1) := by decide +kernel
theorem dX6_addRight_35 : decode cX6_addRight 35 = .ok (.iconst 1, 1) := by decide +kernel
theorem dX6_addRight_36 : decode cX6_addRight 36 = .ok (.iadd, 1) := by decide +kernel
theorem dX6_addRight_37 : decode cX6_addRight 37 = .ok (.putfield 62, 3) := by decide +kernel
theorem dX6_addRight_40 : decode cX6_addRight 40 = .ok (.iload_n 1, 1) := by decide +kernel
theorem dX6_addRight_41 : decode cX6_addRight 41 = .ok (.ireturn, 1) := by decide +kernel
theorem dX6_lefts_0 : decode cX6_lefts 0 = .ok (.aload_n 0, 1) := by decide +kernel
theorem dX6_lefts_1 : decode cX6_lefts 1 = .ok (.getfield 10, 3) := by decide +kernel
theorem dX6_lefts_4 : decode cX6_lefts 4 = .ok (.getfield 51, 3) := by decide +kernel
theorem dX6_lefts_7 : decode cX6_lefts 7 = .ok (.ireturn, 1) := by decide +kernel
theorem dX6_rights_0 : decode cX6_rights 0 = .ok (.aload_n 0, 1) := by decide +kernel
theorem dX6_rights_1 : decode cX6_rights 1 = .ok (.getfield 10, 3) := by decide +kernel
theorem dX6_rights_4 : decode cX6_rights 4 = .ok (.getfield 62, 3) := by decide +kernel
theorem dX6_rights_7 : decode cX6_rights 7 = .ok (.ireturn, 1) := by decide +kernel
theorem dX6_edges_0 : decode cX6_edges 0 = .ok (.aload_n 0, 1) := by decide +kernel
theorem dX6_edges_1 : decode cX6_edges 1 = .ok (.getfield 10, 3) := by decide +kernel
theorem dX6_edges_4 : decode cX6_edges 4 = .ok (.getfield 67, 3) := by decide +kernel
theorem dX6_edges_7 : decode cX6_edges 7 = .ok (.ireturn, 1) := by decide +kernel
set_option maxRecDepth 20000 in
theorem ggX6_connect_X6_requireBoth : GoodIn wsX6_connect wsX6_requireBoth := goodIn_ca (goodIn_r _ [10, 11, 12, 13, 9, 14, 15, 16, 3, 17, 18, 19, 20, 21, 22, 85, 86, 87, 88, 89, 90, 91, 92, 93, 94, 95] (by decide +kernel) (by decide +kernel)) (goodIn_sub (fun _ h => List.mem_cons_of_mem _ (List.mem_append_right _ h)) (by decide +kernel))
set_option maxRecDepth 20000 in
theorem gX6_connect_X6_requireBoth : GoodIn wsX6_connect (wsV RX6 70 RX6 yX6_requireBoth wsX6_requireBoth) := goodIn_app (goodIn_of _ (by decide +kernel)) ggX6_connect_X6_requireBoth
set_option maxRecDepth 20000 in
theorem ggX6_connect_X1_has : GoodIn wsX6_connect wsX1_has := goodIn_r _ [27, 28, 29, 9, 30, 91, 92, 93, 94, 95] (by decide +kernel) (by decide +kernel)
set_option maxRecDepth 20000 in
theorem gX6_connect_X1_has : GoodIn wsX6_connect (wsV RX6 74 RX1 yX1_has wsX1_has) := goodIn_app (goodIn_of _ (by decide +kernel)) ggX6_connect_X1_has
set_option maxRecDepth 20000 in
theorem ggX6_connect_X1_add : GoodIn wsX6_connect wsX1_add := goodIn_r _ [34, 28, 35, 36, 91, 92, 93, 94, 95] (by decide +kernel) (by decide +kernel)
set_option maxRecDepth 20000 in
theorem gX6_connect_X1_add : GoodIn wsX6_connect (wsV RX6 80 RX1 yX1_add wsX1_add) := goodIn_app (goodIn_of _ (by decide +kernel)) ggX6_connect_X1_add
set_option maxRecDepth 20000 in
theorem ggX6_connect_X5_enlarge : GoodIn wsX6_connect wsX5_enlarge := goodIn_r _ [41, 42, 43, 44, 45, 46, 47, 48, 49, 50, 51, 40, 52, 53, 54, 55, 56, 57, 58, 59, 60, 61, 62, 29, 9, 30, 63, 64, 65, 66, 67, 68, 69, 70, 71, 72, 73, 24, 25, 26, 27, 28, 74, 75, 76, 77, 78, 79, 80, 81, 82, 83, 84, 96, 97, 98, 91, 92, 93, 94, 95, 99, 100, 101] (by decide +kernel) (by decide +kernel)
set_option maxRecDepth 20000 in
theorem gX6_connect_X5_enlarge : GoodIn wsX6_connect (wsV RX6 83 RX5 yX5_enlarge wsX5_enlarge) := goodIn_app (goodIn_of _ (by decide +kernel)) ggX6_connect_X5_enlarge
theorem dX6_connect_0 : decode cX6_connect 0 = .ok (.aload_n 0, 1) := by decide +kernel
theorem dX6_connect_1 : decode cX6_connect 1 = .ok (.iload_n 1, 1) := by decide +kernel
theorem dX6_connect_2 : decode cX6_connect 2 = .ok (.iload_n 2, 1) := by decide +kernel
theorem dX6_connect_3 : decode cX6_connect 3 = .ok (.invokevirtual 70, 3) := by decide +kernel
theorem dX6_connect_6 : decode cX6_connect 6 = .ok (.aload_n 0, 1) := by decide +kernel
theorem dX6_connect_7 : decode cX6_connect 7 = .ok (.getfield 10, 3) := by decide +kernel
theorem dX6_connect_10 : decode cX6_connect 10 = .ok (.iload_n 1, 1) := by decide +kernel
theorem dX6_connect_11 : decode cX6_connect 11 = .ok (.iload_n 2, 1) := by decide +kernel
theorem dX6_connect_12 : decode cX6_connect 12 = .ok (.invokevirtual 74, 3) := by decide +kernel
theorem dX6_connect_15 : decode cX6_connect 15 = .ok (.ifCond .eq 13, 3) := by decide +kernel
theorem dX6_connect_18 : decode cX6_connect 18 = .ok (.new 55, 3) := by decide +kernel
theorem dX6_connect_21 : decode cX6_connect 21 = .ok (.dup, 1) := by decide +kernel
theorem dX6_connect_22 : decode cX6_connect 22 = .ok (.ldc 78, 2) := by decide +kernel
theorem dX6_connect_24 : decode cX6_connect 24 = .ok (.invokespecial 59, 3) := by decide +kernel
theorem dX6_connect_27 : decode cX6_connect 27 = .ok (.athrow, 1) := by decide +kernel
theorem dX6_connect_28 : decode cX6_connect 28 = .ok (.aload_n 0, 1) := by decide +kernel
theorem dX6_connect_29 : decode cX6_connect 29 = .ok (.getfield 10, 3) := by decide +kernel
theorem dX6_connect_32 : decode cX6_connect 32 = .ok (.iload_n 1, 1) := by decide +kernel
theorem dX6_connect_33 : decode cX6_connect 33 = .ok (.iload_n 2, 1) := by decide +kernel
theorem dX6_connect_34 : decode cX6_connect 34 = .ok (.invokevirtual 80, 3) := by decide +kernel
theorem dX6_connect_37 : decode cX6_connect 37 = .ok (.aload_n 0, 1) := by decide +kernel
theorem dX6_connect_38 : decode cX6_connect 38 = .ok (.getfield 26, 3) := by decide +kernel
theorem dX6_connect_41 : decode cX6_connect 41 = .ok (.aload_n 0, 1) := by decide +kernel
theorem dX6_connect_42 : decode cX6_connect 42 = .ok (.getfield 10, 3) := by decide +kernel
theorem dX6_connect_45 : decode cX6_connect 45 = .ok (.aload_n 0, 1) := by decide +kernel
theorem dX6_connect_46 : decode cX6_connect 46 = .ok (.getfield 19, 3) := by decide +kernel
theorem dX6_connect_49 : decode cX6_connect 49 = .ok (.invokevirtual 83, 3) := by decide +kernel
theorem dX6_connect_52 : decode cX6_connect 52 = .ok (.ireturn, 1) := by decide +kernel
set_option maxRecDepth 20000 in
theorem ggX6_disconnect_X6_requireEdge : GoodIn wsX6_disconnect wsX6_requireEdge := goodIn_ca (goodIn_ca (goodIn_r _ [9, 10, 11, 1, 12, 13, 14, 8, 15, 16, 17, 18, 19, 20, 21, 22, 23, 24, 25, 26, 27, 28, 29, 30, 31, 32, 33, 34, 35, 95, 96, 97, 98, 99, 100, 104, 105, 106, 107, 108] (by decide +kernel) (by decide +kernel)) (goodIn_sub (fun _ h => List.mem_cons_of_mem _ (List.mem_append_left _ (List.mem_append_right _ h))) (by decide +kernel))) (goodIn_sub (fun _ h => List.mem_cons_of_mem _ (List.mem_append_right _ h)) (by decide +kernel))
set_option maxRecDepth 20000 in
theorem gX6_disconnect_X6_requireEdge : GoodIn wsX6_disconnect (wsV RX6 87 RX6 yX6_requireEdge wsX6_requireEdge) := goodIn_app (goodIn_of _ (by decide +kernel)) ggX6_disconnect_X6_requireEdge
set_option maxRecDepth 20000 in
theorem ggX6_disconnect_X1_remove : GoodIn wsX6_disconnect wsX1_remove := goodIn_r _ [39, 33, 40, 41, 104, 105, 106, 107, 108] (by decide +kernel) (by decide +kernel)
set_option maxRecDepth 20000 in
theorem gX6_disconnect_X1_remove : GoodIn wsX6_disconnect (wsV RX6 90 RX1 yX1_remove wsX1_remove) := goodIn_app (goodIn_of _ (by decide +kernel)) ggX6_disconnect_X1_remove
set_option maxRecDepth 20000 in
theorem ggX6_disconnect_X2_separate : GoodIn wsX6_disconnect wsX2_separate := goodIn_r _ [46, 47, 48, 49, 101, 102, 103] (by decide +kernel) (by decide +kernel)
set_option maxRecDepth 20000 in
theorem gX6_disconnect_X2_separate : GoodIn wsX6_disconnect (wsV RX6 97 RX2 yX2_separate wsX2_separate) := goodIn_app (goodIn_of _ (by decide +kernel)) ggX6_disconnect_X2_separate
set_option maxRecDepth 20000 in
theorem ggX6_disconnect_X5_enlarge : GoodIn wsX6_disconnect wsX5_enlarge := goodIn_r _ [54, 55, 56, 57, 58, 59, 60, 61, 62, 63, 64, 53, 65, 66, 67, 68, 69, 45, 70, 47, 71, 72, 73, 34, 8, 35, 74, 75, 76, 77, 78, 79, 80, 81, 82, 83, 84, 29, 30, 31, 32, 33, 85, 86, 87, 88, 89, 90, 91, 92, 93, 94, 48, 109, 110, 111, 104, 105, 106, 107, 108, 101, 102, 103] (by decide +kernel) (by decide +kernel)
set_option maxRecDepth 20000 in
theorem gX6_disconnect_X5_enlarge : GoodIn wsX6_disconnect (wsV RX6 83 RX5 yX5_enlarge wsX5_enlarge) := goodIn_app (goodIn_of _ (by decide +kernel)) ggX6_disconnect_X5_enlarge
theorem dX6_disconnect_0 : decode cX6_disconnect 0 = .ok (.aload_n 0, 1) := by decide +kernel
theorem dX6_disconnect_1 : decode cX6_disconnect 1 = .ok (.iload_n 1, 1) := by decide +kernel
theorem dX6_disconnect_2 : decode cX6_disconnect 2 = .ok (.iload_n 2, 1) := by decide +kernel
theorem dX6_disconnect_3 : decode cX6_disconnect 3 = .ok (.invokevirtual 87, 3) := by decide +kernel
theorem dX6_disconnect_6 : decode cX6_disconnect 6 = .ok (.aload_n 0, 1) := by decide +kernel
theorem dX6_disconnect_7 : decode cX6_disconnect 7 = .ok (.getfield 10, 3) := by decide +kernel
theorem dX6_disconnect_10 : decode cX6_disconnect 10 = .ok (.iload_n 1, 1) := by decide +kernel
theorem dX6_disconnect_11 : decode cX6_disconnect 11 = .ok (.iload_n 2, 1) := by decide +kernel
theorem dX6_disconnect_12 : decode cX6_disconnect 12 = .ok (.invokevirtual 90, 3) := by decide +kernel
theorem dX6_disconnect_15 : decode cX6_disconnect 15 = .ok (.aload_n 0, 1) := by decide +kernel
theorem dX6_disconnect_16 : decode cX6_disconnect 16 = .ok (.getfield 19, 3) := by decide +kernel
theorem dX6_disconnect_19 : decode cX6_disconnect 19 = .ok (.getfield 93, 3) := by decide +kernel
theorem dX6_disconnect_22 : decode cX6_disconnect 22 = .ok (.iload_n 1, 1) := by decide +kernel
theorem dX6_disconnect_23 : decode cX6_disconnect 23 = .ok (.iaload, 1) := by decide +kernel
theorem dX6_disconnect_24 : decode cX6_disconnect 24 = .ok (.iload_n 2, 1) := by decide +kernel
theorem dX6_disconnect_25 : decode cX6_disconnect 25 = .ok (.if_icmp .eq 5, 3) := by decide +kernel
theorem dX6_disconnect_28 : decode cX6_disconnect 28 = .ok (.iconst 0, 1) := by decide +kernel
theorem dX6_disconnect_29 : decode cX6_disconnect 29 = .ok (.ireturn, 1) := by decide +kernel
theorem dX6_disconnect_30 : decode cX6_disconnect 30 = .ok (.aload_n 0, 1) := by decide +kernel
theorem dX6_disconnect_31 : decode cX6_disconnect 31 = .ok (.getfield 19, 3) := by decide +kernel
theorem dX6_disconnect_34 : decode cX6_disconnect 34 = .ok (.iload_n 1, 1) := by decide +kernel
theorem dX6_disconnect_35 : decode cX6_disconnect 35 = .ok (.iload_n 2, 1) := by decide +kernel
theorem dX6_disconnect_36 : decode cX6_disconnect 36 = .ok (.invokevirtual 97, 3) := by decide +kernel
theorem dX6_disconnect_39 : decode cX6_disconnect 39 = .ok (.aload_n 0, 1) := by decide +kernel
theorem dX6_disconnect_40 : decode cX6_disconnect 40 = .ok (.getfield 26, 3) := by decide +kernel
theorem dX6_disconnect_43 : decode cX6_disconnect 43 = .ok (.aload_n 0, 1) := by decide +kernel
theorem dX6_disconnect_44 : decode cX6_disconnect 44 = .ok (.getfield 10, 3) := by decide +kernel
theorem dX6_disconnect_47 : decode cX6_disconnect 47 = .ok (.aload_n 0, 1) := by decide +kernel
theorem dX6_disconnect_48 : decode cX6_disconnect 48 = .ok (.getfield 19, 3) := by decide +kernel
theorem dX6_disconnect_51 : decode cX6_disconnect 51 = .ok (.invokevirtual 83, 3) := by decide +kernel
theorem dX6_disconnect_54 : decode cX6_disconnect 54 = .ok (.ifCond .ne 7, 3) := by decide +kernel
theorem dX6_disconnect_57 : decode cX6_disconnect 57 = .ok (.iconst 1, 1) := by decide +kernel
theorem dX6_disconnect_58 : decode cX6_disconnect 58 = .ok (.goto 4, 3) := by decide +kernel
theorem dX6_disconnect_61 : decode cX6_disconnect 61 = .ok (.iconst 0, 1) := by decide +kernel
theorem dX6_disconnect_62 : decode cX6_disconnect 62 = .ok (.ireturn, 1) := by decide +kernel
set_option maxRecDepth 20000 in
theorem ggX6_hasEdge_X6_requireBoth : GoodIn wsX6_hasEdge wsX6_requireBoth := goodIn_ca (goodIn_r _ [6, 7, 8, 9, 5, 10, 11, 12, 1, 13, 14, 15, 16, 17, 18, 27, 28, 29, 30, 31, 32, 33, 34, 35, 36, 37] (by decide +kernel) (by decide +kernel)) (goodIn_sub (fun _ h => List.mem_cons_of_mem _ (List.mem_append_right _ h)) (by decide +kernel))
set_option maxRecDepth 20000 in
theorem gX6_hasEdge_X6_requireBoth : GoodIn wsX6_hasEdge (wsV RX6 70 RX6 yX6_requireBoth wsX6_requireBoth) := goodIn_app (goodIn_of _ (by decide +kernel)) ggX6_hasEdge_X6_requireBoth
set_option maxRecDepth 20000 in
theorem ggX6_hasEdge_X1_has : GoodIn wsX6_hasEdge wsX1_has := goodIn_r _ [23, 24, 25, 5, 26, 33, 34, 35, 36, 37] (by decide +kernel) (by decide +kernel)
set_option maxRecDepth 20000 in
theorem gX6_hasEdge_X1_has : GoodIn wsX6_hasEdge (wsV RX6 74 RX1 yX1_has wsX1_has) := goodIn_app (goodIn_of _ (by decide +kernel)) ggX6_hasEdge_X1_has
theorem dX6_hasEdge_0 : decode cX6_hasEdge 0 = .ok (.aload_n 0, 1) := by decide +kernel
theorem dX6_hasEdge_1 : decode cX6_hasEdge 1 = .ok (.iload_n 1, 1) := by decide +kernel
theorem dX6_hasEdge_2 : decode cX6_hasEdge 2 = .ok (.iload_n 2, 1) := by decide +kernel
theorem dX6_hasEdge_3 : decode cX6_hasEdge 3 = .ok (.invokevirtual 70, 3) := by decide +kernel
theorem dX6_hasEdge_6 : decode cX6_hasEdge 6 = .ok (.aload_n 0, 1) := by decide +kernel
theorem dX6_hasEdge_7 : decode cX6_hasEdge 7 = .ok (.getfield 10, 3) := by decide +kernel
theorem dX6_hasEdge_10 : decode cX6_hasEdge 10 = .ok (.iload_n 1, 1) := by decide +kernel
theorem dX6_hasEdge_11 : decode cX6_hasEdge 11 = .ok (.iload_n 2, 1) := by decide +kernel
theorem dX6_hasEdge_12 : decode cX6_hasEdge 12 = .ok (.invokevirtual 74, 3) := by decide +kernel
theorem dX6_hasEdge_15 : decode cX6_hasEdge 15 = .ok (.ireturn, 1) := by decide +kernel
theorem dX6_size_0 : decode cX6_size 0 = .ok (.aload_n 0, 1) := by decide +kernel
theorem dX6_size_1 : decode cX6_size 1 = .ok (.getfield 19, 3) := by decide +kernel
theorem dX6_size_4 : decode cX6_size 4 = .ok (.getfield 100, 3) := by decide +kernel
theorem dX6_size_7 : decode cX6_size 7 = .ok (.ireturn, 1) := by decide +kernel
set_option maxRecDepth 20000 in
theorem ggX6_partnerOfLeft_X6_requireLeft : GoodIn wsX6_partnerOfLeft wsX6_requireLeft := goodIn_ca (goodIn_r _ [9, 10, 11, 12, 13, 14, 15, 16, 17, 18, 19, 23, 24, 25, 26, 27] (by decide +kernel) (by decide +kernel)) (goodIn_sub (fun _ h => List.mem_cons_of_mem _ (List.mem_append_right _ h)) (by decide +kernel))
set_option maxRecDepth 20000 in
theorem gX6_partnerOfLeft_X6_requireLeft : GoodIn wsX6_partnerOfLeft (wsV RX6 103 RX6 yX6_requireLeft wsX6_requireLeft) := goodIn_app (goodIn_of _ (by decide +kernel)) ggX6_partnerOfLeft_X6_requireLeft
theorem dX6_partnerOfLeft_0 : decode cX6_partnerOfLeft 0 = .ok (.aload_n 0, 1) := by decide +kernel
theorem dX6_partnerOfLeft_1 : decode cX6_partnerOfLeft 1 = .ok (.iload_n 1, 1) := by decide +kernel
theorem dX6_partnerOfLeft_2 : decode cX6_partnerOfLeft 2 = .ok (.invokevirtual 103, 3) := by decide +kernel
theorem dX6_partnerOfLeft_5 : decode cX6_partnerOfLeft 5 = .ok (.aload_n 0, 1) := by decide +kernel
theorem dX6_partnerOfLeft_6 : decode cX6_partnerOfLeft 6 = .ok (.getfield 19, 3) := by decide +kernel
theorem dX6_partnerOfLeft_9 : decode cX6_partnerOfLeft 9 = .ok (.getfield 93, 3) := by decide +kernel
theorem dX6_partnerOfLeft_12 : decode cX6_partnerOfLeft 12 = .ok (.iload_n 1, 1) := by decide +kernel
theorem dX6_partnerOfLeft_13 : decode cX6_partnerOfLeft 13 = .ok (.iaload, 1) := by decide +kernel
theorem dX6_partnerOfLeft_14 : decode cX6_partnerOfLeft 14 = .ok (.istore_n 2, 1) := by decide +kernel
theorem dX6_partnerOfLeft_15 : decode cX6_partnerOfLeft 15 = .ok (.iload_n 2, 1) := by decide +kernel
theorem dX6_partnerOfLeft_16 : decode cX6_partnerOfLeft 16 = .ok (.iconst (-1), 1) := by decide +kernel
theorem dX6_partnerOfLeft_17 : decode cX6_partnerOfLeft 17 = .ok (.if_icmp .ne 13, 3) := by decide +kernel
theorem dX6_partnerOfLeft_20 : decode cX6_partnerOfLeft 20 = .ok (.new 107, 3) := by decide +kernel
theorem dX6_partnerOfLeft_23 : decode cX6_partnerOfLeft 23 = .ok (.dup, 1) := by decide +kernel
theorem dX6_partnerOfLeft_24 : decode cX6_partnerOfLeft 24 = .ok (.ldc 109, 2) := by decide +kernel
theorem dX6_partnerOfLeft_26 : decode cX6_partnerOfLeft 26 = .ok (.invokespecial 111, 3) := by decide +kernel
theorem dX6_partnerOfLeft_29 : decode cX6_partnerOfLeft 29 = .ok (.athrow, 1) := by decide +kernel
theorem dX6_partnerOfLeft_30 : decode cX6_partnerOfLeft 30 = .ok (.iload_n 2, 1) := by decide +kernel
theorem dX6_partnerOfLeft_31 : decode cX6_partnerOfLeft 31 = .ok (.ireturn, 1) := by decide +kernel
set_option maxRecDepth 20000 in
theorem ggX6_partnerOfRight_X6_requireRight : GoodIn wsX6_partnerOfRight wsX6_requireRight := goodIn_ca (goodIn_r _ [9, 10, 11, 12, 13, 14, 15, 16, 17, 18, 19, 23, 24, 25, 26, 27] (by decide +kernel) (by decide +kernel)) (goodIn_sub (fun _ h => List.mem_cons_of_mem _ (List.mem_append_right _ h)) (by decide +kernel))
set_option maxRecDepth 20000 in
theorem gX6_partnerOfRight_X6_requireRight : GoodIn wsX6_partnerOfRight (wsV RX6 112 RX6 yX6_requireRight wsX6_requireRight) := goodIn_app (goodIn_of _ (by decide +kernel)) ggX6_partnerOfRight_X6_requireRight
theorem dX6_partnerOfRight_0 : decode cX6_partnerOfRight 0 = .ok (.aload_n 0, 1) := by decide +kernel
theorem dX6_partnerOfRight_1 : decode cX6_partnerOfRight 1 = .ok (.iload_n 1, 1) := by decide +kernel
theorem dX6_partnerOfRight_2 : decode cX6_partnerOfRight 2 = .ok (.invokevirtual 112, 3) := by decide +kernel
theorem dX6_partnerOfRight_5 : decode cX6_partnerOfRight 5 = .ok (.aload_n 0, 1) := by decide +kernel
theorem dX6_partnerOfRight_6 : decode cX6_partnerOfRight 6 = .ok (.getfield 19, 3) := by decide +kernel
theorem dX6_partnerOfRight_9 : decode cX6_partnerOfRight 9 = .ok (.getfield 115, 3) := by decide +kernel
theorem dX6_partnerOfRight_12 : decode cX6_partnerOfRight 12 = .ok (.iload_n 1, 1) := by decide +kernel
theorem dX6_partnerOfRight_13 : decode cX6_partnerOfRight 13 = .ok (.iaload, 1) := by decide +kernel
theorem dX6_partnerOfRight_14 : decode cX6_partnerOfRight 14 = .ok (.istore_n 2, 1) := by decide +kernel
theorem dX6_partnerOfRight_15 : decode cX6_partnerOfRight 15 = .ok (.iload_n 2, 1) := by decide +kernel
theorem dX6_partnerOfRight_16 : decode cX6_partnerOfRight 16 = .ok (.iconst (-1), 1) := by decide +kernel
theorem dX6_partnerOfRight_17 : decode cX6_partnerOfRight 17 = .ok (.if_icmp .ne 13, 3) := by decide +kernel
theorem dX6_partnerOfRight_20 : decode cX6_partnerOfRight 20 = .ok (.new 107, 3) := by decide +kernel
theorem dX6_partnerOfRight_23 : decode cX6_partnerOfRight 23 = .ok (.dup, 1) := by decide +kernel
theorem dX6_partnerOfRight_24 : decode cX6_partnerOfRight 24 = .ok (.ldc 118, 2) := by decide +kernel
theorem dX6_partnerOfRight_26 : decode cX6_partnerOfRight 26 = .ok (.invokespecial 111, 3) := by decide +kernel
theorem dX6_partnerOfRight_29 : decode cX6_partnerOfRight 29 = .ok (.athrow, 1) := by decide +kernel
theorem dX6_partnerOfRight_30 : decode cX6_partnerOfRight 30 = .ok (.iload_n 2, 1) := by decide +kernel
theorem dX6_partnerOfRight_31 : decode cX6_partnerOfRight 31 = .ok (.ireturn, 1) := by decide +kernel
set_option maxRecDepth 20000 in
theorem ggX6_phases_X4_build : GoodIn wsX6_phases wsX4_build := goodIn_r _ [8, 9, 10, 11, 12, 13, 14, 15, 16, 17, 18, 19, 20, 21, 22, 23, 24, 25, 26, 27, 28, 7, 29, 30, 31, 32, 33, 34, 35, 36, 37, 38, 39, 40, 41, 42, 43, 44, 45, 46, 47, 48, 49, 50, 51, 52, 53, 54, 55, 56, 57, 58, 59, 60, 61, 62, 63, 64, 65, 66, 67, 68, 69, 70, 71, 72, 73, 74, 75, 76, 77, 78, 79, 86, 87, 88, 89, 90, 91, 92, 93, 94, 95, 96, 97, 98, 99, 100] (by decide +kernel) (by decide +kernel)
set_option maxRecDepth 20000 in
theorem gX6_phases_X4_build : GoodIn wsX6_phases (wsV RX6 120 RX4 yX4_build wsX4_build) := goodIn_app (goodIn_of _ (by decide +kernel)) ggX6_phases_X4_build
theorem dX6_phases_0 : decode cX6_phases 0 = .ok (.aload_n 0, 1) := by decide +kernel
theorem dX6_phases_1 : decode cX6_phases 1 = .ok (.getfield 33, 3) := by decide +kernel
theorem dX6_phases_4 : decode cX6_phases 4 = .ok (.aload_n 0, 1) := by decide +kernel
theorem dX6_phases_5 : decode cX6_phases 5 = .ok (.getfield 10, 3) := by decide +kernel
theorem dX6_phases_8 : decode cX6_phases 8 = .ok (.invokevirtual 120, 3) := by decide +kernel
theorem dX6_phases_11 : decode cX6_phases 11 = .ok (.aload_n 0, 1) := by decide +kernel
theorem dX6_phases_12 : decode cX6_phases 12 = .ok (.getfield 33, 3) := by decide +kernel
theorem dX6_phases_15 : decode cX6_phases 15 = .ok (.getfield 124, 3) := by decide +kernel
theorem dX6_phases_18 : decode cX6_phases 18 = .ok (.ireturn, 1) := by decide +kernel
set_option maxRecDepth 20000 in
theorem ggX6_depthOf_X4_build : GoodIn wsX6_depthOf wsX4_build := goodIn_r _ [8, 9, 10, 11, 12, 13, 14, 15, 16, 17, 18, 19, 20, 21, 22, 23, 24, 25, 26, 27, 28, 7, 29, 30, 31, 32, 33, 34, 35, 36, 37, 38, 39, 40, 41, 42, 43, 44, 45, 46, 47, 48, 49, 50, 51, 52, 53, 54, 55, 56, 57, 58, 59, 60, 61, 62, 63, 64, 65, 66, 67, 68, 69, 70, 71, 72, 73, 74, 75, 76, 77, 78, 79, 93, 94, 95, 96, 97, 98, 99, 100, 101, 102, 103, 104, 105, 106, 107] (by decide +kernel) (by decide +kernel)
set_option maxRecDepth 20000 in
theorem gX6_depthOf_X4_build : GoodIn wsX6_depthOf (wsV RX6 120 RX4 yX4_build wsX4_build) := goodIn_app (goodIn_of _ (by decide +kernel)) ggX6_depthOf_X4_build
set_option maxRecDepth 20000 in
theorem ggX6_depthOf_X6_requirePhase : GoodIn wsX6_depthOf wsX6_requirePhase := goodIn_ca (goodIn_r _ [83, 84, 85, 1, 86, 87, 88, 89, 90, 91, 92, 93, 94, 95, 96, 97, 98, 99] (by decide +kernel) (by decide +kernel)) (goodIn_sub (fun _ h => List.mem_cons_of_mem _ (List.mem_append_right _ h)) (by decide +kernel))
set_option maxRecDepth 20000 in
theorem gX6_depthOf_X6_requirePhase : GoodIn wsX6_depthOf (wsV RX6 127 RX6 yX6_requirePhase wsX6_requirePhase) := goodIn_app (goodIn_of _ (by decide +kernel)) ggX6_depthOf_X6_requirePhase
theorem dX6_depthOf_0 : decode cX6_depthOf 0 = .ok (.aload_n 0, 1) := by decide +kernel
theorem dX6_depthOf_1 : decode cX6_depthOf 1 = .ok (.getfield 33, 3) := by decide +kernel
theorem dX6_depthOf_4 : decode cX6_depthOf 4 = .ok (.aload_n 0, 1) := by decide +kernel
theorem dX6_depthOf_5 : decode cX6_depthOf 5 = .ok (.getfield 10, 3) := by decide +kernel
theorem dX6_depthOf_8 : decode cX6_depthOf 8 = .ok (.invokevirtual 120, 3) := by decide +kernel
theorem dX6_depthOf_11 : decode cX6_depthOf 11 = .ok (.aload_n 0, 1) := by decide +kernel
theorem dX6_depthOf_12 : decode cX6_depthOf 12 = .ok (.iload_n 1, 1) := by decide +kernel
theorem dX6_depthOf_13 : decode cX6_depthOf 13 = .ok (.invokevirtual 127, 3) := by decide +kernel
theorem dX6_depthOf_16 : decode cX6_depthOf 16 = .ok (.aload_n 0, 1) := by decide +kernel
theorem dX6_depthOf_17 : decode cX6_depthOf 17 = .ok (.getfield 33, 3) := by decide +kernel
theorem dX6_depthOf_20 : decode cX6_depthOf 20 = .ok (.getfield 130, 3) := by decide +kernel
theorem dX6_depthOf_23 : decode cX6_depthOf 23 = .ok (.iload_n 1, 1) := by decide +kernel
theorem dX6_depthOf_24 : decode cX6_depthOf 24 = .ok (.iaload, 1) := by decide +kernel
theorem dX6_depthOf_25 : decode cX6_depthOf 25 = .ok (.ireturn, 1) := by decide +kernel
set_option maxRecDepth 20000 in
theorem ggX6_pathsOf_X4_build : GoodIn wsX6_pathsOf wsX4_build := goodIn_r _ [8, 9, 10, 11, 12, 13, 14, 15, 16, 17, 18, 19, 20, 21, 22, 23, 24, 25, 26, 27, 28, 7, 29, 30, 31, 32, 33, 34, 35, 36, 37, 38, 39, 40, 41, 42, 43, 44, 45, 46, 47, 48, 49, 50, 51, 52, 53, 54, 55, 56, 57, 58, 59, 60, 61, 62, 63, 64, 65, 66, 67, 68, 69, 70, 71, 72, 73, 74, 75, 76, 77, 78, 79, 93, 94, 95, 96, 97, 98, 99, 100, 101, 102, 103, 104, 105, 106, 107] (by decide +kernel) (by decide +kernel)
set_option maxRecDepth 20000 in
theorem gX6_pathsOf_X4_build : GoodIn wsX6_pathsOf (wsV RX6 120 RX4 yX4_build wsX4_build) := goodIn_app (goodIn_of _ (by decide +kernel)) ggX6_pathsOf_X4_build
set_option maxRecDepth 20000 in
theorem ggX6_pathsOf_X6_requirePhase : GoodIn wsX6_pathsOf wsX6_requirePhase := goodIn_ca (goodIn_r _ [83, 84, 85, 1, 86, 87, 88, 89, 90, 91, 92, 93, 94, 95, 96, 97, 98, 99] (by decide +kernel) (by decide +kernel)) (goodIn_sub (fun _ h => List.mem_cons_of_mem _ (List.mem_append_right _ h)) (by decide +kernel))
set_option maxRecDepth 20000 in
theorem gX6_pathsOf_X6_requirePhase : GoodIn wsX6_pathsOf (wsV RX6 127 RX6 yX6_requirePhase wsX6_requirePhase) := goodIn_app (goodIn_of _ (by decide +kernel)) ggX6_pathsOf_X6_requirePhase
theorem dX6_pathsOf_0 : decode cX6_pathsOf 0 = .ok (.aload_n 0, 1) := by decide +kernel
theorem dX6_pathsOf_1 : decode cX6_pathsOf 1 = .ok (.getfield 33, 3) := by decide +kernel
theorem dX6_pathsOf_4 : decode cX6_pathsOf 4 = .ok (.aload_n 0, 1) := by decide +kernel
theorem dX6_pathsOf_5 : decode cX6_pathsOf 5 = .ok (.getfield 10, 3) := by decide +kernel
theorem dX6_pathsOf_8 : decode cX6_pathsOf 8 = .ok (.invokevirtual 120, 3) := by decide +kernel
theorem dX6_pathsOf_11 : decode cX6_pathsOf 11 = .ok (.aload_n 0, 1) := by decide +kernel
theorem dX6_pathsOf_12 : decode cX6_pathsOf 12 = .ok (.iload_n 1, 1) := by decide +kernel
theorem dX6_pathsOf_13 : decode cX6_pathsOf 13 = .ok (.invokevirtual 127, 3) := by decide +kernel
theorem dX6_pathsOf_16 : decode cX6_pathsOf 16 = .ok (.aload_n 0, 1) := by decide +kernel
theorem dX6_pathsOf_17 : decode cX6_pathsOf 17 = .ok (.getfield 33, 3) := by decide +kernel
theorem dX6_pathsOf_20 : decode cX6_pathsOf 20 = .ok (.getfield 133, 3) := by decide +kernel
theorem dX6_pathsOf_23 : decode cX6_pathsOf 23 = .ok (.iload_n 1, 1) := by decide +kernel
theorem dX6_pathsOf_24 : decode cX6_pathsOf 24 = .ok (.iaload, 1) := by decide +kernel
theorem dX6_pathsOf_25 : decode cX6_pathsOf 25 = .ok (.ireturn, 1) := by decide +kernel
set_option maxRecDepth 20000 in
theorem ggX6_rebuild_X4_build : GoodIn wsX6_rebuild wsX4_build := goodIn_r _ [11, 12, 13, 14, 15, 16, 17, 18, 19, 20, 21, 22, 23, 24, 25, 26, 27, 28, 29, 30, 31, 10, 32, 33, 34, 35, 36, 37, 38, 39, 40, 41, 42, 43, 44, 45, 46, 47, 48, 49, 50, 51, 52, 53, 54, 55, 56, 57, 58, 59, 60, 61, 62, 63, 64, 65, 66, 67, 68, 69, 70, 71, 72, 73, 74, 75, 76, 77, 78, 79, 80, 81, 82, 105, 106, 107, 108, 109, 110, 111, 102, 103, 104, 97, 98, 99, 100, 101] (by decide +kernel) (by decide +kernel)
set_option maxRecDepth 20000 in
theorem gX6_rebuild_X4_build : GoodIn wsX6_rebuild (wsV RX6 120 RX4 yX4_build wsX4_build) := goodIn_app (goodIn_of _ (by decide +kernel)) ggX6_rebuild_X4_build
set_option maxRecDepth 20000 in
theorem ggX6_rebuild_X2_become : GoodIn wsX6_rebuild wsX2_become := goodIn_r _ [86, 22, 87, 88, 89, 90, 23, 24, 102, 103, 104] (by decide +kernel) (by decide +kernel)
set_option maxRecDepth 20000 in
theorem gX6_rebuild_X2_become : GoodIn wsX6_rebuild (wsV RX6 139 RX2 yX2_become wsX2_become) := goodIn_app (goodIn_of _ (by decide +kernel)) ggX6_rebuild_X2_become
theorem dX6_rebuild_0 : decode cX6_rebuild 0 = .ok (.aload_n 0, 1) := by decide +kernel
theorem dX6_rebuild_1 : decode cX6_rebuild 1 = .ok (.getfield 33, 3) := by decide +kernel
theorem dX6_rebuild_4 : decode cX6_rebuild 4 = .ok (.aload_n 0, 1) := by decide +kernel
theorem dX6_rebuild_5 : decode cX6_rebuild 5 = .ok (.getfield 10, 3) := by decide +kernel
theorem dX6_rebuild_8 : decode cX6_rebuild 8 = .ok (.invokevirtual 120, 3) := by decide +kernel
theorem dX6_rebuild_11 : decode cX6_rebuild 11 = .ok (.iconst 0, 1) := by decide +kernel
theorem dX6_rebuild_12 : decode cX6_rebuild 12 = .ok (.istore_n 1, 1) := by decide +kernel
theorem dX6_rebuild_13 : decode cX6_rebuild 13 = .ok (.iconst 0, 1) := by decide +kernel
theorem dX6_rebuild_14 : decode cX6_rebuild 14 = .ok (.istore_n 2, 1) := by decide +kernel
theorem dX6_rebuild_15 : decode cX6_rebuild 15 = .ok (.iload_n 2, 1) := by decide +kernel
theorem dX6_rebuild_16 : decode cX6_rebuild 16 = .ok (.aload_n 0, 1) := by decide +kernel
theorem dX6_rebuild_17 : decode cX6_rebuild 17 = .ok (.getfield 10, 3) := by decide +kernel
theorem dX6_rebuild_20 : decode cX6_rebuild 20 = .ok (.getfield 51, 3) := by decide +kernel
theorem dX6_rebuild_23 : decode cX6_rebuild 23 = .ok (.if_icmp .ge 36, 3) := by decide +kernel
theorem dX6_rebuild_26 : decode cX6_rebuild 26 = .ok (.aload_n 0, 1) := by decide +kernel
theorem dX6_rebuild_27 : decode cX6_rebuild 27 = .ok (.getfield 19, 3) := by decide +kernel
theorem dX6_rebuild_30 : decode cX6_rebuild 30 = .ok (.getfield 93, 3) := by decide +kernel
theorem dX6_rebuild_33 : decode cX6_rebuild 33 = .ok (.iload_n 2, 1) := by decide +kernel
theorem dX6_rebuild_34 : decode cX6_rebuild 34 = .ok (.iaload, 1) := by decide +kernel
theorem dX6_rebuild_35 : decode cX6_rebuild 35 = .ok (.aload_n 0, 1) := by decide +kernel
theorem dX6_rebuild_36 : decode cX6_rebuild 36 = .ok (.getfield 33, 3) := by decide +kernel
theorem dX6_rebuild_39 : decode cX6_rebuild 39 = .ok (.getfield 136, 3) := by decide +kernel
theorem dX6_rebuild_42 : decode cX6_rebuild 42 = .ok (.getfield 93, 3) := by decide +kernel
theorem dX6_rebuild_45 : decode cX6_rebuild 45 = .ok (.iload_n 2, 1) := by decide +kernel
theorem dX6_rebuild_46 : decode cX6_rebuild 46 = .ok (.iaload, 1) := by decide +kernel
theorem dX6_rebuild_47 : decode cX6_rebuild 47 = .ok (.if_icmp .eq 6, 3) := by decide +kernel
theorem dX6_rebuild_50 : decode cX6_rebuild 50 = .ok (.iinc 1 1, 3) := by decide +kernel
theorem dX6_rebuild_53 : decode cX6_rebuild 53 = .ok (.iinc 2 1, 3) := by decide +kernel
theorem dX6_rebuild_56 : decode cX6_rebuild 56 = .ok (.goto (-41), 3) := by decide +kernel
theorem dX6_rebuild_59 : decode cX6_rebuild 59 = .ok (.aload_n 0, 1) := by decide +kernel
theorem dX6_rebuild_60 : decode cX6_rebuild 60 = .ok (.getfield 19, 3) := by decide +kernel
theorem dX6_rebuild_63 : decode cX6_rebuild 63 = .ok (.aload_n 0, 1) := by decide +kernel
theorem dX6_rebuild_64 : decode cX6_rebuild 64 = .ok (.getfield 33, 3) := by decide +kernel
theorem dX6_rebuild_67 : decode cX6_rebuild 67 = .ok (.getfield 136, 3) := by decide +kernel
theorem dX6_rebuild_70 : decode cX6_rebuild 70 = .ok (.invokevirtual 139, 3) := by decide +kernel
theorem dX6_rebuild_73 : decode cX6_rebuild 73 = .ok (.iload_n 1, 1) := by decide +kernel
theorem dX6_rebuild_74 : decode cX6_rebuild 74 = .ok (.ireturn, 1) := by decide +kernel
set_option maxRecDepth 20000 in
theorem ggX6_partOfLeft_X6_requireLeft : GoodIn wsX6_partOfLeft wsX6_requireLeft := goodIn_ca (goodIn_r _ [8, 9, 10, 2, 11, 61, 62, 63, 64, 65, 66, 67, 68, 69, 70, 71] (by decide +kernel) (by decide +kernel)) (goodIn_sub (fun _ h => List.mem_cons_of_mem _ (List.mem_append_right _ h)) (by decide +kernel))
set_option maxRecDepth 20000 in
theorem gX6_partOfLeft_X6_requireLeft : GoodIn wsX6_partOfLeft (wsV RX6 103 RX6 yX6_requireLeft wsX6_requireLeft) := goodIn_app (goodIn_of _ (by decide +kernel)) ggX6_partOfLeft_X6_requireLeft
set_option maxRecDepth 20000 in
theorem ggX6_partOfLeft_X0_divide : GoodIn wsX6_partOfLeft wsX0_divide := goodIn_r _ [16, 17, 18, 19, 20, 21, 22, 23, 24, 25, 26, 27, 28, 29, 30, 31, 32, 33, 34, 35, 36, 37, 38, 39, 40, 41, 42, 15, 43, 44, 7, 45, 46, 47, 48, 49, 50, 51, 52, 53, 67, 68, 69, 70, 71, 72, 73, 74, 75, 76, 77, 78, 79] (by decide +kernel) (by decide +kernel)
set_option maxRecDepth 20000 in
theorem gX6_partOfLeft_X0_divide : GoodIn wsX6_partOfLeft (wsV RX6 143 RX0 yX0_divide wsX0_divide) := goodIn_app (goodIn_of _ (by decide +kernel)) ggX6_partOfLeft_X0_divide
set_option maxRecDepth 20000 in
theorem ggX6_partOfLeft_X0_leftPart : GoodIn wsX6_partOfLeft wsX0_leftPart := goodIn_r _ [57, 18, 25, 58, 59, 15, 60, 44, 7, 45, 72, 73, 74, 75, 76] (by decide +kernel) (by decide +kernel)
set_option maxRecDepth 20000 in
theorem gX6_partOfLeft_X0_leftPart : GoodIn wsX6_partOfLeft (wsV RX6 147 RX0 yX0_leftPart wsX0_leftPart) := goodIn_app (goodIn_of _ (by decide +kernel)) ggX6_partOfLeft_X0_leftPart
theorem dX6_partOfLeft_0 : decode cX6_partOfLeft 0 = .ok (.aload_n 0, 1) := by decide +kernel
theorem dX6_partOfLeft_1 : decode cX6_partOfLeft 1 = .ok (.iload_n 1, 1) := by decide +kernel
theorem dX6_partOfLeft_2 : decode cX6_partOfLeft 2 = .ok (.invokevirtual 103, 3) := by decide +kernel
theorem dX6_partOfLeft_5 : decode cX6_partOfLeft 5 = .ok (.aload_n 0, 1) := by decide +kernel
theorem dX6_partOfLeft_6 : decode cX6_partOfLeft 6 = .ok (.getfield 40, 3) := by decide +kernel
theorem dX6_partOfLeft_9 : decode cX6_partOfLeft 9 = .ok (.aload_n 0, 1) := by decide +kernel
theorem dX6_partOfLeft_10 : decode cX6_partOfLeft 10 = .ok (.getfield 10, 3) := by decide +kernel
theorem dX6_partOfLeft_13 : decode cX6_partOfLeft 13 = .ok (.aload_n 0, 1) := by decide +kernel
theorem dX6_partOfLeft_14 : decode cX6_partOfLeft 14 = .ok (.getfield 19, 3) := by decide +kernel
theorem dX6_partOfLeft_17 : decode cX6_partOfLeft 17 = .ok (.invokevirtual 143, 3) := by decide +kernel
theorem dX6_partOfLeft_20 : decode cX6_partOfLeft 20 = .ok (.aload_n 0, 1) := by decide +kernel
theorem dX6_partOfLeft_21 : decode cX6_partOfLeft 21 = .ok (.getfield 40, 3) := by decide +kernel
theorem dX6_partOfLeft_24 : decode cX6_partOfLeft 24 = .ok (.iload_n 1, 1) := by decide +kernel
theorem dX6_partOfLeft_25 : decode cX6_partOfLeft 25 = .ok (.invokevirtual 147, 3) := by decide +kernel
theorem dX6_partOfLeft_28 : decode cX6_partOfLeft 28 = .ok (.ireturn, 1) := by decide +kernel
set_option maxRecDepth 20000 in
theorem ggX6_partOfRight_X6_requireRight : GoodIn wsX6_partOfRight wsX6_requireRight := goodIn_ca (goodIn_r _ [8, 9, 10, 2, 11, 61, 62, 63, 64, 65, 66, 67, 68, 69, 70, 71] (by decide +kernel) (by decide +kernel)) (goodIn_sub (fun _ h => List.mem_cons_of_mem _ (List.mem_append_right _ h)) (by decide +kernel))
set_option maxRecDepth 20000 in
theorem gX6_partOfRight_X6_requireRight : GoodIn wsX6_partOfRight (wsV RX6 112 RX6 yX6_requireRight wsX6_requireRight) := goodIn_app (goodIn_of _ (by decide +kernel)) ggX6_partOfRight_X6_requireRight
set_option maxRecDepth 20000 in
theorem ggX6_partOfRight_X0_divide : GoodIn wsX6_partOfRight wsX0_divide := goodIn_r _ [16, 17, 18, 19, 20, 21, 22, 23, 24, 25, 26, 27, 28, 29, 30, 31, 32, 33, 34, 35, 36, 37, 38, 39, 40, 41, 42, 15, 43, 44, 7, 45, 46, 47, 48, 49, 50, 51, 52, 53, 67, 68, 69, 70, 71, 72, 73, 74, 75, 76, 77, 78, 79] (by decide +kernel) (by decide +kernel)
set_option maxRecDepth 20000 in
theorem gX6_partOfRight_X0_divide : GoodIn wsX6_partOfRight (wsV RX6 143 RX0 yX0_divide wsX0_divide) := goodIn_app (goodIn_of _ (by decide +kernel)) ggX6_partOfRight_X0_divide
set_option maxRecDepth 20000 in
theorem ggX6_partOfRight_X0_rightPart : GoodIn wsX6_partOfRight wsX0_rightPart := goodIn_r _ [57, 22, 20, 58, 59, 15, 60, 44, 7, 45, 72, 73, 74, 75, 76] (by decide +kernel) (by decide +kernel)
set_option maxRecDepth 20000 in
theorem gX6_partOfRight_X0_rightPart : GoodIn wsX6_partOfRight (wsV RX6 151 RX0 yX0_rightPart wsX0_rightPart) := goodIn_app (goodIn_of _ (by decide +kernel)) ggX6_partOfRight_X0_rightPart
theorem dX6_partOfRight_0 : decode cX6_partOfRight 0 = .ok (.aload_n 0, 1) := by decide +kernel
theorem dX6_partOfRight_1 : decode cX6_partOfRight 1 = .ok (.iload_n 1, 1) := by decide +kernel
theorem dX6_partOfRight_2 : decode cX6_partOfRight 2 = .ok (.invokevirtual 112, 3) := by decide +kernel
theorem dX6_partOfRight_5 : decode cX6_partOfRight 5 = .ok (.aload_n 0, 1) := by decide +kernel
theorem dX6_partOfRight_6 : decode cX6_partOfRight 6 = .ok (.getfield 40, 3) := by decide +kernel
theorem dX6_partOfRight_9 : decode cX6_partOfRight 9 = .ok (.aload_n 0, 1) := by decide +kernel
theorem dX6_partOfRight_10 : decode cX6_partOfRight 10 = .ok (.getfield 10, 3) := by decide +kernel
theorem dX6_partOfRight_13 : decode cX6_partOfRight 13 = .ok (.aload_n 0, 1) := by decide +kernel
theorem dX6_partOfRight_14 : decode cX6_partOfRight 14 = .ok (.getfield 19, 3) := by decide +kernel
theorem dX6_partOfRight_17 : decode cX6_partOfRight 17 = .ok (.invokevirtual 143, 3) := by decide +kernel
theorem dX6_partOfRight_20 : decode cX6_partOfRight 20 = .ok (.aload_n 0, 1) := by decide +kernel
theorem dX6_partOfRight_21 : decode cX6_partOfRight 21 = .ok (.getfield 40, 3) := by decide +kernel
theorem dX6_partOfRight_24 : decode cX6_partOfRight 24 = .ok (.iload_n 1, 1) := by decide +kernel
theorem dX6_partOfRight_25 : decode cX6_partOfRight 25 = .ok (.invokevirtual 151, 3) := by decide +kernel
theorem dX6_partOfRight_28 : decode cX6_partOfRight 28 = .ok (.ireturn, 1) := by decide +kernel
set_option maxRecDepth 20000 in
theorem ggX6_fineParts_X0_divide : GoodIn wsX6_fineParts wsX0_divide := goodIn_r _ [9, 10, 11, 12, 13, 14, 15, 16, 17, 18, 19, 20, 21, 22, 23, 24, 25, 26, 27, 28, 29, 30, 31, 32, 33, 34, 35, 8, 36, 37, 38, 39, 40, 41, 42, 43, 44, 45, 46, 47, 69, 70, 71, 72, 73, 74, 75, 76, 77, 78, 79, 80, 81] (by decide +kernel) (by decide +kernel)
set_option maxRecDepth 20000 in
theorem gX6_fineParts_X0_divide : GoodIn wsX6_fineParts (wsV RX6 143 RX0 yX0_divide wsX0_divide) := goodIn_app (goodIn_of _ (by decide +kernel)) ggX6_fineParts_X0_divide
set_option maxRecDepth 20000 in
theorem ggX6_fineParts_X0_leftPart : GoodIn wsX6_fineParts wsX0_leftPart := goodIn_r _ [51, 11, 18, 52, 53, 8, 54, 37, 38, 39, 74, 75, 76, 77, 78] (by decide +kernel) (by decide +kernel)
set_option maxRecDepth 20000 in
theorem gX6_fineParts_X0_leftPart : GoodIn wsX6_fineParts (wsV RX6 147 RX0 yX0_leftPart wsX0_leftPart) := goodIn_app (goodIn_of _ (by decide +kernel)) ggX6_fineParts_X0_leftPart
set_option maxRecDepth 20000 in
theorem ggX6_fineParts_X0_fineSet : GoodIn wsX6_fineParts wsX0_fineSet := goodIn_r _ [58, 47, 37, 38, 39, 74, 75, 76, 77, 78] (by decide +kernel) (by decide +kernel)
set_option maxRecDepth 20000 in
theorem gX6_fineParts_X0_fineSet : GoodIn wsX6_fineParts (wsV RX6 154 RX0 yX0_fineSet wsX0_fineSet) := goodIn_app (goodIn_of _ (by decide +kernel)) ggX6_fineParts_X0_fineSet
set_option maxRecDepth 20000 in
theorem ggX6_fineParts_X6_lowest : GoodIn wsX6_fineParts wsX6_lowest := goodIn_r _ [61, 62, 37, 38, 39] (by decide +kernel) (by decide +kernel)
set_option maxRecDepth 20000 in
theorem gX6_fineParts_X6_lowest : GoodIn wsX6_fineParts (va_wsS RX6 157 yX6_lowest wsX6_lowest) := goodIn_app (goodIn_of _ (by decide +kernel)) ggX6_fineParts_X6_lowest
theorem dX6_fineParts_0 : decode cX6_fineParts 0 = .ok (.aload_n 0, 1) := by decide +kernel
theorem dX6_fineParts_1 : decode cX6_fineParts 1 = .ok (.getfield 40, 3) := by decide +kernel
theorem dX6_fineParts_4 : decode cX6_fineParts 4 = .ok (.aload_n 0, 1) := by decide +kernel
theorem dX6_fineParts_5 : decode cX6_fineParts 5 = .ok (.getfield 10, 3) := by decide +kernel
theorem dX6_fineParts_8 : decode cX6_fineParts 8 = .ok (.aload_n 0, 1) := by decide +kernel
theorem dX6_fineParts_9 : decode cX6_fineParts 9 = .ok (.getfield 19, 3) := by decide +kernel
theorem dX6_fineParts_12 : decode cX6_fineParts 12 = .ok (.invokevirtual 143, 3) := by decide +kernel
theorem dX6_fineParts_15 : decode cX6_fineParts 15 = .ok (.iconst 0, 1) := by decide +kernel
theorem dX6_fineParts_16 : decode cX6_fineParts 16 = .ok (.istore_n 1, 1) := by decide +kernel
theorem dX6_fineParts_17 : decode cX6_fineParts 17 = .ok (.iconst 0, 1) := by decide +kernel
theorem dX6_fineParts_18 : decode cX6_fineParts 18 = .ok (.istore_n 2, 1) := by decide +kernel
theorem dX6_fineParts_19 : decode cX6_fineParts 19 = .ok (.iload_n 2, 1) := by decide +kernel
theorem dX6_fineParts_20 : decode cX6_fineParts 20 = .ok (.aload_n 0, 1) := by decide +kernel
theorem dX6_fineParts_21 : decode cX6_fineParts 21 = .ok (.getfield 10, 3) := by decide +kernel
theorem dX6_fineParts_24 : decode cX6_fineParts 24 = .ok (.getfield 51, 3) := by decide +kernel
theorem dX6_fineParts_27 : decode cX6_fineParts 27 = .ok (.if_icmp .ge 39, 3) := by decide +kernel
theorem dX6_fineParts_30 : decode cX6_fineParts 30 = .ok (.aload_n 0, 1) := by decide +kernel
theorem dX6_fineParts_31 : decode cX6_fineParts 31 = .ok (.getfield 40, 3) := by decide +kernel
theorem dX6_fineParts_34 : decode cX6_fineParts 34 = .ok (.iload_n 2, 1) := by decide +kernel
theorem dX6_fineParts_35 : decode cX6_fineParts 35 = .ok (.invokevirtual 147, 3) := by decide +kernel
theorem dX6_fineParts_38 : decode cX6_fineParts 38 = .ok (.iconst 1, 1) := by decide +kernel
theorem dX6_fineParts_39 : decode cX6_fineParts 39 = .ok (.if_icmp .ne 21, 3) := by decide +kernel
theorem dX6_fineParts_42 : decode cX6_fineParts 42 = .ok (.aload_n 0, 1) := by decide +kernel
theorem dX6_fineParts_43 : decode cX6_fineParts 43 = .ok (.getfield 40, 3) := by decide +kernel
theorem dX6_fineParts_46 : decode cX6_fineParts 46 = .ok (.iload_n 2, 1) := by decide +kernel
theorem dX6_fineParts_47 : decode cX6_fineParts 47 = .ok (.invokevirtual 154, 3) := by decide +kernel
theorem dX6_fineParts_50 : decode cX6_fineParts 50 = .ok (.invokestatic 157, 3) := by decide +kernel
theorem dX6_fineParts_53 : decode cX6_fineParts 53 = .ok (.iload_n 2, 1) := by decide +kernel
theorem dX6_fineParts_54 : decode cX6_fineParts 54 = .ok (.if_icmp .ne 6, 3) := by decide +kernel
theorem dX6_fineParts_57 : decode cX6_fineParts 57 = .ok (.iinc 1 1, 3) := by decide +kernel
theorem dX6_fineParts_60 : decode cX6_fineParts 60 = .ok (.iinc 2 1, 3) := by decide +kernel
theorem dX6_fineParts_63 : decode cX6_fineParts 63 = .ok (.goto (-44), 3) := by decide +kernel
theorem dX6_fineParts_66 : decode cX6_fineParts 66 = .ok (.iload_n 1, 1) := by decide +kernel
theorem dX6_fineParts_67 : decode cX6_fineParts 67 = .ok (.ireturn, 1) := by decide +kernel
set_option maxRecDepth 20000 in
theorem ggX6_finePart_X6_requireLeft : GoodIn wsX6_finePart wsX6_requireLeft := goodIn_ca (goodIn_r _ [8, 9, 10, 2, 11, 75, 76, 77, 78, 79, 80, 81, 82, 83, 84, 85] (by decide +kernel) (by decide +kernel)) (goodIn_sub (fun _ h => List.mem_cons_of_mem _ (List.mem_append_left _ (List.mem_append_right _ h))) (by decide +kernel))
set_option maxRecDepth 20000 in
theorem gX6_finePart_X6_requireLeft : GoodIn wsX6_finePart (wsV RX6 103 RX6 yX6_requireLeft wsX6_requireLeft) := goodIn_app (goodIn_of _ (by decide +kernel)) ggX6_finePart_X6_requireLeft
set_option maxRecDepth 20000 in
theorem ggX6_finePart_X0_divide : GoodIn wsX6_finePart wsX0_divide := goodIn_r _ [16, 17, 18, 19, 20, 21, 22, 23, 24, 25, 26, 27, 28, 29, 30, 31, 32, 33, 34, 35, 36, 37, 38, 39, 40, 41, 42, 15, 43, 44, 7, 45, 46, 47, 48, 49, 50, 51, 52, 53, 81, 82, 83, 84, 85, 86, 87, 88, 89, 90, 91, 92, 93] (by decide +kernel) (by decide +kernel)
set_option maxRecDepth 20000 in
theorem gX6_finePart_X0_divide : GoodIn wsX6_finePart (wsV RX6 143 RX0 yX0_divide wsX0_divide) := goodIn_app (goodIn_of _ (by decide +kernel)) ggX6_finePart_X0_divide
set_option maxRecDepth 20000 in
theorem ggX6_finePart_X6_requireSquare : GoodIn wsX6_finePart wsX6_requireSquare := goodIn_ca (goodIn_r _ [57, 58, 59, 1, 60, 61, 62, 15, 63, 18, 25, 64, 65, 66, 44, 7, 45, 75, 76, 77, 78, 79, 80, 86, 87, 88, 89, 90] (by decide +kernel) (by decide +kernel)) (goodIn_sub (fun _ h => List.mem_cons_of_mem _ (List.mem_append_right _ h)) (by decide +kernel))
set_option maxRecDepth 20000 in
theorem gX6_finePart_X6_requireSquare : GoodIn wsX6_finePart (wsV RX6 160 RX6 yX6_requireSquare wsX6_requireSquare) := goodIn_app (goodIn_of _ (by decide +kernel)) ggX6_finePart_X6_requireSquare
set_option maxRecDepth 20000 in
theorem ggX6_finePart_X0_fineSet : GoodIn wsX6_finePart wsX0_fineSet := goodIn_r _ [70, 53, 44, 7, 45, 86, 87, 88, 89, 90] (by decide +kernel) (by decide +kernel)
set_option maxRecDepth 20000 in
theorem gX6_finePart_X0_fineSet : GoodIn wsX6_finePart (wsV RX6 154 RX0 yX0_fineSet wsX0_fineSet) := goodIn_app (goodIn_of _ (by decide +kernel)) ggX6_finePart_X0_fineSet
set_option maxRecDepth 20000 in
theorem ggX6_finePart_X6_lowest : GoodIn wsX6_finePart wsX6_lowest := goodIn_r _ [73, 74, 44, 7, 45] (by decide +kernel) (by decide +kernel)
set_option maxRecDepth 20000 in
theorem gX6_finePart_X6_lowest : GoodIn wsX6_finePart (va_wsS RX6 157 yX6_lowest wsX6_lowest) := goodIn_app (goodIn_of _ (by decide +kernel)) ggX6_finePart_X6_lowest
theorem dX6_finePart_0 : decode cX6_finePart 0 = .ok (.aload_n 0, 1) := by decide +kernel
theorem dX6_finePart_1 : decode cX6_finePart 1 = .ok (.iload_n 1, 1) := by decide +kernel
theorem dX6_finePart_2 : decode cX6_finePart 2 = .ok (.invokevirtual 103, 3) := by decide +kernel
theorem dX6_finePart_5 : decode cX6_finePart 5 = .ok (.aload_n 0, 1) := by decide +kernel
theorem dX6_finePart_6 : decode cX6_finePart 6 = .ok (.getfield 40, 3) := by decide +kernel
theorem dX6_finePart_9 : decode cX6_finePart 9 = .ok (.aload_n 0, 1) := by decide +kernel
theorem dX6_finePart_10 : decode cX6_finePart 10 = .ok (.getfield 10, 3) := by decide +kernel
theorem dX6_finePart_13 : decode cX6_finePart 13 = .ok (.aload_n 0, 1) := by decide +kernel
theorem dX6_finePart_14 : decode cX6_finePart 14 = .ok (.getfield 19, 3) := by decide +kernel
theorem dX6_finePart_17 : decode cX6_finePart 17 = .ok (.invokevirtual 143, 3) := by decide +kernel
theorem dX6_finePart_20 : decode cX6_finePart 20 = .ok (.aload_n 0, 1) := by decide +kernel
theorem dX6_finePart_21 : decode cX6_finePart 21 = .ok (.iload_n 1, 1) := by decide +kernel
theorem dX6_finePart_22 : decode cX6_finePart 22 = .ok (.invokevirtual 160, 3) := by decide +kernel
theorem dX6_finePart_25 : decode cX6_finePart 25 = .ok (.aload_n 0, 1) := by decide +kernel
theorem dX6_finePart_26 : decode cX6_finePart 26 = .ok (.getfield 40, 3) := by decide +kernel
theorem dX6_finePart_29 : decode cX6_finePart 29 = .ok (.iload_n 1, 1) := by decide +kernel
theorem dX6_finePart_30 : decode cX6_finePart 30 = .ok (.invokevirtual 154, 3) := by decide +kernel
theorem dX6_finePart_33 : decode cX6_finePart 33 = .ok (.invokestatic 157, 3) := by decide +kernel
theorem dX6_finePart_36 : decode cX6_finePart 36 = .ok (.ireturn, 1) := by decide +kernel
set_option maxRecDepth 20000 in
theorem ggX6_leads_X6_requireLeft : GoodIn wsX6_leads wsX6_requireLeft := goodIn_ca (goodIn_r _ [9, 10, 11, 2, 12, 69, 70, 71, 72, 73, 74, 80, 81, 82, 83, 84] (by decide +kernel) (by decide +kernel)) (goodIn_sub (fun _ h => List.mem_cons_of_mem _ (List.mem_append_left _ (List.mem_append_right _ h))) (by decide +kernel))
set_option maxRecDepth 20000 in
theorem gX6_leads_X6_requireLeft : GoodIn wsX6_leads (wsV RX6 103 RX6 yX6_requireLeft wsX6_requireLeft) := goodIn_app (goodIn_of _ (by decide +kernel)) ggX6_leads_X6_requireLeft
set_option maxRecDepth 20000 in
theorem ggX6_leads_X0_divide : GoodIn wsX6_leads wsX0_divide := goodIn_r _ [17, 18, 19, 20, 21, 22, 23, 24, 25, 26, 27, 28, 29, 30, 31, 32, 33, 34, 35, 36, 37, 38, 39, 40, 41, 42, 43, 16, 44, 45, 8, 46, 47, 48, 49, 50, 51, 52, 53, 54, 80, 81, 82, 83, 84, 75, 76, 77, 78, 79, 85, 86, 87] (by decide +kernel) (by decide +kernel)
set_option maxRecDepth 20000 in
theorem gX6_leads_X0_divide : GoodIn wsX6_leads (wsV RX6 143 RX0 yX0_divide wsX0_divide) := goodIn_app (goodIn_of _ (by decide +kernel)) ggX6_leads_X0_divide
set_option maxRecDepth 20000 in
theorem ggX6_leads_X6_requireSquare : GoodIn wsX6_leads wsX6_requireSquare := goodIn_ca (goodIn_r _ [58, 59, 60, 1, 61, 62, 63, 16, 64, 19, 26, 65, 66, 67, 45, 8, 46, 69, 70, 71, 72, 73, 74, 75, 76, 77, 78, 79] (by decide +kernel) (by decide +kernel)) (goodIn_sub (fun _ h => List.mem_cons_of_mem _ (List.mem_append_right _ h)) (by decide +kernel))
set_option maxRecDepth 20000 in
theorem gX6_leads_X6_requireSquare : GoodIn wsX6_leads (wsV RX6 160 RX6 yX6_requireSquare wsX6_requireSquare) := goodIn_app (goodIn_of _ (by decide +kernel)) ggX6_leads_X6_requireSquare
set_option maxRecDepth 20000 in
theorem ggX6_leads_X6_holds : GoodIn wsX6_leads wsX6_holds := goodIn_r _ [46] (by decide +kernel) (by decide +kernel)
set_option maxRecDepth 20000 in
theorem gX6_leads_X6_holds : GoodIn wsX6_leads (va_wsS RX6 166 yX6_holds wsX6_holds) := goodIn_app (goodIn_of _ (by decide +kernel)) ggX6_leads_X6_holds
theorem dX6_leads_0 : decode cX6_leads 0 = .ok (.aload_n 0, 1) := by decide +kernel
theorem dX6_leads_1 : decode cX6_leads 1 = .ok (.iload_n 1, 1) := by decide +kernel
theorem dX6_leads_2 : decode cX6_leads 2 = .ok (.invokevirtual 103, 3) := by decide +kernel
theorem dX6_leads_5 : decode cX6_leads 5 = .ok (.aload_n 0, 1) := by decide +kernel
theorem dX6_leads_6 : decode cX6_leads 6 = .ok (.iload_n 2, 1) := by decide +kernel
theorem dX6_leads_7 : decode cX6_leads 7 = .ok (.invokevirtual 103, 3) := by decide +kernel
theorem dX6_leads_10 : decode cX6_leads 10 = .ok (.aload_n 0, 1) := by decide +kernel
theorem dX6_leads_11 : decode cX6_leads 11 = .ok (.getfield 40, 3) := by decide +kernel
theorem dX6_leads_14 : decode cX6_leads 14 = .ok (.aload_n 0, 1) := by decide +kernel
theorem dX6_leads_15 : decode cX6_leads 15 = .ok (.getfield 10, 3) := by decide +kernel
theorem dX6_leads_18 : decode cX6_leads 18 = .ok (.aload_n 0, 1) := by decide +kernel
theorem dX6_leads_19 : decode cX6_leads 19 = .ok (.getfield 19, 3) := by decide +kernel
theorem dX6_leads_22 : decode cX6_leads 22 = .ok (.invokevirtual 143, 3) := by decide +kernel
theorem dX6_leads_25 : decode cX6_leads 25 = .ok (.aload_n 0, 1) := by decide +kernel
theorem dX6_leads_26 : decode cX6_leads 26 = .ok (.iload_n 1, 1) := by decide +kernel
theorem dX6_leads_27 : decode cX6_leads 27 = .ok (.invokevirtual 160, 3) := by decide +kernel
theorem dX6_leads_30 : decode cX6_leads 30 = .ok (.aload_n 0, 1) := by decide +kernel
theorem dX6_leads_31 : decode cX6_leads 31 = .ok (.iload_n 2, 1) := by decide +kernel
theorem dX6_leads_32 : decode cX6_leads 32 = .ok (.invokevirtual 160, 3) := by decide +kernel
theorem dX6_leads_35 : decode cX6_leads 35 = .ok (.aload_n 0, 1) := by decide +kernel
theorem dX6_leads_36 : decode cX6_leads 36 = .ok (.getfield 40, 3) := by decide +kernel
theorem dX6_leads_39 : decode cX6_leads 39 = .ok (.getfield 163, 3) := by decide +kernel
theorem dX6_leads_42 : decode cX6_leads 42 = .ok (.iload_n 1, 1) := by decide +kernel
theorem dX6_leads_43 : decode cX6_leads 43 = .ok (.iaload, 1) := by decide +kernel
theorem dX6_leads_44 : decode cX6_leads 44 = .ok (.iload_n 2, 1) := by decide +kernel
theorem dX6_leads_45 : decode cX6_leads 45 = .ok (.invokestatic 166, 3) := by decide +kernel
theorem dX6_leads_48 : decode cX6_leads 48 = .ok (.ireturn, 1) := by decide +kernel
set_option maxRecDepth 20000 in
theorem ggX6_isInSome_X6_requireEdge : GoodIn wsX6_isInSome wsX6_requireEdge := goodIn_ca (goodIn_ca (goodIn_r _ [9, 10, 11, 2, 12, 13, 14, 8, 15, 16, 17, 18, 19, 20, 21, 22, 23, 24, 25, 26, 27, 28, 29, 30, 31, 32, 33, 34, 35, 95, 96, 97, 98, 99, 100, 104, 105, 106, 107, 108] (by decide +kernel) (by decide +kernel)) (goodIn_sub (fun _ h => List.mem_cons_of_mem _ (List.mem_append_left _ (List.mem_append_right _ h))) (by decide +kernel))) (goodIn_sub (fun _ h => List.mem_cons_of_mem _ (List.mem_append_right _ h)) (by decide +kernel))
set_option maxRecDepth 20000 in
theorem gX6_isInSome_X6_requireEdge : GoodIn wsX6_isInSome (wsV RX6 87 RX6 yX6_requireEdge wsX6_requireEdge) := goodIn_app (goodIn_of _ (by decide +kernel)) ggX6_isInSome_X6_requireEdge
set_option maxRecDepth 20000 in
theorem ggX6_isInSome_X0_divide : GoodIn wsX6_isInSome wsX0_divide := goodIn_r _ [40, 41, 42, 43, 44, 45, 46, 47, 48, 49, 50, 51, 52, 53, 54, 55, 56, 57, 58, 59, 60, 61, 62, 63, 64, 65, 66, 39, 67, 34, 8, 35, 68, 69, 70, 71, 72, 73, 74, 75, 104, 105, 106, 107, 108, 109, 110, 111, 112, 113, 101, 102, 103] (by decide +kernel) (by decide +kernel)
set_option maxRecDepth 20000 in
theorem gX6_isInSome_X0_divide : GoodIn wsX6_isInSome (wsV RX6 143 RX0 yX0_divide wsX0_divide) := goodIn_app (goodIn_of _ (by decide +kernel)) ggX6_isInSome_X0_divide
set_option maxRecDepth 20000 in
theorem ggX6_isInSome_X0_leftPart : GoodIn wsX6_isInSome wsX0_leftPart := goodIn_r _ [79, 42, 49, 80, 81, 39, 82, 34, 8, 35, 109, 110, 111, 112, 113] (by decide +kernel) (by decide +kernel)
set_option maxRecDepth 20000 in
theorem gX6_isInSome_X0_leftPart : GoodIn wsX6_isInSome (wsV RX6 147 RX0 yX0_leftPart wsX0_leftPart) := goodIn_app (goodIn_of _ (by decide +kernel)) ggX6_isInSome_X0_leftPart
set_option maxRecDepth 20000 in
theorem ggX6_isInSome_X0_rightPart : GoodIn wsX6_isInSome wsX0_rightPart := goodIn_r _ [86, 46, 44, 80, 81, 39, 82, 34, 8, 35, 109, 110, 111, 112, 113] (by decide +kernel) (by decide +kernel)
set_option maxRecDepth 20000 in
theorem gX6_isInSome_X0_rightPart : GoodIn wsX6_isInSome (wsV RX6 151 RX0 yX0_rightPart wsX0_rightPart) := goodIn_app (goodIn_of _ (by decide +kernel)) ggX6_isInSome_X0_rightPart
set_option maxRecDepth 20000 in
theorem ggX6_isInSome_X0_isWithinFinePart : GoodIn wsX6_isInSome wsX0_isWithinFinePart := goodIn_r _ [90, 91, 92, 93, 39, 94, 75, 34, 8, 35, 109, 110, 111, 112, 113] (by decide +kernel) (by decide +kernel)
set_option maxRecDepth 20000 in
theorem gX6_isInSome_X0_isWithinFinePart : GoodIn wsX6_isInSome (wsV RX6 169 RX0 yX0_isWithinFinePart wsX0_isWithinFinePart) := goodIn_app (goodIn_of _ (by decide +kernel)) ggX6_isInSome_X0_isWithinFinePart
theorem dX6_isInSome_0 : decode cX6_isInSome 0 = .ok (.aload_n 0, 1) := by decide +kernel
theorem dX6_isInSome_1 : decode cX6_isInSome 1 = .ok (.iload_n 1, 1) := by decide +kernel
theorem dX6_isInSome_2 : decode cX6_isInSome 2 = .ok (.iload_n 2, 1) := by decide +kernel
theorem dX6_isInSome_3 : decode cX6_isInSome 3 = .ok (.invokevirtual 87, 3) := by decide +kernel
theorem dX6_isInSome_6 : decode cX6_isInSome 6 = .ok (.aload_n 0, 1) := by decide +kernel
theorem dX6_isInSome_7 : decode cX6_isInSome 7 = .ok (.getfield 40, 3) := by decide +kernel
theorem dX6_isInSome_10 : decode cX6_isInSome 10 = .ok (.aload_n 0, 1) := by decide +kernel
theorem dX6_isInSome_11 : decode cX6_isInSome 11 = .ok (.getfield 10, 3) := by decide +kernel
theorem dX6_isInSome_14 : decode cX6_isInSome 14 = .ok (.aload_n 0, 1) := by decide +kernel
theorem dX6_isInSome_15 : decode cX6_isInSome 15 = .ok (.getfield 19, 3) := by decide +kernel
theorem dX6_isInSome_18 : decode cX6_isInSome 18 = .ok (.invokevirtual 143, 3) := by decide +kernel
theorem dX6_isInSome_21 : decode cX6_isInSome 21 = .ok (.aload_n 0, 1) := by decide +kernel
theorem dX6_isInSome_22 : decode cX6_isInSome 22 = .ok (.getfield 40, 3) := by decide +kernel
theorem dX6_isInSome_25 : decode cX6_isInSome 25 = .ok (.iload_n 1, 1) := by decide +kernel
theorem dX6_isInSome_26 : decode cX6_isInSome 26 = .ok (.invokevirtual 147, 3) := by decide +kernel
theorem dX6_isInSome_29 : decode cX6_isInSome 29 = .ok (.istore_n 3, 1) := by decide +kernel
theorem dX6_isInSome_30 : decode cX6_isInSome 30 = .ok (.iload_n 3, 1) := by decide +kernel
theorem dX6_isInSome_31 : decode cX6_isInSome 31 = .ok (.aload_n 0, 1) := by decide +kernel
theorem dX6_isInSome_32 : decode cX6_isInSome 32 = .ok (.getfield 40, 3) := by decide +kernel
theorem dX6_isInSome_35 : decode cX6_isInSome 35 = .ok (.iload_n 2, 1) := by decide +kernel
theorem dX6_isInSome_36 : decode cX6_isInSome 36 = .ok (.invokevirtual 151, 3) := by decide +kernel
theorem dX6_isInSome_39 : decode cX6_isInSome 39 = .ok (.if_icmp .eq 5, 3) := by decide +kernel
theorem dX6_isInSome_42 : decode cX6_isInSome 42 = .ok (.iconst 0, 1) := by decide +kernel
theorem dX6_isInSome_43 : decode cX6_isInSome 43 = .ok (.ireturn, 1) := by decide +kernel
theorem dX6_isInSome_44 : decode cX6_isInSome 44 = .ok (.iload_n 3, 1) := by decide +kernel
theorem dX6_isInSome_45 : decode cX6_isInSome 45 = .ok (.iconst 1, 1) := by decide +kernel
theorem dX6_isInSome_46 : decode cX6_isInSome 46 = .ok (.if_icmp .ne 23, 3) := by decide +kernel
theorem dX6_isInSome_49 : decode cX6_isInSome 49 = .ok (.aload_n 0, 1) := by decide +kernel
theorem dX6_isInSome_50 : decode cX6_isInSome 50 = .ok (.getfield 40, 3) := by decide +kernel
theorem dX6_isInSome_53 : decode cX6_isInSome 53 = .ok (.iload_n 1, 1) := by decide +kernel
theorem dX6_isInSome_54 : decode cX6_isInSome 54 = .ok (.aload_n 0, 1) := by decide +kernel
theorem dX6_isInSome_55 : decode cX6_isInSome 55 = .ok (.getfield 19, 3) := by decide +kernel
theorem dX6_isInSome_58 : decode cX6_isInSome 58 = .ok (.getfield 115, 3) := by decide +kernel
theorem dX6_isInSome_61 : decode cX6_isInSome 61 = .ok (.iload_n 2, 1) := by decide +kernel
theorem dX6_isInSome_62 : decode cX6_isInSome 62 = .ok (.iaload, 1) := by decide +kernel
theorem dX6_isInSome_63 : decode cX6_isInSome 63 = .ok (.invokevirtual 169, 3) := by decide +kernel
theorem dX6_isInSome_66 : decode cX6_isInSome 66 = .ok (.ifCond .eq 7, 3) := by decide +kernel
theorem dX6_isInSome_69 : decode cX6_isInSome 69 = .ok (.iconst 1, 1) := by decide +kernel
theorem dX6_isInSome_70 : decode cX6_isInSome 70 = .ok (.goto 4, 3) := by decide +kernel
theorem dX6_isInSome_73 : decode cX6_isInSome 73 = .ok (.iconst 0, 1) := by decide +kernel
theorem dX6_isInSome_74 : decode cX6_isInSome 74 = .ok (.ireturn, 1) := by decide +kernel
set_option maxRecDepth 20000 in
theorem ggX6_isInAll_X6_requireEdge : GoodIn wsX6_isInAll wsX6_requireEdge := goodIn_ca (goodIn_ca (goodIn_r _ [9, 10, 11, 4, 12, 13, 14, 8, 15, 16, 17, 18, 19, 20, 21, 22, 23, 24, 25, 26, 27, 28, 29, 30, 31, 32, 33, 34, 35, 87, 88, 89, 90, 91, 92, 96, 97, 98, 99, 100] (by decide +kernel) (by decide +kernel)) (goodIn_sub (fun _ h => List.mem_cons_of_mem _ (List.mem_append_left _ (List.mem_append_right _ h))) (by decide +kernel))) (goodIn_sub (fun _ h => List.mem_cons_of_mem _ (List.mem_append_right _ h)) (by decide +kernel))
set_option maxRecDepth 20000 in
theorem gX6_isInAll_X6_requireEdge : GoodIn wsX6_isInAll (wsV RX6 87 RX6 yX6_requireEdge wsX6_requireEdge) := goodIn_app (goodIn_of _ (by decide +kernel)) ggX6_isInAll_X6_requireEdge
set_option maxRecDepth 20000 in
theorem ggX6_isInAll_X0_divide : GoodIn wsX6_isInAll wsX0_divide := goodIn_r _ [40, 41, 42, 43, 44, 45, 46, 47, 48, 49, 50, 51, 52, 53, 54, 55, 56, 57, 58, 59, 60, 61, 62, 63, 64, 65, 66, 39, 67, 34, 8, 35, 68, 69, 70, 71, 72, 73, 74, 75, 96, 97, 98, 99, 100, 101, 102, 103, 104, 105, 93, 94, 95] (by decide +kernel) (by decide +kernel)
set_option maxRecDepth 20000 in
theorem gX6_isInAll_X0_divide : GoodIn wsX6_isInAll (wsV RX6 143 RX0 yX0_divide wsX0_divide) := goodIn_app (goodIn_of _ (by decide +kernel)) ggX6_isInAll_X0_divide
set_option maxRecDepth 20000 in
theorem ggX6_isInAll_X0_leftPart : GoodIn wsX6_isInAll wsX0_leftPart := goodIn_r _ [79, 42, 49, 80, 81, 39, 82, 34, 8, 35, 101, 102, 103, 104, 105] (by decide +kernel) (by decide +kernel)
set_option maxRecDepth 20000 in
theorem gX6_isInAll_X0_leftPart : GoodIn wsX6_isInAll (wsV RX6 147 RX0 yX0_leftPart wsX0_leftPart) := goodIn_app (goodIn_of _ (by decide +kernel)) ggX6_isInAll_X0_leftPart
set_option maxRecDepth 20000 in
theorem ggX6_isInAll_X0_fineSet : GoodIn wsX6_isInAll wsX0_fineSet := goodIn_r _ [86, 75, 34, 8, 35, 101, 102, 103, 104, 105] (by decide +kernel) (by decide +kernel)
set_option maxRecDepth 20000 in
theorem gX6_isInAll_X0_fineSet : GoodIn wsX6_isInAll (wsV RX6 154 RX0 yX0_fineSet wsX0_fineSet) := goodIn_app (goodIn_of _ (by decide +kernel)) ggX6_isInAll_X0_fineSet
theorem dX6_isInAll_0 : decode cX6_isInAll 0 = .ok (.aload_n 0, 1) := by decide +kernel
theorem dX6_isInAll_1 : decode cX6_isInAll 1 = .ok (.iload_n 1, 1) := by decide +kernel
theorem dX6_isInAll_2 : decode cX6_isInAll 2 = .ok (.iload_n 2, 1) := by decide +kernel
theorem dX6_isInAll_3 : decode cX6_isInAll 3 = .ok (.invokevirtual 87, 3) := by decide +kernel
theorem dX6_isInAll_6 : decode cX6_isInAll 6 = .ok (.aload_n 0, 1) := by decide +kernel
theorem dX6_isInAll_7 : decode cX6_isInAll 7 = .ok (.getfield 19, 3) := by decide +kernel
theorem dX6_isInAll_10 : decode cX6_isInAll 10 = .ok (.getfield 93, 3) := by decide +kernel
theorem dX6_isInAll_13 : decode cX6_isInAll 13 = .ok (.iload_n 1, 1) := by decide +kernel
theorem dX6_isInAll_14 : decode cX6_isInAll 14 = .ok (.iaload, 1) := by decide +kernel
theorem dX6_isInAll_15 : decode cX6_isInAll 15 = .ok (.iload_n 2, 1) := by decide +kernel
theorem dX6_isInAll_16 : decode cX6_isInAll 16 = .ok (.if_icmp .eq 5, 3) := by decide +kernel
theorem dX6_isInAll_19 : decode cX6_isInAll 19 = .ok (.iconst 0, 1) := by decide +kernel
theorem dX6_isInAll_20 : decode cX6_isInAll 20 = .ok (.ireturn, 1) := by decide +kernel
theorem dX6_isInAll_21 : decode cX6_isInAll 21 = .ok (.aload_n 0, 1) := by decide +kernel
theorem dX6_isInAll_22 : decode cX6_isInAll 22 = .ok (.getfield 40, 3) := by decide +kernel
theorem dX6_isInAll_25 : decode cX6_isInAll 25 = .ok (.aload_n 0, 1) := by decide +kernel
theorem dX6_isInAll_26 : decode cX6_isInAll 26 = .ok (.getfield 10, 3) := by decide +kernel
theorem dX6_isInAll_29 : decode cX6_isInAll 29 = .ok (.aload_n 0, 1) := by decide +kernel
theorem dX6_isInAll_30 : decode cX6_isInAll 30 = .ok (.getfield 19, 3) := by decide +kernel
theorem dX6_isInAll_33 : decode cX6_isInAll 33 = .ok (.invokevirtual 143, 3) := by decide +kernel
theorem dX6_isInAll_36 : decode cX6_isInAll 36 = .ok (.aload_n 0, 1) := by decide +kernel
theorem dX6_isInAll_37 : decode cX6_isInAll 37 = .ok (.getfield 40, 3) := by decide +kernel
theorem dX6_isInAll_40 : decode cX6_isInAll 40 = .ok (.iload_n 1, 1) := by decide +kernel
theorem dX6_isInAll_41 : decode cX6_isInAll 41 = .ok (.invokevirtual 147, 3) := by decide +kernel
theorem dX6_isInAll_44 : decode cX6_isInAll 44 = .ok (.iconst 1, 1) := by decide +kernel
theorem dX6_isInAll_45 : decode cX6_isInAll 45 = .ok (.if_icmp .ne 21, 3) := by decide +kernel
theorem dX6_isInAll_48 : decode cX6_isInAll 48 = .ok (.aload_n 0, 1) := by decide +kernel
theorem dX6_isInAll_49 : decode cX6_isInAll 49 = .ok (.getfield 40, 3) := by decide +kernel
theorem dX6_isInAll_52 : decode cX6_isInAll 52 = .ok (.iload_n 1, 1) := by decide +kernel
theorem dX6_isInAll_53 : decode cX6_isInAll 53 = .ok (.invokevirtual 154, 3) := by decide +kernel
theorem dX6_isInAll_56 : decode cX6_isInAll 56 = .ok (.iconst 1, 1) := by decide +kernel
theorem dX6_isInAll_57 : decode cX6_isInAll 57 = .ok (.iload_n 1, 1) := by decide +kernel
theorem dX6_isInAll_58 : decode cX6_isInAll 58 = .ok (.ishl, 1) := by decide +kernel
theorem dX6_isInAll_59 : decode cX6_isInAll 59 = .ok (.if_icmp .ne 7, 3) := by decide +kernel
theorem dX6_isInAll_62 : decode cX6_isInAll 62 = .ok (.iconst 1, 1) := by decide +kernel
theorem dX6_isInAll_63 : decode cX6_isInAll 63 = .ok (.goto 4, 3) := by decide +kernel
theorem dX6_isInAll_66 : decode cX6_isInAll 66 = .ok (.iconst 0, 1) := by decide +kernel
theorem dX6_isInAll_67 : decode cX6_isInAll 67 = .ok (.ireturn, 1) := by decide +kernel
set_option maxRecDepth 20000 in
theorem ggX6_largestMatchings_X3_count : GoodIn wsX6_largestMatchings wsX3_count := goodIn_r _ [9, 10, 11, 12, 13, 14, 15, 16, 17, 18, 19, 20, 8, 21, 22, 23, 24, 25, 26, 27, 28, 29, 30, 31, 32, 33, 34, 35, 45, 46, 47, 48, 49, 50] (by decide +kernel) (by decide +kernel)
set_option maxRecDepth 20000 in
theorem gX6_largestMatchings_X3_count : GoodIn wsX6_largestMatchings (wsV RX6 172 RX3 yX3_count wsX3_count) := goodIn_app (goodIn_of _ (by decide +kernel)) ggX6_largestMatchings_X3_count
theorem dX6_largestMatchings_0 : decode cX6_largestMatchings 0 = .ok (.aload_n 0, 1) := by decide +kernel
theorem dX6_largestMatchings_1 : decode cX6_largestMatchings 1 = .ok (.getfield 47, 3) := by decide +kernel
theorem dX6_largestMatchings_4 : decode cX6_largestMatchings 4 = .ok (.aload_n 0, 1) := by decide +kernel
theorem dX6_largestMatchings_5 : decode cX6_largestMatchings 5 = .ok (.getfield 10, 3) := by decide +kernel
theorem dX6_largestMatchings_8 : decode cX6_largestMatchings 8 = .ok (.aload_n 0, 1) := by decide +kernel
theorem dX6_largestMatchings_9 : decode cX6_largestMatchings 9 = .ok (.getfield 19, 3) := by decide +kernel
theorem dX6_largestMatchings_12 : decode cX6_largestMatchings 12 = .ok (.getfield 100, 3) := by decide +kernel
theorem dX6_largestMatchings_15 : decode cX6_largestMatchings 15 = .ok (.invokevirtual 172, 3) := by decide +kernel
theorem dX6_largestMatchings_18 : decode cX6_largestMatchings 18 = .ok (.lreturn, 1) := by decide +kernel
set_option maxRecDepth 20000 in
theorem ggX6_coversLeft_X6_requireLeft : GoodIn wsX6_coversLeft wsX6_requireLeft := goodIn_ca (goodIn_r _ [8, 9, 10, 2, 11, 61, 62, 63, 64, 65, 66, 67, 68, 69, 70, 71] (by decide +kernel) (by decide +kernel)) (goodIn_sub (fun _ h => List.mem_cons_of_mem _ (List.mem_append_right _ h)) (by decide +kernel))
set_option maxRecDepth 20000 in
theorem gX6_coversLeft_X6_requireLeft : GoodIn wsX6_coversLeft (wsV RX6 103 RX6 yX6_requireLeft wsX6_requireLeft) := goodIn_app (goodIn_of _ (by decide +kernel)) ggX6_coversLeft_X6_requireLeft
set_option maxRecDepth 20000 in
theorem ggX6_coversLeft_X0_divide : GoodIn wsX6_coversLeft wsX0_divide := goodIn_r _ [16, 17, 18, 19, 20, 21, 22, 23, 24, 25, 26, 27, 28, 29, 30, 31, 32, 33, 34, 35, 36, 37, 38, 39, 40, 41, 42, 15, 43, 44, 7, 45, 46, 47, 48, 49, 50, 51, 52, 53, 67, 68, 69, 70, 71, 72, 73, 74, 75, 76, 77, 78, 79] (by decide +kernel) (by decide +kernel)
set_option maxRecDepth 20000 in
theorem gX6_coversLeft_X0_divide : GoodIn wsX6_coversLeft (wsV RX6 143 RX0 yX0_divide wsX0_divide) := goodIn_app (goodIn_of _ (by decide +kernel)) ggX6_coversLeft_X0_divide
set_option maxRecDepth 20000 in
theorem ggX6_coversLeft_X0_leftPart : GoodIn wsX6_coversLeft wsX0_leftPart := goodIn_r _ [57, 18, 25, 58, 59, 15, 60, 44, 7, 45, 72, 73, 74, 75, 76] (by decide +kernel) (by decide +kernel)
set_option maxRecDepth 20000 in
theorem gX6_coversLeft_X0_leftPart : GoodIn wsX6_coversLeft (wsV RX6 147 RX0 yX0_leftPart wsX0_leftPart) := goodIn_app (goodIn_of _ (by decide +kernel)) ggX6_coversLeft_X0_leftPart
theorem dX6_coversLeft_0 : decode cX6_coversLeft 0 = .ok (.aload_n 0, 1) := by decide +kernel
theorem dX6_coversLeft_1 : decode cX6_coversLeft 1 = .ok (.iload_n 1, 1) := by decide +kernel
theorem dX6_coversLeft_2 : decode cX6_coversLeft 2 = .ok (.invokevirtual 103, 3) := by decide +kernel
theorem dX6_coversLeft_5 : decode cX6_coversLeft 5 = .ok (.aload_n 0, 1) := by decide +kernel
theorem dX6_coversLeft_6 : decode cX6_coversLeft 6 = .ok (.getfield 40, 3) := by decide +kernel
theorem dX6_coversLeft_9 : decode cX6_coversLeft 9 = .ok (.aload_n 0, 1) := by decide +kernel
theorem dX6_coversLeft_10 : decode cX6_coversLeft 10 = .ok (.getfield 10, 3) := by decide +kernel
theorem dX6_coversLeft_13 : decode cX6_coversLeft 13 = .ok (.aload_n 0, 1) := by decide +kernel
theorem dX6_coversLeft_14 : decode cX6_coversLeft 14 = .ok (.getfield 19, 3) := by decide +kernel
theorem dX6_coversLeft_17 : decode cX6_coversLeft 17 = .ok (.invokevirtual 143, 3) := by decide +kernel
theorem dX6_coversLeft_20 : decode cX6_coversLeft 20 = .ok (.aload_n 0, 1) := by decide +kernel
theorem dX6_coversLeft_21 : decode cX6_coversLeft 21 = .ok (.getfield 40, 3) := by decide +kernel
theorem dX6_coversLeft_24 : decode cX6_coversLeft 24 = .ok (.iload_n 1, 1) := by decide +kernel
theorem dX6_coversLeft_25 : decode cX6_coversLeft 25 = .ok (.invokevirtual 147, 3) := by decide +kernel
theorem dX6_coversLeft_28 : decode cX6_coversLeft 28 = .ok (.ifCond .eq 7, 3) := by decide +kernel
theorem dX6_coversLeft_31 : decode cX6_coversLeft 31 = .ok (.iconst 1, 1) := by decide +kernel
theorem dX6_coversLeft_32 : decode cX6_coversLeft 32 = .ok (.goto 4, 3) := by decide +kernel
theorem dX6_coversLeft_35 : decode cX6_coversLeft 35 = .ok (.iconst 0, 1) := by decide +kernel
theorem dX6_coversLeft_36 : decode cX6_coversLeft 36 = .ok (.ireturn, 1) := by decide +kernel
set_option maxRecDepth 20000 in
theorem ggX6_coversRight_X6_requireRight : GoodIn wsX6_coversRight wsX6_requireRight := goodIn_ca (goodIn_r _ [8, 9, 10, 2, 11, 61, 62, 63, 64, 65, 66, 67, 68, 69, 70, 71] (by decide +kernel) (by decide +kernel)) (goodIn_sub (fun _ h => List.mem_cons_of_mem _ (List.mem_append_right _ h)) (by decide +kernel))
set_option maxRecDepth 20000 in
theorem gX6_coversRight_X6_requireRight : GoodIn wsX6_coversRight (wsV RX6 112 RX6 yX6_requireRight wsX6_requireRight) := goodIn_app (goodIn_of _ (by decide +kernel)) ggX6_coversRight_X6_requireRight
set_option maxRecDepth 20000 in
theorem ggX6_coversRight_X0_divide : GoodIn wsX6_coversRight wsX0_divide := goodIn_r _ [16, 17, 18, 19, 20, 21, 22, 23, 24, 25, 26, 27, 28, 29, 30, 31, 32, 33, 34, 35, 36, 37, 38, 39, 40, 41, 42, 15, 43, 44, 7, 45, 46, 47, 48, 49, 50, 51, 52, 53, 67, 68, 69, 70, 71, 72, 73, 74, 75, 76, 77, 78, 79] (by decide +kernel) (by decide +kernel)
set_option maxRecDepth 20000 in
theorem gX6_coversRight_X0_divide : GoodIn wsX6_coversRight (wsV RX6 143 RX0 yX0_divide wsX0_divide) := goodIn_app (goodIn_of _ (by decide +kernel)) ggX6_coversRight_X0_divide
set_option maxRecDepth 20000 in
theorem ggX6_coversRight_X0_rightPart : GoodIn wsX6_coversRight wsX0_rightPart := goodIn_r _ [57, 22, 20, 58, 59, 15, 60, 44, 7, 45, 72, 73, 74, 75, 76] (by decide +kernel) (by decide +kernel)
set_option maxRecDepth 20000 in
theorem gX6_coversRight_X0_rightPart : GoodIn wsX6_coversRight (wsV RX6 151 RX0 yX0_rightPart wsX0_rightPart) := goodIn_app (goodIn_of _ (by decide +kernel)) ggX6_coversRight_X0_rightPart
theorem dX6_coversRight_0 : decode cX6_coversRight 0 = .ok (.aload_n 0, 1) := by decide +kernel
theorem dX6_coversRight_1 : decode cX6_coversRight 1 = .ok (.iload_n 1, 1) := by decide +kernel
theorem dX6_coversRight_2 : decode cX6_coversRight 2 = .ok (.invokevirtual 112, 3) := by decide +kernel
theorem dX6_coversRight_5 : decode cX6_coversRight 5 = .ok (.aload_n 0, 1) := by decide +kernel
theorem dX6_coversRight_6 : decode cX6_coversRight 6 = .ok (.getfield 40, 3) := by decide +kernel
theorem dX6_coversRight_9 : decode cX6_coversRight 9 = .ok (.aload_n 0, 1) := by decide +kernel
theorem dX6_coversRight_10 : decode cX6_coversRight 10 = .ok (.getfield 10, 3) := by decide +kernel
theorem dX6_coversRight_13 : decode cX6_coversRight 13 = .ok (.aload_n 0, 1) := by decide +kernel
theorem dX6_coversRight_14 : decode cX6_coversRight 14 = .ok (.getfield 19, 3) := by decide +kernel
theorem dX6_coversRight_17 : decode cX6_coversRight 17 = .ok (.invokevirtual 143, 3) := by decide +kernel
theorem dX6_coversRight_20 : decode cX6_coversRight 20 = .ok (.aload_n 0, 1) := by decide +kernel
theorem dX6_coversRight_21 : decode cX6_coversRight 21 = .ok (.getfield 40, 3) := by decide +kernel
theorem dX6_coversRight_24 : decode cX6_coversRight 24 = .ok (.iload_n 1, 1) := by decide +kernel
theorem dX6_coversRight_25 : decode cX6_coversRight 25 = .ok (.invokevirtual 151, 3) := by decide +kernel
theorem dX6_coversRight_28 : decode cX6_coversRight 28 = .ok (.ifCond .ne 7, 3) := by decide +kernel
theorem dX6_coversRight_31 : decode cX6_coversRight 31 = .ok (.iconst 1, 1) := by decide +kernel
theorem dX6_coversRight_32 : decode cX6_coversRight 32 = .ok (.goto 4, 3) := by decide +kernel
theorem dX6_coversRight_35 : decode cX6_coversRight 35 = .ok (.iconst 0, 1) := by decide +kernel
theorem dX6_coversRight_36 : decode cX6_coversRight 36 = .ok (.ireturn, 1) := by decide +kernel
set_option maxRecDepth 20000 in
theorem ggX6_leastCovers_X6_countCovers : GoodIn wsX6_leastCovers wsX6_countCovers := goodIn_r _ [7, 8, 9, 10, 11, 12, 13, 14, 15, 16, 4, 5, 6, 26, 27, 28, 29, 30] (by decide +kernel) (by decide +kernel)
set_option maxRecDepth 20000 in
theorem gX6_leastCovers_X6_countCovers : GoodIn wsX6_leastCovers (va_wsS RX6 175 yX6_countCovers wsX6_countCovers) := goodIn_app (goodIn_of _ (by decide +kernel)) ggX6_leastCovers_X6_countCovers
theorem dX6_leastCovers_0 : decode cX6_leastCovers 0 = .ok (.aload_n 0, 1) := by decide +kernel
theorem dX6_leastCovers_1 : decode cX6_leastCovers 1 = .ok (.getfield 10, 3) := by decide +kernel
theorem dX6_leastCovers_4 : decode cX6_leastCovers 4 = .ok (.iconst 0, 1) := by decide +kernel
theorem dX6_leastCovers_5 : decode cX6_leastCovers 5 = .ok (.iconst 0, 1) := by decide +kernel
theorem dX6_leastCovers_6 : decode cX6_leastCovers 6 = .ok (.iconst 0, 1) := by decide +kernel
theorem dX6_leastCovers_7 : decode cX6_leastCovers 7 = .ok (.aload_n 0, 1) := by decide +kernel
theorem dX6_leastCovers_8 : decode cX6_leastCovers 8 = .ok (.getfield 19, 3) := by decide +kernel
theorem dX6_leastCovers_11 : decode cX6_leastCovers 11 = .ok (.getfield 100, 3) := by decide +kernel
theorem dX6_leastCovers_14 : decode cX6_leastCovers 14 = .ok (.invokestatic 175, 3) := by decide +kernel
theorem dX6_leastCovers_17 : decode cX6_leastCovers 17 = .ok (.ireturn, 1) := by decide +kernel
theorem dX6_greatestExcess_0 : decode cX6_greatestExcess 0 = .ok (.aload_n 0, 1) := by decide +kernel
theorem dX6_greatestExcess_1 : decode cX6_greatestExcess 1 = .ok (.getfield 10, 3) := by decide +kernel
theorem dX6_greatestExcess_4 : decode cX6_greatestExcess 4 = .ok (.getfield 51, 3) := by decide +kernel
theorem dX6_greatestExcess_7 : decode cX6_greatestExcess 7 = .ok (.aload_n 0, 1) := by decide +kernel
theorem dX6_greatestExcess_8 : decode cX6_greatestExcess 8 = .ok (.getfield 19, 3) := by decide +kernel
theorem dX6_greatestExcess_11 : decode cX6_greatestExcess 11 = .ok (.getfield 100, 3) := by decide +kernel
theorem dX6_greatestExcess_14 : decode cX6_greatestExcess 14 = .ok (.isub, 1) := by decide +kernel
theorem dX6_greatestExcess_15 : decode cX6_greatestExcess 15 = .ok (.ireturn, 1) := by decide +kernel
theorem dX6_requireLeft_0 : decode cX6_requireLeft 0 = .ok (.iload_n 1, 1) := by decide +kernel
theorem dX6_requireLeft_1 : decode cX6_requireLeft 1 = .ok (.ifCond .lt 14, 3) := by decide +kernel
theorem dX6_requireLeft_4 : decode cX6_requireLeft 4 = .ok (.iload_n 1, 1) := by decide +kernel
theorem dX6_requireLeft_5 : decode cX6_requireLeft 5 = .ok (.aload_n 0, 1) := by decide +kernel
theorem dX6_requireLeft_6 : decode cX6_requireLeft 6 = .ok (.getfield 10, 3) := by decide +kernel
theorem dX6_requireLeft_9 : decode cX6_requireLeft 9 = .ok (.getfield 51, 3) := by decide +kernel
theorem dX6_requireLeft_12 : decode cX6_requireLeft 12 = .ok (.if_icmp .lt 13, 3) := by decide +kernel
theorem dX6_requireLeft_15 : decode cX6_requireLeft 15 = .ok (.new 179, 3) := by decide +kernel
theorem dX6_requireLeft_18 : decode cX6_requireLeft 18 = .ok (.dup, 1) := by decide +kernel
theorem dX6_requireLeft_19 : decode cX6_requireLeft 19 = .ok (.ldc 181, 2) := by decide +kernel
theorem dX6_requireLeft_21 : decode cX6_requireLeft 21 = .ok (.invokespecial 183, 3) := by decide +kernel
theorem dX6_requireLeft_24 : decode cX6_requireLeft 24 = .ok (.athrow, 1) := by decide +kernel
theorem dX6_requireLeft_25 : decode cX6_requireLeft 25 = .ok (.return_, 1) := by decide +kernel
theorem dX6_requireRight_0 : decode cX6_requireRight 0 = .ok (.iload_n 1, 1) := by decide +kernel
theorem dX6_requireRight_1 : decode cX6_requireRight 1 = .ok (.ifCond .lt 14, 3) := by decide +kernel
theorem dX6_requireRight_4 : decode cX6_requireRight 4 = .ok (.iload_n 1, 1) := by decide +kernel
theorem dX6_requireRight_5 : decode cX6_requireRight 5 = .ok (.aload_n 0, 1) := by decide +kernel
theorem dX6_requireRight_6 : decode cX6_requireRight 6 = .ok (.getfield 10, 3) := by decide +kernel
theorem dX6_requireRight_9 : decode cX6_requireRight 9 = .ok (.getfield 62, 3) := by decide +kernel
theorem dX6_requireRight_12 : decode cX6_requireRight 12 = .ok (.if_icmp .lt 13, 3) := by decide +kernel
theorem dX6_requireRight_15 : decode cX6_requireRight 15 = .ok (.new 179, 3) := by decide +kernel
theorem dX6_requireRight_18 : decode cX6_requireRight 18 = .ok (.dup, 1) := by decide +kernel
theorem dX6_requireRight_19 : decode cX6_requireRight 19 = .ok (.ldc 184, 2) := by decide +kernel
theorem dX6_requireRight_21 : decode cX6_requireRight 21 = .ok (.invokespecial 183, 3) := by decide +kernel
theorem dX6_requireRight_24 : decode cX6_requireRight 24 = .ok (.athrow, 1) := by decide +kernel
theorem dX6_requireRight_25 : decode cX6_requireRight 25 = .ok (.return_, 1) := by decide +kernel
set_option maxRecDepth 20000 in
theorem ggX6_requireBoth_X6_requireLeft : GoodIn wsX6_requireBoth wsX6_requireLeft := goodIn_ca (goodIn_r _ [5, 6, 7, 8, 9, 15, 16, 17, 18, 19, 20, 21, 22, 23, 24, 25] (by decide +kernel) (by decide +kernel)) (goodIn_sub (fun _ h => List.mem_cons_of_mem _ (List.mem_append_right _ h)) (by decide +kernel))
set_option maxRecDepth 20000 in
theorem gX6_requireBoth_X6_requireLeft : GoodIn wsX6_requireBoth (wsV RX6 103 RX6 yX6_requireLeft wsX6_requireLeft) := goodIn_app (goodIn_of _ (by decide +kernel)) ggX6_requireBoth_X6_requireLeft
set_option maxRecDepth 20000 in
theorem ggX6_requireBoth_X6_requireRight : GoodIn wsX6_requireBoth wsX6_requireRight := goodIn_ca (goodIn_r _ [13, 6, 7, 8, 14, 15, 16, 17, 18, 19, 20, 21, 22, 23, 24, 25] (by decide +kernel) (by decide +kernel)) (goodIn_sub (fun _ h => List.mem_cons_of_mem _ (List.mem_append_right _ h)) (by decide +kernel))
set_option maxRecDepth 20000 in
theorem gX6_requireBoth_X6_requireRight : GoodIn wsX6_requireBoth (wsV RX6 112 RX6 yX6_requireRight wsX6_requireRight) := goodIn_app (goodIn_of _ (by decide +kernel)) ggX6_requireBoth_X6_requireRight
theorem dX6_requireBoth_0 : decode cX6_requireBoth 0 = .ok (.aload_n 0, 1) := by decide +kernel
theorem dX6_requireBoth_1 : decode cX6_requireBoth 1 = .ok (.iload_n 1, 1) := by decide +kernel
theorem dX6_requireBoth_2 : decode cX6_requireBoth 2 = .ok (.invokevirtual 103, 3) := by decide +kernel
theorem dX6_requireBoth_5 : decode cX6_requireBoth 5 = .ok (.aload_n 0, 1) := by decide +kernel
theorem dX6_requireBoth_6 : decode cX6_requireBoth 6 = .ok (.iload_n 2, 1) := by decide +kernel
theorem dX6_requireBoth_7 : decode cX6_requireBoth 7 = .ok (.invokevirtual 112, 3) := by decide +kernel
theorem dX6_requireBoth_10 : decode cX6_requireBoth 10 = .ok (.return_, 1) := by decide +kernel
set_option maxRecDepth 20000 in
theorem ggX6_requireEdge_X6_requireBoth : GoodIn wsX6_requireEdge wsX6_requireBoth := goodIn_ca (goodIn_r _ [8, 9, 10, 11, 7, 12, 13, 14, 3, 15, 16, 17, 18, 19, 20, 29, 30, 31, 32, 33, 34, 35, 36, 37, 38, 39] (by decide +kernel) (by decide +kernel)) (goodIn_sub (fun _ h => List.mem_cons_of_mem _ (List.mem_append_right _ h)) (by decide +kernel))
set_option maxRecDepth 20000 in
theorem gX6_requireEdge_X6_requireBoth : GoodIn wsX6_requireEdge (wsV RX6 70 RX6 yX6_requireBoth wsX6_requireBoth) := goodIn_app (goodIn_of _ (by decide +kernel)) ggX6_requireEdge_X6_requireBoth
set_option maxRecDepth 20000 in
theorem ggX6_requireEdge_X1_has : GoodIn wsX6_requireEdge wsX1_has := goodIn_r _ [25, 26, 27, 7, 28, 35, 36, 37, 38, 39] (by decide +kernel) (by decide +kernel)
set_option maxRecDepth 20000 in
theorem gX6_requireEdge_X1_has : GoodIn wsX6_requireEdge (wsV RX6 74 RX1 yX1_has wsX1_has) := goodIn_app (goodIn_of _ (by decide +kernel)) ggX6_requireEdge_X1_has
theorem dX6_requireEdge_0 : decode cX6_requireEdge 0 = .ok (.aload_n 0, 1) := by decide +kernel
theorem dX6_requireEdge_1 : decode cX6_requireEdge 1 = .ok (.iload_n 1, 1) := by decide +kernel
theorem dX6_requireEdge_2 : decode cX6_requireEdge 2 = .ok (.iload_n 2, 1) := by decide +kernel
theorem dX6_requireEdge_3 : decode cX6_requireEdge 3 = .ok (.invokevirtual 70, 3) := by decide +kernel
theorem dX6_requireEdge_6 : decode cX6_requireEdge 6 = .ok (.aload_n 0, 1) := by decide +kernel
theorem dX6_requireEdge_7 : decode cX6_requireEdge 7 = .ok (.getfield 10, 3) := by decide +kernel
theorem dX6_requireEdge_10 : decode cX6_requireEdge 10 = .ok (.iload_n 1, 1) := by decide +kernel
theorem dX6_requireEdge_11 : decode cX6_requireEdge 11 = .ok (.iload_n 2, 1) := by decide +kernel
theorem dX6_requireEdge_12 : decode cX6_requireEdge 12 = .ok (.invokevirtual 74, 3) := by decide +kernel
theorem dX6_requireEdge_15 : decode cX6_requireEdge 15 = .ok (.ifCond .ne 13, 3) := by decide +kernel
theorem dX6_requireEdge_18 : decode cX6_requireEdge 18 = .ok (.new 107, 3) := by decide +kernel
theorem dX6_requireEdge_21 : decode cX6_requireEdge 21 = .ok (.dup, 1) := by decide +kernel
theorem dX6_requireEdge_22 : decode cX6_requireEdge 22 = .ok (.ldc 186, 2) := by decide +kernel
theorem dX6_requireEdge_24 : decode cX6_requireEdge 24 = .ok (.invokespecial 111, 3) := by decide +kernel
theorem dX6_requireEdge_27 : decode cX6_requireEdge 27 = .ok (.athrow, 1) := by decide +kernel
theorem dX6_requireEdge_28 : decode cX6_requireEdge 28 = .ok (.return_, 1) := by decide +kernel
theorem dX6_requirePhase_0 : decode cX6_requirePhase 0 = .ok (.iload_n 1, 1) := by decide +kernel
theorem dX6_requirePhase_1 : decode cX6_requirePhase 1 = .ok (.ifCond .lt 14, 3) := by decide +kernel
theorem dX6_requirePhase_4 : decode cX6_requirePhase 4 = .ok (.iload_n 1, 1) := by decide +kernel
theorem dX6_requirePhase_5 : decode cX6_requirePhase 5 = .ok (.aload_n 0, 1) := by decide +kernel
theorem dX6_requirePhase_6 : decode cX6_requirePhase 6 = .ok (.getfield 33, 3) := by decide +kernel
theorem dX6_requirePhase_9 : decode cX6_requirePhase 9 = .ok (.getfield 124, 3) := by decide +kernel
theorem dX6_requirePhase_12 : decode cX6_requirePhase 12 = .ok (.if_icmp .lt 13, 3) := by decide +kernel
theorem dX6_requirePhase_15 : decode cX6_requirePhase 15 = .ok (.new 179, 3) := by decide +kernel
theorem dX6_requirePhase_18 : decode cX6_requirePhase 18 = .ok (.dup, 1) := by decide +kernel
theorem dX6_requirePhase_19 : decode cX6_requirePhase 19 = .ok (.ldc 188, 2) := by decide +kernel
theorem dX6_requirePhase_21 : decode cX6_requirePhase 21 = .ok (.invokespecial 183, 3) := by decide +kernel
theorem dX6_requirePhase_24 : decode cX6_requirePhase 24 = .ok (.athrow, 1) := by decide +kernel
theorem dX6_requirePhase_25 : decode cX6_requirePhase 25 = .ok (.return_, 1) := by decide +kernel
set_option maxRecDepth 20000 in
theorem ggX6_requireSquare_X0_leftPart : GoodIn wsX6_requireSquare wsX0_leftPart := goodIn_r _ [8, 9, 10, 11, 12, 7, 13, 14, 15, 16, 23, 24, 25, 26, 27] (by decide +kernel) (by decide +kernel)
set_option maxRecDepth 20000 in
theorem gX6_requireSquare_X0_leftPart : GoodIn wsX6_requireSquare (wsV RX6 147 RX0 yX0_leftPart wsX0_leftPart) := goodIn_app (goodIn_of _ (by decide +kernel)) ggX6_requireSquare_X0_leftPart
theorem dX6_requireSquare_0 : decode cX6_requireSquare 0 = .ok (.aload_n 0, 1) := by decide +kernel
theorem dX6_requireSquare_1 : decode cX6_requireSquare 1 = .ok (.getfield 40, 3) := by decide +kernel
theorem dX6_requireSquare_4 : decode cX6_requireSquare 4 = .ok (.iload_n 1, 1) := by decide +kernel
theorem dX6_requireSquare_5 : decode cX6_requireSquare 5 = .ok (.invokevirtual 147, 3) := by decide +kernel
theorem dX6_requireSquare_8 : decode cX6_requireSquare 8 = .ok (.iconst 1, 1) := by decide +kernel
theorem dX6_requireSquare_9 : decode cX6_requireSquare 9 = .ok (.if_icmp .eq 13, 3) := by decide +kernel
theorem dX6_requireSquare_12 : decode cX6_requireSquare 12 = .ok (.new 107, 3) := by decide +kernel
theorem dX6_requireSquare_15 : decode cX6_requireSquare 15 = .ok (.dup, 1) := by decide +kernel
theorem dX6_requireSquare_16 : decode cX6_requireSquare 16 = .ok (.ldc 190, 2) := by decide +kernel
theorem dX6_requireSquare_18 : decode cX6_requireSquare 18 = .ok (.invokespecial 111, 3) := by decide +kernel
theorem dX6_requireSquare_21 : decode cX6_requireSquare 21 = .ok (.athrow, 1) := by decide +kernel
theorem dX6_requireSquare_22 : decode cX6_requireSquare 22 = .ok (.return_, 1) := by decide +kernel
theorem dX6_holds_0 : decode cX6_holds 0 = .ok (.iload_n 0, 1) := by decide +kernel
theorem dX6_holds_1 : decode cX6_holds 1 = .ok (.iload_n 1, 1) := by decide +kernel
theorem dX6_holds_2 : decode cX6_holds 2 = .ok (.ishr, 1) := by decide +kernel
theorem dX6_holds_3 : decode cX6_holds 3 = .ok (.iconst 1, 1) := by decide +kernel
theorem dX6_holds_4 : decode cX6_holds 4 = .ok (.iand, 1) := by decide +kernel
theorem dX6_holds_5 : decode cX6_holds 5 = .ok (.ifCond .eq 7, 3) := by decide +kernel
theorem dX6_holds_8 : decode cX6_holds 8 = .ok (.iconst 1, 1) := by decide +kernel
theorem dX6_holds_9 : decode cX6_holds 9 = .ok (.goto 4, 3) := by decide +kernel
theorem dX6_holds_12 : decode cX6_holds 12 = .ok (.iconst 0, 1) := by decide +kernel
theorem dX6_holds_13 : decode cX6_holds 13 = .ok (.ireturn, 1) := by decide +kernel
set_option maxRecDepth 20000 in
theorem ggX6_lowest_X6_holds : GoodIn wsX6_lowest wsX6_holds := goodIn_r _ [4] (by decide +kernel) (by decide +kernel)
set_option maxRecDepth 20000 in
theorem gX6_lowest_X6_holds : GoodIn wsX6_lowest (va_wsS RX6 166 yX6_holds wsX6_holds) := goodIn_app (goodIn_of _ (by decide +kernel)) ggX6_lowest_X6_holds
theorem dX6_lowest_0 : decode cX6_lowest 0 = .ok (.iconst 0, 1) := by decide +kernel
theorem dX6_lowest_1 : decode cX6_lowest 1 = .ok (.istore_n 1, 1) := by decide +kernel
theorem dX6_lowest_2 : decode cX6_lowest 2 = .ok (.iload_n 1, 1) := by decide +kernel
theorem dX6_lowest_3 : decode cX6_lowest 3 = .ok (.bipush 12, 2) := by decide +kernel
theorem dX6_lowest_5 : decode cX6_lowest 5 = .ok (.if_icmp .ge 19, 3) := by decide +kernel
theorem dX6_lowest_8 : decode cX6_lowest 8 = .ok (.iload_n 0, 1) := by decide +kernel
theorem dX6_lowest_9 : decode cX6_lowest 9 = .ok (.iload_n 1, 1) := by decide +kernel
theorem dX6_lowest_10 : decode cX6_lowest 10 = .ok (.invokestatic 166, 3) := by decide +kernel
theorem dX6_lowest_13 : decode cX6_lowest 13 = .ok (.ifCond .eq 5, 3) := by decide +kernel
theorem dX6_lowest_16 : decode cX6_lowest 16 = .ok (.iload_n 1, 1) := by decide +kernel
theorem dX6_lowest_17 : decode cX6_lowest 17 = .ok (.ireturn, 1) := by decide +kernel
theorem dX6_lowest_18 : decode cX6_lowest 18 = .ok (.iinc 1 1, 3) := by decide +kernel
theorem dX6_lowest_21 : decode cX6_lowest 21 = .ok (.goto (-19), 3) := by decide +kernel
theorem dX6_lowest_24 : decode cX6_lowest 24 = .ok (.iconst (-1), 1) := by decide +kernel
theorem dX6_lowest_25 : decode cX6_lowest 25 = .ok (.ireturn, 1) := by decide +kernel
set_option maxRecDepth 20000 in
theorem ggX6_countCovers_J6_bitCount_0f7a4 : GoodIn wsX6_countCovers wsJ6_bitCount_0f7a4 := goodIn_r _ [6, 7, 8, 9] (by decide +kernel) (by decide +kernel)
set_option maxRecDepth 20000 in
theorem gX6_countCovers_J6_bitCount_0f7a4 : GoodIn wsX6_countCovers (va_wsS RX6 192 yJ6_bitCount_0f7a4 wsJ6_bitCount_0f7a4) := goodIn_app (goodIn_of _ (by decide +kernel)) ggX6_countCovers_J6_bitCount_0f7a4
set_option maxRecDepth 20000 in
theorem ggX6_countCovers_X6_countCovers : GoodIn wsX6_countCovers wsX6_countCovers := goodIn_r _ [0, 1, 2, 3, 4, 5, 6, 7, 8, 9, 10, 11, 12, 13, 14, 15, 16, 17] (by decide +kernel) (by decide +kernel)
set_option maxRecDepth 20000 in
theorem gX6_countCovers_X6_countCovers : GoodIn wsX6_countCovers (va_wsS RX6 175 yX6_countCovers wsX6_countCovers) := goodIn_app (goodIn_of _ (by decide +kernel)) ggX6_countCovers_X6_countCovers
theorem dX6_countCovers_0 : decode cX6_countCovers 0 = .ok (.iload_n 2, 1) := by decide +kernel
theorem dX6_countCovers_1 : decode cX6_countCovers 1 = .ok (.iload_n 3, 1) := by decide +kernel
theorem dX6_countCovers_2 : decode cX6_countCovers 2 = .ok (.invokestatic 192, 3) := by decide +kernel
theorem dX6_countCovers_5 : decode cX6_countCovers 5 = .ok (.iadd, 1) := by decide +kernel
theorem dX6_countCovers_6 : decode cX6_countCovers 6 = .ok (.iload 4, 2) := by decide +kernel
theorem dX6_countCovers_8 : decode cX6_countCovers 8 = .ok (.if_icmp .le 5, 3) := by decide +kernel
theorem dX6_countCovers_11 : decode cX6_countCovers 11 = .ok (.iconst 0, 1) := by decide +kernel
theorem dX6_countCovers_12 : decode cX6_countCovers 12 = .ok (.ireturn, 1) := by decide +kernel
theorem dX6_countCovers_13 : decode cX6_countCovers 13 = .ok (.iload_n 1, 1) := by decide +kernel
theorem dX6_countCovers_14 : decode cX6_countCovers 14 = .ok (.aload_n 0, 1) := by decide +kernel
theorem dX6_countCovers_15 : decode cX6_countCovers 15 = .ok (.getfield 51, 3) := by decide +kernel
theorem dX6_countCovers_18 : decode cX6_countCovers 18 = .ok (.if_icmp .ge 9, 3) := by decide +kernel
theorem dX6_countCovers_21 : decode cX6_countCovers 21 = .ok (.iload_n 1, 1) := by decide +kernel
theorem dX6_countCovers_22 : decode cX6_countCovers 22 = .ok (.bipush 12, 2) := by decide +kernel
theorem dX6_countCovers_24 : decode cX6_countCovers 24 = .ok (.if_icmp .lt 5, 3) := by decide +kernel
theorem dX6_countCovers_27 : decode cX6_countCovers 27 = .ok (.iconst 1, 1) := by decide +kernel
theorem dX6_countCovers_28 : decode cX6_countCovers 28 = .ok (.ireturn, 1) := by decide +kernel
theorem dX6_countCovers_29 : decode cX6_countCovers 29 = .ok (.aload_n 0, 1) := by decide +kernel
theorem dX6_countCovers_30 : decode cX6_countCovers 30 = .ok (.iload_n 1, 1) := by decide +kernel
theorem dX6_countCovers_31 : decode cX6_countCovers 31 = .ok (.iconst 1, 1) := by decide +kernel
theorem dX6_countCovers_32 : decode cX6_countCovers 32 = .ok (.iadd, 1) := by decide +kernel
theorem dX6_countCovers_33 : decode cX6_countCovers 33 = .ok (.iload_n 2, 1) := by decide +kernel
theorem dX6_countCovers_34 : decode cX6_countCovers 34 = .ok (.iconst 1, 1) := by decide +kernel
theorem dX6_countCovers_35 : decode cX6_countCovers 35 = .ok (.iadd, 1) := by decide +kernel
theorem dX6_countCovers_36 : decode cX6_countCovers 36 = .ok (.iload_n 3, 1) := by decide +kernel
theorem dX6_countCovers_37 : decode cX6_countCovers 37 = .ok (.iload 4, 2) := by decide +kernel
theorem dX6_countCovers_39 : decode cX6_countCovers 39 = .ok (.invokestatic 175, 3) := by decide +kernel
theorem dX6_countCovers_42 : decode cX6_countCovers 42 = .ok (.aload_n 0, 1) := by decide +kernel
theorem dX6_countCovers_43 : decode cX6_countCovers 43 = .ok (.iload_n 1, 1) := by decide +kernel
theorem dX6_countCovers_44 : decode cX6_countCovers 44 = .ok (.iconst 1, 1) := by decide +kernel
theorem dX6_countCovers_45 : decode cX6_countCovers 45 = .ok (.iadd, 1) := by decide +kernel
theorem dX6_countCovers_46 : decode cX6_countCovers 46 = .ok (.iload_n 2, 1) := by decide +kernel
theorem dX6_countCovers_47 : decode cX6_countCovers 47 = .ok (.iload_n 3, 1) := by decide +kernel
theorem dX6_countCovers_48 : decode cX6_countCovers 48 = .ok (.aload_n 0, 1) := by decide +kernel
theorem dX6_countCovers_49 : decode cX6_countCovers 49 = .ok (.getfield 197, 3) := by decide +kernel
theorem dX6_countCovers_52 : decode cX6_countCovers 52 = .ok (.iload_n 1, 1) := by decide +kernel
theorem dX6_countCovers_53 : decode cX6_countCovers 53 = .ok (.iaload, 1) := by decide +kernel
theorem dX6_countCovers_54 : decode cX6_countCovers 54 = .ok (.ior, 1) := by decide +kernel
theorem dX6_countCovers_55 : decode cX6_countCovers 55 = .ok (.iload 4, 2) := by decide +kernel
theorem dX6_countCovers_57 : decode cX6_countCovers 57 = .ok (.invokestatic 175, 3) := by decide +kernel
theorem dX6_countCovers_60 : decode cX6_countCovers 60 = .ok (.iadd, 1) := by decide +kernel
theorem dX6_countCovers_61 : decode cX6_countCovers 61 = .ok (.ireturn, 1) := by decide +kernel
theorem dJ6_bitCount_0f7a4_0 : decode cJ6_bitCount_0f7a4 0 = .ok (.iload_n 0, 1) := by decide +kernel
theorem dJ6_bitCount_0f7a4_1 : decode cJ6_bitCount_0f7a4 1 = .ok (.iload_n 0, 1) := by decide +kernel
theorem dJ6_bitCount_0f7a4_2 : decode cJ6_bitCount_0f7a4 2 = .ok (.iconst 1, 1) := by decide +kernel
theorem dJ6_bitCount_0f7a4_3 : decode cJ6_bitCount_0f7a4 3 = .ok (.iushr, 1) := by decide +kernel
theorem dJ6_bitCount_0f7a4_4 : decode cJ6_bitCount_0f7a4 4 = .ok (.ldc_w 265, 3) := by decide +kernel
theorem dJ6_bitCount_0f7a4_7 : decode cJ6_bitCount_0f7a4 7 = .ok (.iand, 1) := by decide +kernel
theorem dJ6_bitCount_0f7a4_8 : decode cJ6_bitCount_0f7a4 8 = .ok (.isub, 1) := by decide +kernel
theorem dJ6_bitCount_0f7a4_9 : decode cJ6_bitCount_0f7a4 9 = .ok (.istore_n 0, 1) := by decide +kernel
theorem dJ6_bitCount_0f7a4_10 : decode cJ6_bitCount_0f7a4 10 = .ok (.iload_n 0, 1) := by decide +kernel
theorem dJ6_bitCount_0f7a4_11 : decode cJ6_bitCount_0f7a4 11 = .ok (.ldc_w 266, 3) := by decide +kernel
theorem dJ6_bitCount_0f7a4_14 : decode cJ6_bitCount_0f7a4 14 = .ok (.iand, 1) := by decide +kernel
theorem dJ6_bitCount_0f7a4_15 : decode cJ6_bitCount_0f7a4 15 = .ok (.iload_n 0, 1) := by decide +kernel
theorem dJ6_bitCount_0f7a4_16 : decode cJ6_bitCount_0f7a4 16 = .ok (.iconst 2, 1) := by decide +kernel
theorem dJ6_bitCount_0f7a4_17 : decode cJ6_bitCount_0f7a4 17 = .ok (.iushr, 1) := by decide +kernel
theorem dJ6_bitCount_0f7a4_18 : decode cJ6_bitCount_0f7a4 18 = .ok (.ldc_w 266, 3) := by decide +kernel
theorem dJ6_bitCount_0f7a4_21 : decode cJ6_bitCount_0f7a4 21 = .ok (.iand, 1) := by decide +kernel
theorem dJ6_bitCount_0f7a4_22 : decode cJ6_bitCount_0f7a4 22 = .ok (.iadd, 1) := by decide +kernel
theorem dJ6_bitCount_0f7a4_23 : decode cJ6_bitCount_0f7a4 23 = .ok (.istore_n 0, 1) := by decide +kernel
theorem dJ6_bitCount_0f7a4_24 : decode cJ6_bitCount_0f7a4 24 = .ok (.iload_n 0, 1) := by decide +kernel
theorem dJ6_bitCount_0f7a4_25 : decode cJ6_bitCount_0f7a4 25 = .ok (.iload_n 0, 1) := by decide +kernel
theorem dJ6_bitCount_0f7a4_26 : decode cJ6_bitCount_0f7a4 26 = .ok (.iconst 4, 1) := by decide +kernel
theorem dJ6_bitCount_0f7a4_27 : decode cJ6_bitCount_0f7a4 27 = .ok (.iushr, 1) := by decide +kernel
theorem dJ6_bitCount_0f7a4_28 : decode cJ6_bitCount_0f7a4 28 = .ok (.iadd, 1) := by decide +kernel
theorem dJ6_bitCount_0f7a4_29 : decode cJ6_bitCount_0f7a4 29 = .ok (.ldc_w 267, 3) := by decide +kernel
theorem dJ6_bitCount_0f7a4_32 : decode cJ6_bitCount_0f7a4 32 = .ok (.iand, 1) := by decide +kernel
theorem dJ6_bitCount_0f7a4_33 : decode cJ6_bitCount_0f7a4 33 = .ok (.istore_n 0, 1) := by decide +kernel
theorem dJ6_bitCount_0f7a4_34 : decode cJ6_bitCount_0f7a4 34 = .ok (.iload_n 0, 1) := by decide +kernel
theorem dJ6_bitCount_0f7a4_35 : decode cJ6_bitCount_0f7a4 35 = .ok (.iload_n 0, 1) := by decide +kernel
theorem dJ6_bitCount_0f7a4_36 : decode cJ6_bitCount_0f7a4 36 = .ok (.bipush 8, 2) := by decide +kernel
theorem dJ6_bitCount_0f7a4_38 : decode cJ6_bitCount_0f7a4 38 = .ok (.iushr, 1) := by decide +kernel
theorem dJ6_bitCount_0f7a4_39 : decode cJ6_bitCount_0f7a4 39 = .ok (.iadd, 1) := by decide +kernel
theorem dJ6_bitCount_0f7a4_40 : decode cJ6_bitCount_0f7a4 40 = .ok (.istore_n 0, 1) := by decide +kernel
theorem dJ6_bitCount_0f7a4_41 : decode cJ6_bitCount_0f7a4 41 = .ok (.iload_n 0, 1) := by decide +kernel
theorem dJ6_bitCount_0f7a4_42 : decode cJ6_bitCount_0f7a4 42 = .ok (.iload_n 0, 1) := by decide +kernel
theorem dJ6_bitCount_0f7a4_43 : decode cJ6_bitCount_0f7a4 43 = .ok (.bipush 16, 2) := by decide +kernel
theorem dJ6_bitCount_0f7a4_45 : decode cJ6_bitCount_0f7a4 45 = .ok (.iushr, 1) := by decide +kernel
theorem dJ6_bitCount_0f7a4_46 : decode cJ6_bitCount_0f7a4 46 = .ok (.iadd, 1) := by decide +kernel
theorem dJ6_bitCount_0f7a4_47 : decode cJ6_bitCount_0f7a4 47 = .ok (.istore_n 0, 1) := by decide +kernel
theorem dJ6_bitCount_0f7a4_48 : decode cJ6_bitCount_0f7a4 48 = .ok (.iload_n 0, 1) := by decide +kernel
theorem dJ6_bitCount_0f7a4_49 : decode cJ6_bitCount_0f7a4 49 = .ok (.bipush 63, 2) := by decide +kernel
theorem dJ6_bitCount_0f7a4_51 : decode cJ6_bitCount_0f7a4 51 = .ok (.iand, 1) := by decide +kernel
theorem dJ6_bitCount_0f7a4_52 : decode cJ6_bitCount_0f7a4 52 = .ok (.ireturn, 1) := by decide +kernel
theorem dJ7_fill_d0a16_0 : decode cJ7_fill_d0a16 0 = .ok (.iconst 0, 1) := by decide +kernel
theorem dJ7_fill_d0a16_1 : decode cJ7_fill_d0a16 1 = .ok (.istore_n 3, 1) := by decide +kernel
theorem dJ7_fill_d0a16_2 : decode cJ7_fill_d0a16 2 = .ok (.aload_n 0, 1) := by decide +kernel
theorem dJ7_fill_d0a16_3 : decode cJ7_fill_d0a16 3 = .ok (.arraylength, 1) := by decide +kernel
theorem dJ7_fill_d0a16_4 : decode cJ7_fill_d0a16 4 = .ok (.istore 4, 2) := by decide +kernel
theorem dJ7_fill_d0a16_6 : decode cJ7_fill_d0a16 6 = .ok (.iload_n 3, 1) := by decide +kernel
theorem dJ7_fill_d0a16_7 : decode cJ7_fill_d0a16 7 = .ok (.iload 4, 2) := by decide +kernel
theorem dJ7_fill_d0a16_9 : decode cJ7_fill_d0a16 9 = .ok (.if_icmp .ge 13, 3) := by decide +kernel
theorem dJ7_fill_d0a16_12 : decode cJ7_fill_d0a16 12 = .ok (.aload_n 0, 1) := by decide +kernel
theorem dJ7_fill_d0a16_13 : decode cJ7_fill_d0a16 13 = .ok (.iload_n 3, 1) := by decide +kernel
theorem dJ7_fill_d0a16_14 : decode cJ7_fill_d0a16 14 = .ok (.lload_n 1, 1) := by decide +kernel
theorem dJ7_fill_d0a16_15 : decode cJ7_fill_d0a16 15 = .ok (.lastore, 1) := by decide +kernel
theorem dJ7_fill_d0a16_16 : decode cJ7_fill_d0a16 16 = .ok (.iinc 3 1, 3) := by decide +kernel
theorem dJ7_fill_d0a16_19 : decode cJ7_fill_d0a16 19 = .ok (.goto (-13), 3) := by decide +kernel
theorem dJ7_fill_d0a16_22 : decode cJ7_fill_d0a16 22 = .ok (.return_, 1) := by decide +kernel
theorem dJ7_fill_53178_0 : decode cJ7_fill_53178 0 = .ok (.iconst 0, 1) := by decide +kernel
theorem dJ7_fill_53178_1 : decode cJ7_fill_53178 1 = .ok (.istore_n 2, 1) := by decide +kernel
theorem dJ7_fill_53178_2 : decode cJ7_fill_53178 2 = .ok (.aload_n 0, 1) := by decide +kernel
theorem dJ7_fill_53178_3 : decode cJ7_fill_53178 3 = .ok (.arraylength, 1) := by decide +kernel
theorem dJ7_fill_53178_4 : decode cJ7_fill_53178 4 = .ok (.istore_n 3, 1) := by decide +kernel
theorem dJ7_fill_53178_5 : decode cJ7_fill_53178 5 = .ok (.iload_n 2, 1) := by decide +kernel
theorem dJ7_fill_53178_6 : decode cJ7_fill_53178 6 = .ok (.iload_n 3, 1) := by decide +kernel
theorem dJ7_fill_53178_7 : decode cJ7_fill_53178 7 = .ok (.if_icmp .ge 13, 3) := by decide +kernel
theorem dJ7_fill_53178_10 : decode cJ7_fill_53178 10 = .ok (.aload_n 0, 1) := by decide +kernel
theorem dJ7_fill_53178_11 : decode cJ7_fill_53178 11 = .ok (.iload_n 2, 1) := by decide +kernel
theorem dJ7_fill_53178_12 : decode cJ7_fill_53178 12 = .ok (.iload_n 1, 1) := by decide +kernel
theorem dJ7_fill_53178_13 : decode cJ7_fill_53178 13 = .ok (.iastore, 1) := by decide +kernel
theorem dJ7_fill_53178_14 : decode cJ7_fill_53178 14 = .ok (.iinc 2 1, 3) := by decide +kernel
theorem dJ7_fill_53178_17 : decode cJ7_fill_53178 17 = .ok (.goto (-12), 3) := by decide +kernel
theorem dJ7_fill_53178_20 : decode cJ7_fill_53178 20 = .ok (.return_, 1) := by decide +kernel
