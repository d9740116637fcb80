theorem dX7_init_0 : decode cX7_init 0 = .ok (.aload_n 0, 1) := by decide +kernel
theorem dX7_init_1 : decode cX7_init 1 = .ok (.invokespecial 1, 3) := by decide +kernel
theorem dX7_init_4 : decode cX7_init 4 = .ok (.aload_n 0, 1) := by decide +kernel
theorem dX7_init_5 : decode cX7_init 5 = .ok (.sipush 144, 3) := by decide +kernel
theorem dX7_init_8 : decode cX7_init 8 = .ok (.newarray .boolean, 2) := by decide +kernel
theorem dX7_init_10 : decode cX7_init 10 = .ok (.putfield 7, 3) := by decide +kernel
theorem dX7_init_13 : decode cX7_init 13 = .ok (.aload_n 0, 1) := by decide +kernel
theorem dX7_init_14 : decode cX7_init 14 = .ok (.bipush 12, 2) := by decide +kernel
theorem dX7_init_16 : decode cX7_init 16 = .ok (.newarray .int, 2) := by decide +kernel
theorem dX7_init_18 : decode cX7_init 18 = .ok (.putfield 13, 3) := by decide +kernel
theorem dX7_init_21 : decode cX7_init 21 = .ok (.aload_n 0, 1) := by decide +kernel
theorem dX7_init_22 : decode cX7_init 22 = .ok (.bipush 12, 2) := by decide +kernel
theorem dX7_init_24 : decode cX7_init 24 = .ok (.newarray .int, 2) := by decide +kernel
theorem dX7_init_26 : decode cX7_init 26 = .ok (.putfield 17, 3) := by decide +kernel
theorem dX7_init_29 : decode cX7_init 29 = .ok (.aload_n 0, 1) := by decide +kernel
theorem dX7_init_30 : decode cX7_init 30 = .ok (.bipush 12, 2) := by decide +kernel
theorem dX7_init_32 : decode cX7_init 32 = .ok (.newarray .int, 2) := by decide +kernel
theorem dX7_init_34 : decode cX7_init 34 = .ok (.putfield 20, 3) := by decide +kernel
theorem dX7_init_37 : decode cX7_init 37 = .ok (.aload_n 0, 1) := by decide +kernel
theorem dX7_init_38 : decode cX7_init 38 = .ok (.bipush 12, 2) := by decide +kernel
theorem dX7_init_40 : decode cX7_init 40 = .ok (.newarray .int, 2) := by decide +kernel
theorem dX7_init_42 : decode cX7_init 42 = .ok (.putfield 23, 3) := by decide +kernel
theorem dX7_init_45 : decode cX7_init 45 = .ok (.aload_n 0, 1) := by decide +kernel
theorem dX7_init_46 : decode cX7_init 46 = .ok (.bipush 32, 2) := by decide +kernel
theorem dX7_init_48 : decode cX7_init 48 = .ok (.newarray .int, 2) := by decide +kernel
theorem dX7_init_50 : decode cX7_init 50 = .ok (.putfield 26, 3) := by decide +kernel
theorem dX7_init_53 : decode cX7_init 53 = .ok (.aload_n 0, 1) := by decide +kernel
theorem dX7_init_54 : decode cX7_init 54 = .ok (.bipush 32, 2) := by decide +kernel
theorem dX7_init_56 : decode cX7_init 56 = .ok (.newarray .int, 2) := by decide +kernel
theorem dX7_init_58 : decode cX7_init 58 = .ok (.putfield 29, 3) := by decide +kernel
theorem dX7_init_61 : decode cX7_init 61 = .ok (.aload_n 0, 1) := by decide +kernel
theorem dX7_init_62 : decode cX7_init 62 = .ok (.bipush 12, 2) := by decide +kernel
theorem dX7_init_64 : decode cX7_init 64 = .ok (.newarray .int, 2) := by decide +kernel
theorem dX7_init_66 : decode cX7_init 66 = .ok (.putfield 32, 3) := by decide +kernel
theorem dX7_init_69 : decode cX7_init 69 = .ok (.aload_n 0, 1) := by decide +kernel
theorem dX7_init_70 : decode cX7_init 70 = .ok (.bipush 12, 2) := by decide +kernel
theorem dX7_init_72 : decode cX7_init 72 = .ok (.newarray .boolean, 2) := by decide +kernel
theorem dX7_init_74 : decode cX7_init 74 = .ok (.putfield 35, 3) := by decide +kernel
theorem dX7_init_77 : decode cX7_init 77 = .ok (.aload_n 0, 1) := by decide +kernel
theorem dX7_init_78 : decode cX7_init 78 = .ok (.bipush 12, 2) := by decide +kernel
theorem dX7_init_80 : decode cX7_init 80 = .ok (.newarray .boolean, 2) := by decide +kernel
theorem dX7_init_82 : decode cX7_init 82 = .ok (.putfield 38, 3) := by decide +kernel
theorem dX7_init_85 : decode cX7_init 85 = .ok (.aload_n 0, 1) := by decide +kernel
theorem dX7_init_86 : decode cX7_init 86 = .ok (.bipush 12, 2) := by decide +kernel
theorem dX7_init_88 : decode cX7_init 88 = .ok (.newarray .int, 2) := by decide +kernel
theorem dX7_init_90 : decode cX7_init 90 = .ok (.putfield 41, 3) := by decide +kernel
theorem dX7_init_93 : decode cX7_init 93 = .ok (.aload_n 0, 1) := by decide +kernel
theorem dX7_init_94 : decode cX7_init 94 = .ok (.bipush 12, 2) := by decide +kernel
theorem dX7_init_96 : decode cX7_init 96 = .ok (.newarray .int, 2) := by decide +kernel
theorem dX7_init_98 : decode cX7_init 98 = .ok (.putfield 44, 3) := by decide +kernel
theorem dX7_init_101 : decode cX7_init 101 = .ok (.aload_n 0, 1) := by decide +kernel
theorem dX7_init_102 : decode cX7_init 102 = .ok (.bipush 12, 2) := by decide +kernel
theorem dX7_init_104 : decode cX7_init 104 = .ok (.newarray .int, 2) := by decide +kernel
theorem dX7_init_106 : decode cX7_init 106 = .ok (.putfield 47, 3) := by decide +kernel
theorem dX7_init_109 : decode cX7_init 109 = .ok (.aload_n 0, 1) := by decide +kernel
theorem dX7_init_110 : decode cX7_init 110 = .ok (.bipush 24, 2) := by decide +kernel
theorem dX7_init_112 : decode cX7_init 112 = .ok (.newarray .boolean, 2) := by decide +kernel
theorem dX7_init_114 : decode cX7_init 114 = .ok (.putfield 50, 3) := by decide +kernel
theorem dX7_init_117 : decode cX7_init 117 = .ok (.aload_n 0, 1) := by decide +kernel
theorem dX7_init_118 : decode cX7_init 118 = .ok (.bipush 24, 2) := by decide +kernel
theorem dX7_init_120 : decode cX7_init 120 = .ok (.newarray .boolean, 2) := by decide +kernel
theorem dX7_init_122 : decode cX7_init 122 = .ok (.putfield 53, 3) := by decide +kernel
theorem dX7_init_125 : decode cX7_init 125 = .ok (.aload_n 0, 1) := by decide +kernel
theorem dX7_init_126 : decode cX7_init 126 = .ok (.sipush 144, 3) := by decide +kernel
theorem dX7_init_129 : decode cX7_init 129 = .ok (.newarray .boolean, 2) := by decide +kernel
theorem dX7_init_131 : decode cX7_init 131 = .ok (.putfield 56, 3) := by decide +kernel
theorem dX7_init_134 : decode cX7_init 134 = .ok (.aload_n 0, 1) := by decide +kernel
theorem dX7_init_135 : decode cX7_init 135 = .ok (.sipush 4096, 3) := by decide +kernel
theorem dX7_init_138 : decode cX7_init 138 = .ok (.newarray .long, 2) := by decide +kernel
theorem dX7_init_140 : decode cX7_init 140 = .ok (.putfield 59, 3) := by decide +kernel
theorem dX7_init_143 : decode cX7_init 143 = .ok (.iconst 0, 1) := by decide +kernel
theorem dX7_init_144 : decode cX7_init 144 = .ok (.istore_n 1, 1) := by decide +kernel
theorem dX7_init_145 : decode cX7_init 145 = .ok (.iload_n 1, 1) := by decide +kernel
theorem dX7_init_146 : decode cX7_init 146 = .ok (.bipush 12, 2) := by decide +kernel
theorem dX7_init_148 : decode cX7_init 148 = .ok (.if_icmp .ge 23, 3) := by decide +kernel
theorem dX7_init_151 : decode cX7_init 151 = .ok (.aload_n 0, 1) := by decide +kernel
theorem dX7_init_152 : decode cX7_init 152 = .ok (.getfield 13, 3) := by decide +kernel
theorem dX7_init_155 : decode cX7_init 155 = .ok (.iload_n 1, 1) := by decide +kernel
theorem dX7_init_156 : decode cX7_init 156 = .ok (.iconst (-1), 1) := by decide +kernel
theorem dX7_init_157 : decode cX7_init 157 = .ok (.iastore, 1) := by decide +kernel
theorem dX7_init_158 : decode cX7_init 158 = .ok (.aload_n 0, 1) := by decide +kernel
theorem dX7_init_159 : decode cX7_init 159 = .ok (.getfield 17, 3) := by decide +kernel
theorem dX7_init_162 : decode cX7_init 162 = .ok (.iload_n 1, 1) := by decide +kernel
theorem dX7_init_163 : decode cX7_init 163 = .ok (.iconst (-1), 1) := by decide +kernel
theorem dX7_init_164 : decode cX7_init 164 = .ok (.iastore, 1) := by decide +kernel
theorem dX7_init_165 : decode cX7_init 165 = .ok (.iinc 1 1, 3) := by decide +kernel
theorem dX7_init_168 : decode cX7_init 168 = .ok (.goto (-23), 3) := by decide +kernel
theorem dX7_init_171 : decode cX7_init 171 = .ok (.return_, 1) := by decide +kernel
theorem dX7_thrown_0 : decode cX7_thrown 0 = .ok (.aload_n 0, 1) := by decide +kernel
theorem dX7_thrown_1 : decode cX7_thrown 1 = .ok (.getfield 63, 3) := by decide +kernel
theorem dX7_thrown_4 : decode cX7_thrown 4 = .ok (.ireturn, 1) := by decide +kernel
theorem dX7_refused_0 : decode cX7_refused 0 = .ok (.aload_n 0, 1) := by decide +kernel
theorem dX7_refused_1 : decode cX7_refused 1 = .ok (.iload_n 1, 1) := by decide +kernel
theorem dX7_refused_2 : decode cX7_refused 2 = .ok (.putfield 63, 3) := by decide +kernel
theorem dX7_refused_5 : decode cX7_refused 5 = .ok (.iload_n 1, 1) := by decide +kernel
theorem dX7_refused_6 : decode cX7_refused 6 = .ok (.ifCond .eq 7, 3) := by decide +kernel
theorem dX7_refused_9 : decode cX7_refused 9 = .ok (.iconst 1, 1) := by decide +kernel
theorem dX7_refused_10 : decode cX7_refused 10 = .ok (.goto 4, 3) := by decide +kernel
theorem dX7_refused_13 : decode cX7_refused 13 = .ok (.iconst 0, 1) := by decide +kernel
theorem dX7_refused_14 : decode cX7_refused 14 = .ok (.ireturn, 1) := by decide +kernel
theorem dX7_fine_0 : decode cX7_fine 0 = .ok (.aload_n 0, 1) := by decide +kernel
theorem dX7_fine_1 : decode cX7_fine 1 = .ok (.iconst 0, 1) := by decide +kernel
theorem dX7_fine_2 : decode cX7_fine 2 = .ok (.putfield 63, 3) := by decide +kernel
theorem dX7_fine_5 : decode cX7_fine 5 = .ok (.iload_n 1, 1) := by decide +kernel
theorem dX7_fine_6 : decode cX7_fine 6 = .ok (.ireturn, 1) := by decide +kernel
theorem dX7_isLeft_0 : decode cX7_isLeft 0 = .ok (.iload_n 1, 1) := by decide +kernel
theorem dX7_isLeft_1 : decode cX7_isLeft 1 = .ok (.ifCond .lt 15, 3) := by decide +kernel
theorem dX7_isLeft_4 : decode cX7_isLeft 4 = .ok (.iload_n 1, 1) := by decide +kernel
theorem dX7_isLeft_5 : decode cX7_isLeft 5 = .ok (.aload_n 0, 1) := by decide +kernel
theorem dX7_isLeft_6 : decode cX7_isLeft 6 = .ok (.getfield 67, 3) := by decide +kernel
theorem dX7_isLeft_9 : decode cX7_isLeft 9 = .ok (.if_icmp .ge 7, 3) := by decide +kernel
theorem dX7_isLeft_12 : decode cX7_isLeft 12 = .ok (.iconst 1, 1) := by decide +kernel
theorem dX7_isLeft_13 : decode cX7_isLeft 13 = .ok (.goto 4, 3) := by decide +kernel
theorem dX7_isLeft_16 : decode cX7_isLeft 16 = .ok (.iconst 0, 1) := by decide +kernel
theorem dX7_isLeft_17 : decode cX7_isLeft 17 = .ok (.ireturn, 1) := by decide +kernel
theorem dX7_isRight_0 : decode cX7_isRight 0 = .ok (.iload_n 1, 1) := by decide +kernel
theorem dX7_isRight_1 : decode cX7_isRight 1 = .ok (.ifCond .lt 15, 3) := by decide +kernel
theorem dX7_isRight_4 : decode cX7_isRight 4 = .ok (.iload_n 1, 1) := by decide +kernel
theorem dX7_isRight_5 : decode cX7_isRight 5 = .ok (.aload_n 0, 1) := by decide +kernel
theorem dX7_isRight_6 : decode cX7_isRight 6 = .ok (.getfield 70, 3) := by decide +kernel
theorem dX7_isRight_9 : decode cX7_isRight 9 = .ok (.if_icmp .ge 7, 3) := by decide +kernel
theorem dX7_isRight_12 : decode cX7_isRight 12 = .ok (.iconst 1, 1) := by decide +kernel
theorem dX7_isRight_13 : decode cX7_isRight 13 = .ok (.goto 4, 3) := by decide +kernel
theorem dX7_isRight_16 : decode cX7_isRight 16 = .ok (.iconst 0, 1) := by decide +kernel
theorem dX7_isRight_17 : decode cX7_isRight 17 = .ok (.ireturn, 1) := by decide +kernel
theorem dX7_isEdge_0 : decode cX7_isEdge 0 = .ok (.aload_n 0, 1) := by decide +kernel
theorem dX7_isEdge_1 : decode cX7_isEdge 1 = .ok (.getfield 7, 3) := by decide +kernel
theorem dX7_isEdge_4 : decode cX7_isEdge 4 = .ok (.bipush 12, 2) := by decide +kernel
theorem dX7_isEdge_6 : decode cX7_isEdge 6 = .ok (.iload_n 1, 1) := by decide +kernel
theorem dX7_isEdge_7 : decode cX7_isEdge 7 = .ok (.imul, 1) := by decide +kernel
theorem dX7_isEdge_8 : decode cX7_isEdge 8 = .ok (.iload_n 2, 1) := by decide +kernel
theorem dX7_isEdge_9 : decode cX7_isEdge 9 = .ok (.iadd, 1) := by decide +kernel
theorem dX7_isEdge_10 : decode cX7_isEdge 10 = .ok (.baload, 1) := by decide +kernel
theorem dX7_isEdge_11 : decode cX7_isEdge 11 = .ok (.ireturn, 1) := by decide +kernel
set_option maxRecDepth 20000 in
theorem ggX7_addLeft_X7_refused : GoodIn wsX7_addLeft wsX7_refused := goodIn_r _ [6, 7, 8, 9, 10, 11, 12, 13, 14, 15, 16, 17, 18, 19, 20, 21, 22, 23, 24, 25, 26, 27] (by decide +kernel) (by decide +kernel)
set_option maxRecDepth 20000 in
theorem gX7_addLeft_X7_refused : GoodIn wsX7_addLeft (wsV RX7 73 RX7 yX7_refused wsX7_refused) := goodIn_app (goodIn_of _ (by decide +kernel)) ggX7_addLeft_X7_refused
theorem dX7_addLeft_0 : decode cX7_addLeft 0 = .ok (.aload_n 0, 1) := by decide +kernel
theorem dX7_addLeft_1 : decode cX7_addLeft 1 = .ok (.aload_n 0, 1) := by decide +kernel
theorem dX7_addLeft_2 : decode cX7_addLeft 2 = .ok (.getfield 67, 3) := by decide +kernel
theorem dX7_addLeft_5 : decode cX7_addLeft 5 = .ok (.bipush 12, 2) := by decide +kernel
theorem dX7_addLeft_7 : decode cX7_addLeft 7 = .ok (.if_icmp .ne 7, 3) := by decide +kernel
theorem dX7_addLeft_10 : decode cX7_addLeft 10 = .ok (.iconst 1, 1) := by decide +kernel
theorem dX7_addLeft_11 : decode cX7_addLeft 11 = .ok (.goto 4, 3) := by decide +kernel
theorem dX7_addLeft_14 : decode cX7_addLeft 14 = .ok (.iconst 0, 1) := by decide +kernel
theorem dX7_addLeft_15 : decode cX7_addLeft 15 = .ok (.invokevirtual 73, 3) := by decide +kernel
theorem dX7_addLeft_18 : decode cX7_addLeft 18 = .ok (.ifCond .eq 5, 3) := by decide +kernel
theorem dX7_addLeft_21 : decode cX7_addLeft 21 = .ok (.iconst 0, 1) := by decide +kernel
theorem dX7_addLeft_22 : decode cX7_addLeft 22 = .ok (.ireturn, 1) := by decide +kernel
theorem dX7_addLeft_23 : decode cX7_addLeft 23 = .ok (.aload_n 0, 1) := by decide +kernel
theorem dX7_addLeft_24 : decode cX7_addLeft 24 = .ok (.dup, 1) := by decide +kernel
theorem dX7_addLeft_25 : decode cX7_addLeft 25 = .ok (.getfield 67, 3) := by decide +kernel
theorem dX7_addLeft_28 : decode cX7_addLeft 28 = .ok (.iconst 1, 1) := by decide +kernel
theorem dX7_addLeft_29 : decode cX7_addLeft 29 = .ok (.iadd, 1) := by decide +kernel
theorem dX7_addLeft_30 : decode cX7_addLeft 30 = .ok (.putfield 67, 3) := by decide +kernel
theorem dX7_addLeft_33 : decode cX7_addLeft 33 = .ok (.aload_n 0, 1) := by decide +kernel
theorem dX7_addLeft_34 : decode cX7_addLeft 34 = .ok (.getfield 67, 3) := by decide +kernel
theorem dX7_addLeft_37 : decode cX7_addLeft 37 = .ok (.iconst 1, 1) := by decide +kernel
theorem dX7_addLeft_38 : decode cX7_addLeft 38 = .ok (.isub, 1) := by decide +kernel
theorem dX7_addLeft_39 : decode cX7_addLeft 39 = .ok (.ireturn, 1) := by decide +kernel
set_option maxRecDepth 20000 in
theorem ggX7_addRight_X7_refused : GoodIn wsX7_addRight wsX7_refused := goodIn_r _ [6, 7, 8, 9, 10, 11, 12, 13, 14, 15, 16, 17, 18, 19, 20, 21, 22, 23, 24, 25, 26, 27] (by decide +kernel) (by decide +kernel)
set_option maxRecDepth 20000 in
theorem gX7_addRight_X7_refused : GoodIn wsX7_addRight (wsV RX7 73 RX7 yX7_refused wsX7_refused) := goodIn_app (goodIn_of _ (by decide +kernel)) ggX7_addRight_X7_refused
theorem dX7_addRight_0 : decode cX7_addRight 0 = .ok (.aload_n 0, 1) := by decide +kernel
theorem dX7_addRight_1 : decode cX7_addRight 1 = .ok (.aload_n 0, 1) := by decide +kernel
theorem dX7_addRight_2 : decode cX7_addRight 2 = .ok (.getfield 70, 3) := by decide +kernel
theorem dX7_addRight_5 : decode cX7_addRight 5 = .ok (.bipush 12, 2) := by decide +kernel
theorem dX7_addRight_7 : decode cX7_addRight 7 = .ok (.if_icmp .ne 7, 3) := by decide +kernel
theorem dX7_addRight_10 : decode cX7_addRight 10 = .ok (.iconst 1, 1) := by decide +kernel
theorem dX7_addRight_11 : decode cX7_addRight 11 = .ok (.goto 4, 3) := by decide +kernel
theorem dX7_addRight_14 : decode cX7_addRight 14 = .ok (.iconst 0, 1) := by decide +kernel
theorem dX7_addRight_15 : decode cX7_addRight 15 = .ok (.invokevirtual 73, 3) := by decide +kernel
theorem dX7_addRight_18 : decode cX7_addRight 18 = .ok (.ifCond .eq 5, 3) := by decide +kernel
theorem dX7_addRight_21 : decode cX7_addRight 21 = .ok (.iconst 0, 1) := by decide +kernel
theorem dX7_addRight_22 : decode cX7_addRight 22 = .ok (.ireturn, 1) := by decide +kernel
theorem dX7_addRight_23 : decode cX7_addRight 23 = .ok (.aload_n 0, 1) := by decide +kernel
theorem dX7_addRight_24 : decode cX7_addRight 24 = .ok (.dup, 1) := by decide +kernel
theorem dX7_addRight_25 : decode cX7_addRight 25 = .ok (.getfield 70, 3) := by decide +kernel
theorem dX7_addRight_28 : decode cX7_addRight 28 = .ok (.iconst 1, 1) := by decide +kernel
theorem dX7_addRight_29 : decode cX7_addRight 29 = .ok (.iadd, 1) := by decide +kernel
theorem dX7_addRight_30 : decode cX7_addRight 30 = .ok (.putfield 70, 3) := by decide +kernel
theorem dX7_addRight_33 : decode cX7_addRight 33 = .ok (.aload_n 0, 1) := by decide +kernel
theorem dX7_addRight_34 : decode cX7_addRight 34 = .ok (.getfield 70, 3) := by decide +kernel
theorem dX7_addRight_37 : decode cX7_addRight 37 = .ok (.iconst 1, 1) := by decide +kernel
theorem dX7_addRight_38 : decode cX7_addRight 38 = .ok (.isub, 1) := by decide +kernel
theorem dX7_addRight_39 : decode cX7_addRight 39 = .ok (.ireturn, 1) := by decide +kernel
set_option maxRecDepth 20000 in
theorem ggX7_lefts_X7_fine : GoodIn wsX7_lefts wsX7_fine := goodIn_r _ [6, 7, 8, 9, 10, 11, 12, 13, 14, 15, 16, 17, 18, 19, 20, 21, 22, 23, 24, 25, 26, 27] (by decide +kernel) (by decide +kernel)
set_option maxRecDepth 20000 in
theorem gX7_lefts_X7_fine : GoodIn wsX7_lefts (wsV RX7 77 RX7 yX7_fine wsX7_fine) := goodIn_app (goodIn_of _ (by decide +kernel)) ggX7_lefts_X7_fine
theorem dX7_lefts_0 : decode cX7_lefts 0 = .ok (.aload_n 0, 1) := by decide +kernel
theorem dX7_lefts_1 : decode cX7_lefts 1 = .ok (.aload_n 0, 1) := by decide +kernel
theorem dX7_lefts_2 : decode cX7_lefts 2 = .ok (.getfield 67, 3) := by decide +kernel
theorem dX7_lefts_5 : decode cX7_lefts 5 = .ok (.invokevirtual 77, 3) := by decide +kernel
theorem dX7_lefts_8 : decode cX7_lefts 8 = .ok (.ireturn, 1) := by decide +kernel
set_option maxRecDepth 20000 in
theorem ggX7_rights_X7_fine : GoodIn wsX7_rights wsX7_fine := goodIn_r _ [6, 7, 8, 9, 10, 11, 12, 13, 14, 15, 16, 17, 18, 19, 20, 21, 22, 23, 24, 25, 26, 27] (by decide +kernel) (by decide +kernel)
set_option maxRecDepth 20000 in
theorem gX7_rights_X7_fine : GoodIn wsX7_rights (wsV RX7 77 RX7 yX7_fine wsX7_fine) := goodIn_app (goodIn_of _ (by decide +kernel)) ggX7_rights_X7_fine
theorem dX7_rights_0 : decode cX7_rights 0 = .ok (.aload_n 0, 1) := by decide +kernel
theorem dX7_rights_1 : decode cX7_rights 1 = .ok (.aload_n 0, 1) := by decide +kernel
theorem dX7_rights_2 : decode cX7_rights 2 = .ok (.getfield 70, 3) := by decide +kernel
theorem dX7_rights_5 : decode cX7_rights 5 = .ok (.invokevirtual 77, 3) := by decide +kernel
theorem dX7_rights_8 : decode cX7_rights 8 = .ok (.ireturn, 1) := by decide +kernel
set_option maxRecDepth 20000 in
theorem ggX7_edges_X7_fine : GoodIn wsX7_edges wsX7_fine := goodIn_r _ [6, 7, 8, 9, 10, 11, 12, 13, 14, 15, 16, 17, 18, 19, 20, 21, 22, 23, 24, 25, 26, 27] (by decide +kernel) (by decide +kernel)
set_option maxRecDepth 20000 in
theorem gX7_edges_X7_fine : GoodIn wsX7_edges (wsV RX7 77 RX7 yX7_fine wsX7_fine) := goodIn_app (goodIn_of _ (by decide +kernel)) ggX7_edges_X7_fine
theorem dX7_edges_0 : decode cX7_edges 0 = .ok (.iconst 0, 1) := by decide +kernel
theorem dX7_edges_1 : decode cX7_edges 1 = .ok (.istore_n 1, 1) := by decide +kernel
theorem dX7_edges_2 : decode cX7_edges 2 = .ok (.iconst 0, 1) := by decide +kernel
theorem dX7_edges_3 : decode cX7_edges 3 = .ok (.istore_n 2, 1) := by decide +kernel
theorem dX7_edges_4 : decode cX7_edges 4 = .ok (.iload_n 2, 1) := by decide +kernel
theorem dX7_edges_5 : decode cX7_edges 5 = .ok (.sipush 144, 3) := by decide +kernel
theorem dX7_edges_8 : decode cX7_edges 8 = .ok (.if_icmp .ge 26, 3) := by decide +kernel
theorem dX7_edges_11 : decode cX7_edges 11 = .ok (.iload_n 1, 1) := by decide +kernel
theorem dX7_edges_12 : decode cX7_edges 12 = .ok (.aload_n 0, 1) := by decide +kernel
theorem dX7_edges_13 : decode cX7_edges 13 = .ok (.getfield 7, 3) := by decide +kernel
theorem dX7_edges_16 : decode cX7_edges 16 = .ok (.iload_n 2, 1) := by decide +kernel
theorem dX7_edges_17 : decode cX7_edges 17 = .ok (.baload, 1) := by decide +kernel
theorem dX7_edges_18 : decode cX7_edges 18 = .ok (.ifCond .eq 7, 3) := by decide +kernel
theorem dX7_edges_21 : decode cX7_edges 21 = .ok (.iconst 1, 1) := by decide +kernel
theorem dX7_edges_22 : decode cX7_edges 22 = .ok (.goto 4, 3) := by decide +kernel
theorem dX7_edges_25 : decode cX7_edges 25 = .ok (.iconst 0, 1) := by decide +kernel
theorem dX7_edges_26 : decode cX7_edges 26 = .ok (.iadd, 1) := by decide +kernel
theorem dX7_edges_27 : decode cX7_edges 27 = .ok (.istore_n 1, 1) := by decide +kernel
theorem dX7_edges_28 : decode cX7_edges 28 = .ok (.iinc 2 1, 3) := by decide +kernel
theorem dX7_edges_31 : decode cX7_edges 31 = .ok (.goto (-27), 3) := by decide +kernel
theorem dX7_edges_34 : decode cX7_edges 34 = .ok (.aload_n 0, 1) := by decide +kernel
theorem dX7_edges_35 : decode cX7_edges 35 = .ok (.iload_n 1, 1) := by decide +kernel
theorem dX7_edges_36 : decode cX7_edges 36 = .ok (.invokevirtual 77, 3) := by decide +kernel
theorem dX7_edges_39 : decode cX7_edges 39 = .ok (.ireturn, 1) := by decide +kernel
theorem dX7_matched_0 : decode cX7_matched 0 = .ok (.iconst 0, 1) := by decide +kernel
theorem dX7_matched_1 : decode cX7_matched 1 = .ok (.istore_n 1, 1) := by decide +kernel
theorem dX7_matched_2 : decode cX7_matched 2 = .ok (.iconst 0, 1) := by decide +kernel
theorem dX7_matched_3 : decode cX7_matched 3 = .ok (.istore_n 2, 1) := by decide +kernel
theorem dX7_matched_4 : decode cX7_matched 4 = .ok (.iload_n 2, 1) := by decide +kernel
theorem dX7_matched_5 : decode cX7_matched 5 = .ok (.aload_n 0, 1) := by decide +kernel
theorem dX7_matched_6 : decode cX7_matched 6 = .ok (.getfield 67, 3) := by decide +kernel
theorem dX7_matched_9 : decode cX7_matched 9 = .ok (.if_icmp .ge 27, 3) := by decide +kernel
theorem dX7_matched_12 : decode cX7_matched 12 = .ok (.iload_n 1, 1) := by decide +kernel
theorem dX7_matched_13 : decode cX7_matched 13 = .ok (.aload_n 0, 1) := by decide +kernel
theorem dX7_matched_14 : decode cX7_matched 14 = .ok (.getfield 13, 3) := by decide +kernel
theorem dX7_matched_17 : decode cX7_matched 17 = .ok (.iload_n 2, 1) := by decide +kernel
theorem dX7_matched_18 : decode cX7_matched 18 = .ok (.iaload, 1) := by decide +kernel
theorem dX7_matched_19 : decode cX7_matched 19 = .ok (.iconst (-1), 1) := by decide +kernel
theorem dX7_matched_20 : decode cX7_matched 20 = .ok (.if_icmp .ne 7, 3) := by decide +kernel
theorem dX7_matched_23 : decode cX7_matched 23 = .ok (.iconst 0, 1) := by decide +kernel
theorem dX7_matched_24 : decode cX7_matched 24 = .ok (.goto 4, 3) := by decide +kernel
theorem dX7_matched_27 : decode cX7_matched 27 = .ok (.iconst 1, 1) := by decide +kernel
theorem dX7_matched_28 : decode cX7_matched 28 = .ok (.iadd, 1) := by decide +kernel
theorem dX7_matched_29 : decode cX7_matched 29 = .ok (.istore_n 1, 1) := by decide +kernel
theorem dX7_matched_30 : decode cX7_matched 30 = .ok (.iinc 2 1, 3) := by decide +kernel
theorem dX7_matched_33 : decode cX7_matched 33 = .ok (.goto (-29), 3) := by decide +kernel
theorem dX7_matched_36 : decode cX7_matched 36 = .ok (.iload_n 1, 1) := by decide +kernel
theorem dX7_matched_37 : decode cX7_matched 37 = .ok (.ireturn, 1) := by decide +kernel
theorem dX7_turn_0 : decode cX7_turn 0 = .ok (.iload_n 1, 1) := by decide +kernel
theorem dX7_turn_1 : decode cX7_turn 1 = .ok (.istore_n 2, 1) := by decide +kernel
theorem dX7_turn_2 : decode cX7_turn 2 = .ok (.iload_n 2, 1) := by decide +kernel
theorem dX7_turn_3 : decode cX7_turn 3 = .ok (.iconst (-1), 1) := by decide +kernel
theorem dX7_turn_4 : decode cX7_turn 4 = .ok (.if_icmp .eq 38, 3) := by decide +kernel
theorem dX7_turn_7 : decode cX7_turn 7 = .ok (.aload_n 0, 1) := by decide +kernel
theorem dX7_turn_8 : decode cX7_turn 8 = .ok (.getfield 47, 3) := by decide +kernel
theorem dX7_turn_11 : decode cX7_turn 11 = .ok (.iload_n 2, 1) := by decide +kernel
theorem dX7_turn_12 : decode cX7_turn 12 = .ok (.iaload, 1) := by decide +kernel
theorem dX7_turn_13 : decode cX7_turn 13 = .ok (.istore_n 3, 1) := by decide +kernel
theorem dX7_turn_14 : decode cX7_turn 14 = .ok (.aload_n 0, 1) := by decide +kernel
theorem dX7_turn_15 : decode cX7_turn 15 = .ok (.getfield 13, 3) := by decide +kernel
theorem dX7_turn_18 : decode cX7_turn 18 = .ok (.iload_n 3, 1) := by decide +kernel
theorem dX7_turn_19 : decode cX7_turn 19 = .ok (.iaload, 1) := by decide +kernel
theorem dX7_turn_20 : decode cX7_turn 20 = .ok (.istore 4, 2) := by decide +kernel
theorem dX7_turn_22 : decode cX7_turn 22 = .ok (.aload_n 0, 1) := by decide +kernel
theorem dX7_turn_23 : decode cX7_turn 23 = .ok (.getfield 13, 3) := by decide +kernel
theorem dX7_turn_26 : decode cX7_turn 26 = .ok (.iload_n 3, 1) := by decide +kernel
theorem dX7_turn_27 : decode cX7_turn 27 = .ok (.iload_n 2, 1) := by decide +kernel
theorem dX7_turn_28 : decode cX7_turn 28 = .ok (.iastore, 1) := by decide +kernel
theorem dX7_turn_29 : decode cX7_turn 29 = .ok (.aload_n 0, 1) := by decide +kernel
theorem dX7_turn_30 : decode cX7_turn 30 = .ok (.getfield 17, 3) := by decide +kernel
theorem dX7_turn_33 : decode cX7_turn 33 = .ok (.iload_n 2, 1) := by decide +kernel
theorem dX7_turn_34 : decode cX7_turn 34 = .ok (.iload_n 3, 1) := by decide +kernel
theorem dX7_turn_35 : decode cX7_turn 35 = .ok (.iastore, 1) := by decide +kernel
theorem dX7_turn_36 : decode cX7_turn 36 = .ok (.iload 4, 2) := by decide +kernel
theorem dX7_turn_38 : decode cX7_turn 38 = .ok (.istore_n 2, 1) := by decide +kernel
theorem dX7_turn_39 : decode cX7_turn 39 = .ok (.goto (-37), 3) := by decide +kernel
theorem dX7_turn_42 : decode cX7_turn 42 = .ok (.return_, 1) := by decide +kernel
set_option maxRecDepth 20000 in
theorem ggX7_search_X7_isEdge : GoodIn wsX7_search wsX7_isEdge := goodIn_r _ [11, 12, 17, 18, 19, 20, 21, 22, 23, 24, 25, 26, 27, 28, 29, 30, 31, 32, 33, 34, 35, 36] (by decide +kernel) (by decide +kernel)
set_option maxRecDepth 20000 in
theorem gX7_search_X7_isEdge : GoodIn wsX7_search (wsV RX7 81 RX7 yX7_isEdge wsX7_isEdge) := goodIn_app (goodIn_of _ (by decide +kernel)) ggX7_search_X7_isEdge
set_option maxRecDepth 20000 in
theorem ggX7_search_X7_turn : GoodIn wsX7_search wsX7_turn := goodIn_r _ [16, 4, 2, 6, 17, 18, 19, 20, 21, 22, 23, 24, 25, 26, 27, 28, 29, 30, 31, 32, 33, 34, 35, 36] (by decide +kernel) (by decide +kernel)
set_option maxRecDepth 20000 in
theorem gX7_search_X7_turn : GoodIn wsX7_search (wsV RX7 85 RX7 yX7_turn wsX7_turn) := goodIn_app (goodIn_of _ (by decide +kernel)) ggX7_search_X7_turn
theorem dX7_search_0 : decode cX7_search 0 = .ok (.iconst 0, 1) := by decide +kernel
theorem dX7_search_1 : decode cX7_search 1 = .ok (.istore_n 1, 1) := by decide +kernel
theorem dX7_search_2 : decode cX7_search 2 = .ok (.iconst 0, 1) := by decide +kernel
theorem dX7_search_3 : decode cX7_search 3 = .ok (.istore_n 2, 1) := by decide +kernel
theorem dX7_search_4 : decode cX7_search 4 = .ok (.iload_n 2, 1) := by decide +kernel
theorem dX7_search_5 : decode cX7_search 5 = .ok (.aload_n 0, 1) := by decide +kernel
theorem dX7_search_6 : decode cX7_search 6 = .ok (.getfield 67, 3) := by decide +kernel
theorem dX7_search_9 : decode cX7_search 9 = .ok (.if_icmp .ge 29, 3) := by decide +kernel
theorem dX7_search_12 : decode cX7_search 12 = .ok (.aload_n 0, 1) := by decide +kernel
theorem dX7_search_13 : decode cX7_search 13 = .ok (.getfield 13, 3) := by decide +kernel
theorem dX7_search_16 : decode cX7_search 16 = .ok (.iload_n 2, 1) := by decide +kernel
theorem dX7_search_17 : decode cX7_search 17 = .ok (.iaload, 1) := by decide +kernel
theorem dX7_search_18 : decode cX7_search 18 = .ok (.iconst (-1), 1) := by decide +kernel
theorem dX7_search_19 : decode cX7_search 19 = .ok (.if_icmp .ne 13, 3) := by decide +kernel
theorem dX7_search_22 : decode cX7_search 22 = .ok (.aload_n 0, 1) := by decide +kernel
theorem dX7_search_23 : decode cX7_search 23 = .ok (.getfield 44, 3) := by decide +kernel
theorem dX7_search_26 : decode cX7_search 26 = .ok (.iload_n 1, 1) := by decide +kernel
theorem dX7_search_27 : decode cX7_search 27 = .ok (.iload_n 2, 1) := by decide +kernel
theorem dX7_search_28 : decode cX7_search 28 = .ok (.iastore, 1) := by decide +kernel
theorem dX7_search_29 : decode cX7_search 29 = .ok (.iinc 1 1, 3) := by decide +kernel
theorem dX7_search_32 : decode cX7_search 32 = .ok (.iinc 2 1, 3) := by decide +kernel
theorem dX7_search_35 : decode cX7_search 35 = .ok (.goto (-31), 3) := by decide +kernel
theorem dX7_search_38 : decode cX7_search 38 = .ok (.iconst 0, 1) := by decide +kernel
theorem dX7_search_39 : decode cX7_search 39 = .ok (.istore_n 2, 1) := by decide +kernel
theorem dX7_search_40 : decode cX7_search 40 = .ok (.iload_n 2, 1) := by decide +kernel
theorem dX7_search_41 : decode cX7_search 41 = .ok (.bipush 12, 2) := by decide +kernel
theorem dX7_search_43 : decode cX7_search 43 = .ok (.if_icmp .ge 16, 3) := by decide +kernel
theorem dX7_search_46 : decode cX7_search 46 = .ok (.aload_n 0, 1) := by decide +kernel
theorem dX7_search_47 : decode cX7_search 47 = .ok (.getfield 47, 3) := by decide +kernel
theorem dX7_search_50 : decode cX7_search 50 = .ok (.iload_n 2, 1) := by decide +kernel
theorem dX7_search_51 : decode cX7_search 51 = .ok (.iconst (-1), 1) := by decide +kernel
theorem dX7_search_52 : decode cX7_search 52 = .ok (.iastore, 1) := by decide +kernel
theorem dX7_search_53 : decode cX7_search 53 = .ok (.iinc 2 1, 3) := by decide +kernel
theorem dX7_search_56 : decode cX7_search 56 = .ok (.goto (-16), 3) := by decide +kernel
theorem dX7_search_59 : decode cX7_search 59 = .ok (.iconst (-1), 1) := by decide +kernel
theorem dX7_search_60 : decode cX7_search 60 = .ok (.istore_n 2, 1) := by decide +kernel
theorem dX7_search_61 : decode cX7_search 61 = .ok (.iconst 0, 1) := by decide +kernel
theorem dX7_search_62 : decode cX7_search 62 = .ok (.istore_n 3, 1) := by decide +kernel
theorem dX7_search_63 : decode cX7_search 63 = .ok (.iload_n 3, 1) := by decide +kernel
theorem dX7_search_64 : decode cX7_search 64 = .ok (.iload_n 1, 1) := by decide +kernel
theorem dX7_search_65 : decode cX7_search 65 = .ok (.if_icmp .ge 109, 3) := by decide +kernel
theorem dX7_search_68 : decode cX7_search 68 = .ok (.iload_n 2, 1) := by decide +kernel
theorem dX7_search_69 : decode cX7_search 69 = .ok (.iconst (-1), 1) := by decide +kernel
theorem dX7_search_70 : decode cX7_search 70 = .ok (.if_icmp .ne 104, 3) := by decide +kernel
theorem dX7_search_73 : decode cX7_search 73 = .ok (.iconst 0, 1) := by decide +kernel
theorem dX7_search_74 : decode cX7_search 74 = .ok (.istore 4, 2) := by decide +kernel
theorem dX7_search_76 : decode cX7_search 76 = .ok (.iload 4, 2) := by decide +kernel
theorem dX7_search_78 : decode cX7_search 78 = .ok (.aload_n 0, 1) := by decide +kernel
theorem dX7_search_79 : decode cX7_search 79 = .ok (.getfield 70, 3) := by decide +kernel
theorem dX7_search_82 : decode cX7_search 82 = .ok (.if_icmp .ge 86, 3) := by decide +kernel
theorem dX7_search_85 : decode cX7_search 85 = .ok (.iload_n 2, 1) := by decide +kernel
theorem dX7_search_86 : decode cX7_search 86 = .ok (.iconst (-1), 1) := by decide +kernel
theorem dX7_search_87 : decode cX7_search 87 = .ok (.if_icmp .ne 81, 3) := by decide +kernel
theorem dX7_search_90 : decode cX7_search 90 = .ok (.aload_n 0, 1) := by decide +kernel
theorem dX7_search_91 : decode cX7_search 91 = .ok (.aload_n 0, 1) := by decide +kernel
theorem dX7_search_92 : decode cX7_search 92 = .ok (.getfield 44, 3) := by decide +kernel
theorem dX7_search_95 : decode cX7_search 95 = .ok (.iload_n 3, 1) := by decide +kernel
theorem dX7_search_96 : decode cX7_search 96 = .ok (.iaload, 1) := by decide +kernel
theorem dX7_search_97 : decode cX7_search 97 = .ok (.iload 4, 2) := by decide +kernel
theorem dX7_search_99 : decode cX7_search 99 = .ok (.invokevirtual 81, 3) := by decide +kernel
theorem dX7_search_102 : decode cX7_search 102 = .ok (.ifCond .eq 60, 3) := by decide +kernel
theorem dX7_search_105 : decode cX7_search 105 = .ok (.aload_n 0, 1) := by decide +kernel
theorem dX7_search_106 : decode cX7_search 106 = .ok (.getfield 47, 3) := by decide +kernel
theorem dX7_search_109 : decode cX7_search 109 = .ok (.iload 4, 2) := by decide +kernel
theorem dX7_search_111 : decode cX7_search 111 = .ok (.iaload, 1) := by decide +kernel
theorem dX7_search_112 : decode cX7_search 112 = .ok (.iconst (-1), 1) := by decide +kernel
theorem dX7_search_113 : decode cX7_search 113 = .ok (.if_icmp .ne 49, 3) := by decide +kernel
theorem dX7_search_116 : decode cX7_search 116 = .ok (.aload_n 0, 1) := by decide +kernel
theorem dX7_search_117 : decode cX7_search 117 = .ok (.getfield 47, 3) := by decide +kernel
theorem dX7_search_120 : decode cX7_search 120 = .ok (.iload 4, 2) := by decide +kernel
theorem dX7_search_122 : decode cX7_search 122 = .ok (.aload_n 0, 1) := by decide +kernel
theorem dX7_search_123 : decode cX7_search 123 = .ok (.getfield 44, 3) := by decide +kernel
theorem dX7_search_126 : decode cX7_search 126 = .ok (.iload_n 3, 1) := by decide +kernel
theorem dX7_search_127 : decode cX7_search 127 = .ok (.iaload, 1) := by decide +kernel
theorem dX7_search_128 : decode cX7_search 128 = .ok (.iastore, 1) := by decide +kernel
theorem dX7_search_129 : decode cX7_search 129 = .ok (.aload_n 0, 1) := by decide +kernel
theorem dX7_search_130 : decode cX7_search 130 = .ok (.getfield 17, 3) := by decide +kernel
theorem dX7_search_133 : decode cX7_search 133 = .ok (.iload 4, 2) := by decide +kernel
theorem dX7_search_135 : decode cX7_search 135 = .ok (.iaload, 1) := by decide +kernel
theorem dX7_search_136 : decode cX7_search 136 = .ok (.iconst (-1), 1) := by decide +kernel
theorem dX7_search_137 : decode cX7_search 137 = .ok (.if_icmp .ne 9, 3) := by decide +kernel
theorem dX7_search_140 : decode cX7_search 140 = .ok (.iload 4, 2) := by decide +kernel
theorem dX7_search_142 : decode cX7_search 142 = .ok (.istore_n 2, 1) := by decide +kernel
theorem dX7_search_143 : decode cX7_search 143 = .ok (.goto 19, 3) := by decide +kernel
theorem dX7_search_146 : decode cX7_search 146 = .ok (.aload_n 0, 1) := by decide +kernel
theorem dX7_search_147 : decode cX7_search 147 = .ok (.getfield 44, 3) := by decide +kernel
theorem dX7_search_150 : decode cX7_search 150 = .ok (.iload_n 1, 1) := by decide +kernel
theorem dX7_search_151 : decode cX7_search 151 = .ok (.aload_n 0, 1) := by decide +kernel
theorem dX7_search_152 : decode cX7_search 152 = .ok (.getfield 17, 3) := by decide +kernel
theorem dX7_search_155 : decode cX7_search 155 = .ok (.iload 4, 2) := by decide +kernel
theorem dX7_search_157 : decode cX7_search 157 = .ok (.iaload, 1) := by decide +kernel
theorem dX7_search_158 : decode cX7_search 158 = .ok (.iastore, 1) := by decide +kernel
theorem dX7_search_159 : decode cX7_search 159 = .ok (.iinc 1 1, 3) := by decide +kernel
theorem dX7_search_162 : decode cX7_search 162 = .ok (.iinc 4 1, 3) := by decide +kernel
theorem dX7_search_165 : decode cX7_search 165 = .ok (.goto (-89), 3) := by decide +kernel
theorem dX7_search_168 : decode cX7_search 168 = .ok (.iinc 3 1, 3) := by decide +kernel
theorem dX7_search_171 : decode cX7_search 171 = .ok (.goto (-108), 3) := by decide +kernel
theorem dX7_search_174 : decode cX7_search 174 = .ok (.aload_n 0, 1) := by decide +kernel
theorem dX7_search_175 : decode cX7_search 175 = .ok (.iload_n 2, 1) := by decide +kernel
theorem dX7_search_176 : decode cX7_search 176 = .ok (.invokevirtual 85, 3) := by decide +kernel
theorem dX7_search_179 : decode cX7_search 179 = .ok (.return_, 1) := by decide +kernel
set_option maxRecDepth 20000 in
theorem ggX7_connect_X7_isLeft : GoodIn wsX7_connect wsX7_isLeft := goodIn_r _ [6, 7, 38, 39, 40, 41, 42, 43, 44, 45, 46, 47, 48, 49, 50, 51, 52, 53, 54, 55, 56, 57] (by decide +kernel) (by decide +kernel)
set_option maxRecDepth 20000 in
theorem gX7_connect_X7_isLeft : GoodIn wsX7_connect (wsV RX7 89 RX7 yX7_isLeft wsX7_isLeft) := goodIn_app (goodIn_of _ (by decide +kernel)) ggX7_connect_X7_isLeft
set_option maxRecDepth 20000 in
theorem ggX7_connect_X7_isRight : GoodIn wsX7_connect wsX7_isRight := goodIn_r _ [11, 12, 38, 39, 40, 41, 42, 43, 44, 45, 46, 47, 48, 49, 50, 51, 52, 53, 54, 55, 56, 57] (by decide +kernel) (by decide +kernel)
set_option maxRecDepth 20000 in
theorem gX7_connect_X7_isRight : GoodIn wsX7_connect (wsV RX7 92 RX7 yX7_isRight wsX7_isRight) := goodIn_app (goodIn_of _ (by decide +kernel)) ggX7_connect_X7_isRight
set_option maxRecDepth 20000 in
theorem ggX7_connect_X7_isEdge : GoodIn wsX7_connect wsX7_isEdge := goodIn_r _ [16, 1, 38, 39, 40, 41, 42, 43, 44, 45, 46, 47, 48, 49, 50, 51, 52, 53, 54, 55, 56, 57] (by decide +kernel) (by decide +kernel)
set_option maxRecDepth 20000 in
theorem gX7_connect_X7_isEdge : GoodIn wsX7_connect (wsV RX7 81 RX7 yX7_isEdge wsX7_isEdge) := goodIn_app (goodIn_of _ (by decide +kernel)) ggX7_connect_X7_isEdge
set_option maxRecDepth 20000 in
theorem ggX7_connect_X7_refused : GoodIn wsX7_connect wsX7_refused := goodIn_r _ [20, 21, 38, 39, 40, 41, 42, 43, 44, 45, 46, 47, 48, 49, 50, 51, 52, 53, 54, 55, 56, 57] (by decide +kernel) (by decide +kernel)
set_option maxRecDepth 20000 in
theorem gX7_connect_X7_refused : GoodIn wsX7_connect (wsV RX7 73 RX7 yX7_refused wsX7_refused) := goodIn_app (goodIn_of _ (by decide +kernel)) ggX7_connect_X7_refused
set_option maxRecDepth 20000 in
theorem ggX7_connect_X7_matched : GoodIn wsX7_connect wsX7_matched := goodIn_r _ [25, 7, 26, 38, 39, 40, 41, 42, 43, 44, 45, 46, 47, 48, 49, 50, 51, 52, 53, 54, 55, 56, 57] (by decide +kernel) (by decide +kernel)
set_option maxRecDepth 20000 in
theorem gX7_connect_X7_matched : GoodIn wsX7_connect (wsV RX7 95 RX7 yX7_matched wsX7_matched) := goodIn_app (goodIn_of _ (by decide +kernel)) ggX7_connect_X7_matched
set_option maxRecDepth 20000 in
theorem ggX7_connect_X7_search : GoodIn wsX7_connect wsX7_search := goodIn_r _ [30, 7, 26, 31, 32, 12, 33, 13, 14, 15, 5, 16, 1, 34, 35, 36, 37, 38, 39, 40, 41, 42, 43, 44, 45, 46, 47, 48, 49, 50, 51, 52, 53, 54, 55, 56, 57] (by decide +kernel) (by decide +kernel)
set_option maxRecDepth 20000 in
theorem gX7_connect_X7_search : GoodIn wsX7_connect (wsV RX7 99 RX7 yX7_search wsX7_search) := goodIn_app (goodIn_of _ (by decide +kernel)) ggX7_connect_X7_search
theorem dX7_connect_0 : decode cX7_connect 0 = .ok (.aload_n 0, 1) := by decide +kernel
theorem dX7_connect_1 : decode cX7_connect 1 = .ok (.aload_n 0, 1) := by decide +kernel
theorem dX7_connect_2 : decode cX7_connect 2 = .ok (.iload_n 1, 1) := by decide +kernel
theorem dX7_connect_3 : decode cX7_connect 3 = .ok (.invokevirtual 89, 3) := by decide +kernel
theorem dX7_connect_6 : decode cX7_connect 6 = .ok (.ifCond .eq 11, 3) := by decide +kernel
theorem dX7_connect_9 : decode cX7_connect 9 = .ok (.aload_n 0, 1) := by decide +kernel
theorem dX7_connect_10 : decode cX7_connect 10 = .ok (.iload_n 2, 1) := by decide +kernel
theorem dX7_connect_11 : decode cX7_connect 11 = .ok (.invokevirtual 92, 3) := by decide +kernel
theorem dX7_connect_14 : decode cX7_connect 14 = .ok (.ifCond .ne 7, 3) := by decide +kernel
theorem dX7_connect_17 : decode cX7_connect 17 = .ok (.iconst 1, 1) := by decide +kernel
theorem dX7_connect_18 : decode cX7_connect 18 = .ok (.goto 17, 3) := by decide +kernel
theorem dX7_connect_21 : decode cX7_connect 21 = .ok (.aload_n 0, 1) := by decide +kernel
theorem dX7_connect_22 : decode cX7_connect 22 = .ok (.iload_n 1, 1) := by decide +kernel
theorem dX7_connect_23 : decode cX7_connect 23 = .ok (.iload_n 2, 1) := by decide +kernel
theorem dX7_connect_24 : decode cX7_connect 24 = .ok (.invokevirtual 81, 3) := by decide +kernel
theorem dX7_connect_27 : decode cX7_connect 27 = .ok (.ifCond .eq 7, 3) := by decide +kernel
theorem dX7_connect_30 : decode cX7_connect 30 = .ok (.iconst 2, 1) := by decide +kernel
theorem dX7_connect_31 : decode cX7_connect 31 = .ok (.goto 4, 3) := by decide +kernel
theorem dX7_connect_34 : decode cX7_connect 34 = .ok (.iconst 0, 1) := by decide +kernel
theorem dX7_connect_35 : decode cX7_connect 35 = .ok (.invokevirtual 73, 3) := by decide +kernel
theorem dX7_connect_38 : decode cX7_connect 38 = .ok (.ifCond .eq 5, 3) := by decide +kernel
theorem dX7_connect_41 : decode cX7_connect 41 = .ok (.iconst 0, 1) := by decide +kernel
theorem dX7_connect_42 : decode cX7_connect 42 = .ok (.ireturn, 1) := by decide +kernel
theorem dX7_connect_43 : decode cX7_connect 43 = .ok (.aload_n 0, 1) := by decide +kernel
theorem dX7_connect_44 : decode cX7_connect 44 = .ok (.invokevirtual 95, 3) := by decide +kernel
theorem dX7_connect_47 : decode cX7_connect 47 = .ok (.istore_n 3, 1) := by decide +kernel
theorem dX7_connect_48 : decode cX7_connect 48 = .ok (.aload_n 0, 1) := by decide +kernel
theorem dX7_connect_49 : decode cX7_connect 49 = .ok (.getfield 7, 3) := by decide +kernel
theorem dX7_connect_52 : decode cX7_connect 52 = .ok (.bipush 12, 2) := by decide +kernel
theorem dX7_connect_54 : decode cX7_connect 54 = .ok (.iload_n 1, 1) := by decide +kernel
theorem dX7_connect_55 : decode cX7_connect 55 = .ok (.imul, 1) := by decide +kernel
theorem dX7_connect_56 : decode cX7_connect 56 = .ok (.iload_n 2, 1) := by decide +kernel
theorem dX7_connect_57 : decode cX7_connect 57 = .ok (.iadd, 1) := by decide +kernel
theorem dX7_connect_58 : decode cX7_connect 58 = .ok (.iconst 1, 1) := by decide +kernel
theorem dX7_connect_59 : decode cX7_connect 59 = .ok (.bastore, 1) := by decide +kernel
theorem dX7_connect_60 : decode cX7_connect 60 = .ok (.aload_n 0, 1) := by decide +kernel
theorem dX7_connect_61 : decode cX7_connect 61 = .ok (.invokevirtual 99, 3) := by decide +kernel
theorem dX7_connect_64 : decode cX7_connect 64 = .ok (.aload_n 0, 1) := by decide +kernel
theorem dX7_connect_65 : decode cX7_connect 65 = .ok (.invokevirtual 95, 3) := by decide +kernel
theorem dX7_connect_68 : decode cX7_connect 68 = .ok (.iload_n 3, 1) := by decide +kernel
theorem dX7_connect_69 : decode cX7_connect 69 = .ok (.if_icmp .le 7, 3) := by decide +kernel
theorem dX7_connect_72 : decode cX7_connect 72 = .ok (.iconst 1, 1) := by decide +kernel
theorem dX7_connect_73 : decode cX7_connect 73 = .ok (.goto 4, 3) := by decide +kernel
theorem dX7_connect_76 : decode cX7_connect 76 = .ok (.iconst 0, 1) := by decide +kernel
theorem dX7_connect_77 : decode cX7_connect 77 = .ok (.ireturn, 1) := by decide +kernel
set_option maxRecDepth 20000 in
theorem ggX7_noEdge_X7_isLeft : GoodIn wsX7_noEdge wsX7_isLeft := goodIn_r _ [5, 6, 22, 23, 24, 25, 26, 27, 28, 29, 30, 31, 32, 33, 34, 35, 36, 37, 38, 39, 40, 41] (by decide +kernel) (by decide +kernel)
set_option maxRecDepth 20000 in
theorem gX7_noEdge_X7_isLeft : GoodIn wsX7_noEdge (wsV RX7 89 RX7 yX7_isLeft wsX7_isLeft) := goodIn_app (goodIn_of _ (by decide +kernel)) ggX7_noEdge_X7_isLeft
set_option maxRecDepth 20000 in
theorem ggX7_noEdge_X7_isRight : GoodIn wsX7_noEdge wsX7_isRight := goodIn_r _ [10, 11, 22, 23, 24, 25, 26, 27, 28, 29, 30, 31, 32, 33, 34, 35, 36, 37, 38, 39, 40, 41] (by decide +kernel) (by decide +kernel)
set_option maxRecDepth 20000 in
theorem gX7_noEdge_X7_isRight : GoodIn wsX7_noEdge (wsV RX7 92 RX7 yX7_isRight wsX7_isRight) := goodIn_app (goodIn_of _ (by decide +kernel)) ggX7_noEdge_X7_isRight
set_option maxRecDepth 20000 in
theorem ggX7_noEdge_X7_isEdge : GoodIn wsX7_noEdge wsX7_isEdge := goodIn_r _ [15, 16, 22, 23, 24, 25, 26, 27, 28, 29, 30, 31, 32, 33, 34, 35, 36, 37, 38, 39, 40, 41] (by decide +kernel) (by decide +kernel)
set_option maxRecDepth 20000 in
theorem gX7_noEdge_X7_isEdge : GoodIn wsX7_noEdge (wsV RX7 81 RX7 yX7_isEdge wsX7_isEdge) := goodIn_app (goodIn_of _ (by decide +kernel)) ggX7_noEdge_X7_isEdge
set_option maxRecDepth 20000 in
theorem ggX7_noEdge_X7_refused : GoodIn wsX7_noEdge wsX7_refused := goodIn_r _ [20, 21, 22, 23, 24, 25, 26, 27, 28, 29, 30, 31, 32, 33, 34, 35, 36, 37, 38, 39, 40, 41] (by decide +kernel) (by decide +kernel)
set_option maxRecDepth 20000 in
theorem gX7_noEdge_X7_refused : GoodIn wsX7_noEdge (wsV RX7 73 RX7 yX7_refused wsX7_refused) := goodIn_app (goodIn_of _ (by decide +kernel)) ggX7_noEdge_X7_refused
theorem dX7_noEdge_0 : decode cX7_noEdge 0 = .ok (.aload_n 0, 1) := by decide +kernel
theorem dX7_noEdge_1 : decode cX7_noEdge 1 = .ok (.aload_n 0, 1) := by decide +kernel
theorem dX7_noEdge_2 : decode cX7_noEdge 2 = .ok (.iload_n 1, 1) := by decide +kernel
theorem dX7_noEdge_3 : decode cX7_noEdge 3 = .ok (.invokevirtual 89, 3) := by decide +kernel
theorem dX7_noEdge_6 : decode cX7_noEdge 6 = .ok (.ifCond .eq 11, 3) := by decide +kernel
theorem dX7_noEdge_9 : decode cX7_noEdge 9 = .ok (.aload_n 0, 1) := by decide +kernel
theorem dX7_noEdge_10 : decode cX7_noEdge 10 = .ok (.iload_n 2, 1) := by decide +kernel
theorem dX7_noEdge_11 : decode cX7_noEdge 11 = .ok (.invokevirtual 92, 3) := by decide +kernel
theorem dX7_noEdge_14 : decode cX7_noEdge 14 = .ok (.ifCond .ne 7, 3) := by decide +kernel
theorem dX7_noEdge_17 : decode cX7_noEdge 17 = .ok (.iconst 1, 1) := by decide +kernel
theorem dX7_noEdge_18 : decode cX7_noEdge 18 = .ok (.goto 17, 3) := by decide +kernel
theorem dX7_noEdge_21 : decode cX7_noEdge 21 = .ok (.aload_n 0, 1) := by decide +kernel
theorem dX7_noEdge_22 : decode cX7_noEdge 22 = .ok (.iload_n 1, 1) := by decide +kernel
theorem dX7_noEdge_23 : decode cX7_noEdge 23 = .ok (.iload_n 2, 1) := by decide +kernel
theorem dX7_noEdge_24 : decode cX7_noEdge 24 = .ok (.invokevirtual 81, 3) := by decide +kernel
theorem dX7_noEdge_27 : decode cX7_noEdge 27 = .ok (.ifCond .eq 7, 3) := by decide +kernel
theorem dX7_noEdge_30 : decode cX7_noEdge 30 = .ok (.iconst 0, 1) := by decide +kernel
theorem dX7_noEdge_31 : decode cX7_noEdge 31 = .ok (.goto 4, 3) := by decide +kernel
theorem dX7_noEdge_34 : decode cX7_noEdge 34 = .ok (.iconst 2, 1) := by decide +kernel
theorem dX7_noEdge_35 : decode cX7_noEdge 35 = .ok (.invokevirtual 73, 3) := by decide +kernel
theorem dX7_noEdge_38 : decode cX7_noEdge 38 = .ok (.ireturn, 1) := by decide +kernel
set_option maxRecDepth 20000 in
theorem ggX7_disconnect_X7_noEdge : GoodIn wsX7_disconnect wsX7_noEdge := goodIn_r _ [8, 9, 10, 11, 7, 12, 13, 14, 15, 16, 17, 18, 19, 20, 21, 22, 1, 23, 24, 25, 26, 27, 42, 43, 44, 45, 46, 47, 48, 49, 50, 51, 52, 53, 54, 55, 56, 57, 58, 59, 60, 61] (by decide +kernel) (by decide +kernel)
set_option maxRecDepth 20000 in
theorem gX7_disconnect_X7_noEdge : GoodIn wsX7_disconnect (wsV RX7 102 RX7 yX7_noEdge wsX7_noEdge) := goodIn_app (goodIn_of _ (by decide +kernel)) ggX7_disconnect_X7_noEdge
set_option maxRecDepth 20000 in
theorem ggX7_disconnect_X7_matched : GoodIn wsX7_disconnect wsX7_matched := goodIn_r _ [31, 13, 2, 42, 43, 44, 45, 46, 47, 48, 49, 50, 51, 52, 53, 54, 55, 56, 57, 58, 59, 60, 61] (by decide +kernel) (by decide +kernel)
set_option maxRecDepth 20000 in
theorem gX7_disconnect_X7_matched : GoodIn wsX7_disconnect (wsV RX7 95 RX7 yX7_matched wsX7_matched) := goodIn_app (goodIn_of _ (by decide +kernel)) ggX7_disconnect_X7_matched
set_option maxRecDepth 20000 in
theorem ggX7_disconnect_X7_search : GoodIn wsX7_disconnect wsX7_search := goodIn_r _ [35, 13, 2, 36, 37, 18, 3, 19, 20, 21, 7, 22, 1, 38, 39, 40, 41, 42, 43, 44, 45, 46, 47, 48, 49, 50, 51, 52, 53, 54, 55, 56, 57, 58, 59, 60, 61] (by decide +kernel) (by decide +kernel)
set_option maxRecDepth 20000 in
theorem gX7_disconnect_X7_search : GoodIn wsX7_disconnect (wsV RX7 99 RX7 yX7_search wsX7_search) := goodIn_app (goodIn_of _ (by decide +kernel)) ggX7_disconnect_X7_search
theorem dX7_disconnect_0 : decode cX7_disconnect 0 = .ok (.aload_n 0, 1) := by decide +kernel
theorem dX7_disconnect_1 : decode cX7_disconnect 1 = .ok (.iload_n 1, 1) := by decide +kernel
theorem dX7_disconnect_2 : decode cX7_disconnect 2 = .ok (.iload_n 2, 1) := by decide +kernel
theorem dX7_disconnect_3 : decode cX7_disconnect 3 = .ok (.invokevirtual 102, 3) := by decide +kernel
theorem dX7_disconnect_6 : decode cX7_disconnect 6 = .ok (.ifCond .eq 5, 3) := by decide +kernel
theorem dX7_disconnect_9 : decode cX7_disconnect 9 = .ok (.iconst 0, 1) := by decide +kernel
theorem dX7_disconnect_10 : decode cX7_disconnect 10 = .ok (.ireturn, 1) := by decide +kernel
theorem dX7_disconnect_11 : decode cX7_disconnect 11 = .ok (.aload_n 0, 1) := by decide +kernel
theorem dX7_disconnect_12 : decode cX7_disconnect 12 = .ok (.invokevirtual 95, 3) := by decide +kernel
theorem dX7_disconnect_15 : decode cX7_disconnect 15 = .ok (.istore_n 3, 1) := by decide +kernel
theorem dX7_disconnect_16 : decode cX7_disconnect 16 = .ok (.aload_n 0, 1) := by decide +kernel
theorem dX7_disconnect_17 : decode cX7_disconnect 17 = .ok (.getfield 7, 3) := by decide +kernel
theorem dX7_disconnect_20 : decode cX7_disconnect 20 = .ok (.bipush 12, 2) := by decide +kernel
theorem dX7_disconnect_22 : decode cX7_disconnect 22 = .ok (.iload_n 1, 1) := by decide +kernel
theorem dX7_disconnect_23 : decode cX7_disconnect 23 = .ok (.imul, 1) := by decide +kernel
theorem dX7_disconnect_24 : decode cX7_disconnect 24 = .ok (.iload_n 2, 1) := by decide +kernel
theorem dX7_disconnect_25 : decode cX7_disconnect 25 = .ok (.iadd, 1) := by decide +kernel
theorem dX7_disconnect_26 : decode cX7_disconnect 26 = .ok (.iconst 0, 1) := by decide +kernel
theorem dX7_disconnect_27 : decode cX7_disconnect 27 = .ok (.bastore, 1) := by decide +kernel
theorem dX7_disconnect_28 : decode cX7_disconnect 28 = .ok (.aload_n 0, 1) := by decide +kernel
theorem dX7_disconnect_29 : decode cX7_disconnect 29 = .ok (.getfield 13, 3) := by decide +kernel
theorem dX7_disconnect_32 : decode cX7_disconnect 32 = .ok (.iload_n 1, 1) := by decide +kernel
theorem dX7_disconnect_33 : decode cX7_disconnect 33 = .ok (.iaload, 1) := by decide +kernel
theorem dX7_disconnect_34 : decode cX7_disconnect 34 = .ok (.iload_n 2, 1) := by decide +kernel
theorem dX7_disconnect_35 : decode cX7_disconnect 35 = .ok (.if_icmp .ne 21, 3) := by decide +kernel
theorem dX7_disconnect_38 : decode cX7_disconnect 38 = .ok (.aload_n 0, 1) := by decide +kernel
theorem dX7_disconnect_39 : decode cX7_disconnect 39 = .ok (.getfield 13, 3) := by decide +kernel
theorem dX7_disconnect_42 : decode cX7_disconnect 42 = .ok (.iload_n 1, 1) := by decide +kernel
theorem dX7_disconnect_43 : decode cX7_disconnect 43 = .ok (.iconst (-1), 1) := by decide +kernel
theorem dX7_disconnect_44 : decode cX7_disconnect 44 = .ok (.iastore, 1) := by decide +kernel
theorem dX7_disconnect_45 : decode cX7_disconnect 45 = .ok (.aload_n 0, 1) := by decide +kernel
theorem dX7_disconnect_46 : decode cX7_disconnect 46 = .ok (.getfield 17, 3) := by decide +kernel
theorem dX7_disconnect_49 : decode cX7_disconnect 49 = .ok (.iload_n 2, 1) := by decide +kernel
theorem dX7_disconnect_50 : decode cX7_disconnect 50 = .ok (.iconst (-1), 1) := by decide +kernel
theorem dX7_disconnect_51 : decode cX7_disconnect 51 = .ok (.iastore, 1) := by decide +kernel
theorem dX7_disconnect_52 : decode cX7_disconnect 52 = .ok (.aload_n 0, 1) := by decide +kernel
theorem dX7_disconnect_53 : decode cX7_disconnect 53 = .ok (.invokevirtual 99, 3) := by decide +kernel
theorem dX7_disconnect_56 : decode cX7_disconnect 56 = .ok (.aload_n 0, 1) := by decide +kernel
theorem dX7_disconnect_57 : decode cX7_disconnect 57 = .ok (.invokevirtual 95, 3) := by decide +kernel
theorem dX7_disconnect_60 : decode cX7_disconnect 60 = .ok (.iload_n 3, 1) := by decide +kernel
theorem dX7_disconnect_61 : decode cX7_disconnect 61 = .ok (.if_icmp .ge 7, 3) := by decide +kernel
theorem dX7_disconnect_64 : decode cX7_disconnect 64 = .ok (.iconst 1, 1) := by decide +kernel
theorem dX7_disconnect_65 : decode cX7_disconnect 65 = .ok (.goto 4, 3) := by decide +kernel
theorem dX7_disconnect_68 : decode cX7_disconnect 68 = .ok (.iconst 0, 1) := by decide +kernel
theorem dX7_disconnect_69 : decode cX7_disconnect 69 = .ok (.ireturn, 1) := by decide +kernel
set_option maxRecDepth 20000 in
theorem ggX7_hasEdge_X7_isLeft : GoodIn wsX7_hasEdge wsX7_isLeft := goodIn_r _ [5, 6, 22, 23, 24, 25, 26, 27, 28, 29, 30, 31, 32, 33, 34, 35, 36, 37, 38, 39, 40, 41] (by decide +kernel) (by decide +kernel)
set_option maxRecDepth 20000 in
theorem gX7_hasEdge_X7_isLeft : GoodIn wsX7_hasEdge (wsV RX7 89 RX7 yX7_isLeft wsX7_isLeft) := goodIn_app (goodIn_of _ (by decide +kernel)) ggX7_hasEdge_X7_isLeft
set_option maxRecDepth 20000 in
theorem ggX7_hasEdge_X7_isRight : GoodIn wsX7_hasEdge wsX7_isRight := goodIn_r _ [10, 11, 22, 23, 24, 25, 26, 27, 28, 29, 30, 31, 32, 33, 34, 35, 36, 37, 38, 39, 40, 41] (by decide +kernel) (by decide +kernel)
set_option maxRecDepth 20000 in
theorem gX7_hasEdge_X7_isRight : GoodIn wsX7_hasEdge (wsV RX7 92 RX7 yX7_isRight wsX7_isRight) := goodIn_app (goodIn_of _ (by decide +kernel)) ggX7_hasEdge_X7_isRight
set_option maxRecDepth 20000 in
theorem ggX7_hasEdge_X7_refused : GoodIn wsX7_hasEdge wsX7_refused := goodIn_r _ [15, 16, 22, 23, 24, 25, 26, 27, 28, 29, 30, 31, 32, 33, 34, 35, 36, 37, 38, 39, 40, 41] (by decide +kernel) (by decide +kernel)
set_option maxRecDepth 20000 in
theorem gX7_hasEdge_X7_refused : GoodIn wsX7_hasEdge (wsV RX7 73 RX7 yX7_refused wsX7_refused) := goodIn_app (goodIn_of _ (by decide +kernel)) ggX7_hasEdge_X7_refused
set_option maxRecDepth 20000 in
theorem ggX7_hasEdge_X7_isEdge : GoodIn wsX7_hasEdge wsX7_isEdge := goodIn_r _ [20, 21, 22, 23, 24, 25, 26, 27, 28, 29, 30, 31, 32, 33, 34, 35, 36, 37, 38, 39, 40, 41] (by decide +kernel) (by decide +kernel)
set_option maxRecDepth 20000 in
theorem gX7_hasEdge_X7_isEdge : GoodIn wsX7_hasEdge (wsV RX7 81 RX7 yX7_isEdge wsX7_isEdge) := goodIn_app (goodIn_of _ (by decide +kernel)) ggX7_hasEdge_X7_isEdge
theorem dX7_hasEdge_0 : decode cX7_hasEdge 0 = .ok (.aload_n 0, 1) := by decide +kernel
theorem dX7_hasEdge_1 : decode cX7_hasEdge 1 = .ok (.aload_n 0, 1) := by decide +kernel
theorem dX7_hasEdge_2 : decode cX7_hasEdge 2 = .ok (.iload_n 1, 1) := by decide +kernel
theorem dX7_hasEdge_3 : decode cX7_hasEdge 3 = .ok (.invokevirtual 89, 3) := by decide +kernel
theorem dX7_hasEdge_6 : decode cX7_hasEdge 6 = .ok (.ifCond .eq 15, 3) := by decide +kernel
theorem dX7_hasEdge_9 : decode cX7_hasEdge 9 = .ok (.aload_n 0, 1) := by decide +kernel
theorem dX7_hasEdge_10 : decode cX7_hasEdge 10 = .ok (.iload_n 2, 1) := by decide +kernel
theorem dX7_hasEdge_11 : decode cX7_hasEdge 11 = .ok (.invokevirtual 92, 3) := by decide +kernel
theorem dX7_hasEdge_14 : decode cX7_hasEdge 14 = .ok (.ifCond .eq 7, 3) := by decide +kernel
theorem dX7_hasEdge_17 : decode cX7_hasEdge 17 = .ok (.iconst 0, 1) := by decide +kernel
theorem dX7_hasEdge_18 : decode cX7_hasEdge 18 = .ok (.goto 4, 3) := by decide +kernel
theorem dX7_hasEdge_21 : decode cX7_hasEdge 21 = .ok (.iconst 1, 1) := by decide +kernel
theorem dX7_hasEdge_22 : decode cX7_hasEdge 22 = .ok (.invokevirtual 73, 3) := by decide +kernel
theorem dX7_hasEdge_25 : decode cX7_hasEdge 25 = .ok (.ifCond .ne 16, 3) := by decide +kernel
theorem dX7_hasEdge_28 : decode cX7_hasEdge 28 = .ok (.aload_n 0, 1) := by decide +kernel
theorem dX7_hasEdge_29 : decode cX7_hasEdge 29 = .ok (.iload_n 1, 1) := by decide +kernel
theorem dX7_hasEdge_30 : decode cX7_hasEdge 30 = .ok (.iload_n 2, 1) := by decide +kernel
theorem dX7_hasEdge_31 : decode cX7_hasEdge 31 = .ok (.invokevirtual 81, 3) := by decide +kernel
theorem dX7_hasEdge_34 : decode cX7_hasEdge 34 = .ok (.ifCond .eq 7, 3) := by decide +kernel
theorem dX7_hasEdge_37 : decode cX7_hasEdge 37 = .ok (.iconst 1, 1) := by decide +kernel
theorem dX7_hasEdge_38 : decode cX7_hasEdge 38 = .ok (.goto 4, 3) := by decide +kernel
theorem dX7_hasEdge_41 : decode cX7_hasEdge 41 = .ok (.iconst 0, 1) := by decide +kernel
theorem dX7_hasEdge_42 : decode cX7_hasEdge 42 = .ok (.ireturn, 1) := by decide +kernel
set_option maxRecDepth 20000 in
theorem ggX7_size_X7_matched : GoodIn wsX7_size wsX7_matched := goodIn_r _ [5, 6, 7, 13, 14, 15, 16, 17, 18, 19, 20, 21, 22, 23, 24, 25, 26, 27, 28, 29, 30, 31, 32] (by decide +kernel) (by decide +kernel)
set_option maxRecDepth 20000 in
theorem gX7_size_X7_matched : GoodIn wsX7_size (wsV RX7 95 RX7 yX7_matched wsX7_matched) := goodIn_app (goodIn_of _ (by decide +kernel)) ggX7_size_X7_matched
set_option maxRecDepth 20000 in
theorem ggX7_size_X7_fine : GoodIn wsX7_size wsX7_fine := goodIn_r _ [11, 12, 13, 14, 15, 16, 17, 18, 19, 20, 21, 22, 23, 24, 25, 26, 27, 28, 29, 30, 31, 32] (by decide +kernel) (by decide +kernel)
set_option maxRecDepth 20000 in
theorem gX7_size_X7_fine : GoodIn wsX7_size (wsV RX7 77 RX7 yX7_fine wsX7_fine) := goodIn_app (goodIn_of _ (by decide +kernel)) ggX7_size_X7_fine
theorem dX7_size_0 : decode cX7_size 0 = .ok (.aload_n 0, 1) := by decide +kernel
theorem dX7_size_1 : decode cX7_size 1 = .ok (.aload_n 0, 1) := by decide +kernel
theorem dX7_size_2 : decode cX7_size 2 = .ok (.invokevirtual 95, 3) := by decide +kernel
theorem dX7_size_5 : decode cX7_size 5 = .ok (.invokevirtual 77, 3) := by decide +kernel
theorem dX7_size_8 : decode cX7_size 8 = .ok (.ireturn, 1) := by decide +kernel
set_option maxRecDepth 20000 in
theorem ggX7_partnerOfLeft_X7_isLeft : GoodIn wsX7_partnerOfLeft wsX7_isLeft := goodIn_r _ [6, 7, 13, 14, 15, 16, 17, 18, 19, 20, 21, 22, 23, 24, 25, 26, 27, 28, 29, 30, 31, 32] (by decide +kernel) (by decide +kernel)
set_option maxRecDepth 20000 in
theorem gX7_partnerOfLeft_X7_isLeft : GoodIn wsX7_partnerOfLeft (wsV RX7 89 RX7 yX7_isLeft wsX7_isLeft) := goodIn_app (goodIn_of _ (by decide +kernel)) ggX7_partnerOfLeft_X7_isLeft
set_option maxRecDepth 20000 in
theorem ggX7_partnerOfLeft_X7_refused : GoodIn wsX7_partnerOfLeft wsX7_refused := goodIn_r _ [11, 12, 13, 14, 15, 16, 17, 18, 19, 20, 21, 22, 23, 24, 25, 26, 27, 28, 29, 30, 31, 32] (by decide +kernel) (by decide +kernel)
set_option maxRecDepth 20000 in
theorem gX7_partnerOfLeft_X7_refused : GoodIn wsX7_partnerOfLeft (wsV RX7 73 RX7 yX7_refused wsX7_refused) := goodIn_app (goodIn_of _ (by decide +kernel)) ggX7_partnerOfLeft_X7_refused
theorem dX7_partnerOfLeft_0 : decode cX7_partnerOfLeft 0 = .ok (.aload_n 0, 1) := by decide +kernel
theorem dX7_partnerOfLeft_1 : decode cX7_partnerOfLeft 1 = .ok (.aload_n 0, 1) := by decide +kernel
theorem dX7_partnerOfLeft_2 : decode cX7_partnerOfLeft 2 = .ok (.iload_n 1, 1) := by decide +kernel
theorem dX7_partnerOfLeft_3 : decode cX7_partnerOfLeft 3 = .ok (.invokevirtual 89, 3) := by decide +kernel
theorem dX7_partnerOfLeft_6 : decode cX7_partnerOfLeft 6 = .ok (.ifCond .ne 7, 3) := by decide +kernel
theorem dX7_partnerOfLeft_9 : decode cX7_partnerOfLeft 9 = .ok (.iconst 1, 1) := by decide +kernel
theorem dX7_partnerOfLeft_10 : decode cX7_partnerOfLeft 10 = .ok (.goto 18, 3) := by decide +kernel
theorem dX7_partnerOfLeft_13 : decode cX7_partnerOfLeft 13 = .ok (.aload_n 0, 1) := by decide +kernel
theorem dX7_partnerOfLeft_14 : decode cX7_partnerOfLeft 14 = .ok (.getfield 13, 3) := by decide +kernel
theorem dX7_partnerOfLeft_17 : decode cX7_partnerOfLeft 17 = .ok (.iload_n 1, 1) := by decide +kernel
theorem dX7_partnerOfLeft_18 : decode cX7_partnerOfLeft 18 = .ok (.iaload, 1) := by decide +kernel
theorem dX7_partnerOfLeft_19 : decode cX7_partnerOfLeft 19 = .ok (.iconst (-1), 1) := by decide +kernel
theorem dX7_partnerOfLeft_20 : decode cX7_partnerOfLeft 20 = .ok (.if_icmp .ne 7, 3) := by decide +kernel
theorem dX7_partnerOfLeft_23 : decode cX7_partnerOfLeft 23 = .ok (.iconst 2, 1) := by decide +kernel
theorem dX7_partnerOfLeft_24 : decode cX7_partnerOfLeft 24 = .ok (.goto 4, 3) := by decide +kernel
theorem dX7_partnerOfLeft_27 : decode cX7_partnerOfLeft 27 = .ok (.iconst 0, 1) := by decide +kernel
theorem dX7_partnerOfLeft_28 : decode cX7_partnerOfLeft 28 = .ok (.invokevirtual 73, 3) := by decide +kernel
theorem dX7_partnerOfLeft_31 : decode cX7_partnerOfLeft 31 = .ok (.ifCond .eq 7, 3) := by decide +kernel
theorem dX7_partnerOfLeft_34 : decode cX7_partnerOfLeft 34 = .ok (.iconst 0, 1) := by decide +kernel
theorem dX7_partnerOfLeft_35 : decode cX7_partnerOfLeft 35 = .ok (.goto 9, 3) := by decide +kernel
theorem dX7_partnerOfLeft_38 : decode cX7_partnerOfLeft 38 = .ok (.aload_n 0, 1) := by decide +kernel
theorem dX7_partnerOfLeft_39 : decode cX7_partnerOfLeft 39 = .ok (.getfield 13, 3) := by decide +kernel
theorem dX7_partnerOfLeft_42 : decode cX7_partnerOfLeft 42 = .ok (.iload_n 1, 1) := by decide +kernel
theorem dX7_partnerOfLeft_43 : decode cX7_partnerOfLeft 43 = .ok (.iaload, 1) := by decide +kernel
theorem dX7_partnerOfLeft_44 : decode cX7_partnerOfLeft 44 = .ok (.ireturn, 1) := by decide +kernel
set_option maxRecDepth 20000 in
theorem ggX7_partnerOfRight_X7_isRight : GoodIn wsX7_partnerOfRight wsX7_isRight := goodIn_r _ [6, 7, 13, 14, 15, 16, 17, 18, 19, 20, 21, 22, 23, 24, 25, 26, 27, 28, 29, 30, 31, 32] (by decide +kernel) (by decide +kernel)
set_option maxRecDepth 20000 in
theorem gX7_partnerOfRight_X7_isRight : GoodIn wsX7_partnerOfRight (wsV RX7 92 RX7 yX7_isRight wsX7_isRight) := goodIn_app (goodIn_of _ (by decide +kernel)) ggX7_partnerOfRight_X7_isRight
set_option maxRecDepth 20000 in
theorem ggX7_partnerOfRight_X7_refused : GoodIn wsX7_partnerOfRight wsX7_refused := goodIn_r _ [11, 12, 13, 14, 15, 16, 17, 18, 19, 20, 21, 22, 23, 24, 25, 26, 27, 28, 29, 30, 31, 32] (by decide +kernel) (by decide +kernel)
set_option maxRecDepth 20000 in
theorem gX7_partnerOfRight_X7_refused : GoodIn wsX7_partnerOfRight (wsV RX7 73 RX7 yX7_refused wsX7_refused) := goodIn_app (goodIn_of _ (by decide +kernel)) ggX7_partnerOfRight_X7_refused
theorem dX7_partnerOfRight_0 : decode cX7_partnerOfRight 0 = .ok (.aload_n 0, 1) := by decide +kernel
theorem dX7_partnerOfRight_1 : decode cX7_partnerOfRight 1 = .ok (.aload_n 0, 1) := by decide +kernel
theorem dX7_partnerOfRight_2 : decode cX7_partnerOfRight 2 = .ok (.iload_n 1, 1) := by decide +kernel
theorem dX7_partnerOfRight_3 : decode cX7_partnerOfRight 3 = .ok (.invokevirtual 92, 3) := by decide +kernel
theorem dX7_partnerOfRight_6 : decode cX7_partnerOfRight 6 = .ok (.ifCond .ne 7, 3) := by decide +kernel
theorem dX7_partnerOfRight_9 : decode cX7_partnerOfRight 9 = .ok (.iconst 1, 1) := by decide +kernel
theorem dX7_partnerOfRight_10 : decode cX7_partnerOfRight 10 = .ok (.goto 18, 3) := by decide +kernel
theorem dX7_partnerOfRight_13 : decode cX7_partnerOfRight 13 = .ok (.aload_n 0, 1) := by decide +kernel
theorem dX7_partnerOfRight_14 : decode cX7_partnerOfRight 14 = .ok (.getfield 17, 3) := by decide +kernel
theorem dX7_partnerOfRight_17 : decode cX7_partnerOfRight 17 = .ok (.iload_n 1, 1) := by decide +kernel
theorem dX7_partnerOfRight_18 : decode cX7_partnerOfRight 18 = .ok (.iaload, 1) := by decide +kernel
theorem dX7_partnerOfRight_19 : decode cX7_partnerOfRight 19 = .ok (.iconst (-1), 1) := by decide +kernel
theorem dX7_partnerOfRight_20 : decode cX7_partnerOfRight 20 = .ok (.if_icmp .ne 7, 3) := by decide +kernel
theorem dX7_partnerOfRight_23 : decode cX7_partnerOfRight 23 = .ok (.iconst 2, 1) := by decide +kernel
theorem dX7_partnerOfRight_24 : decode cX7_partnerOfRight 24 = .ok (.goto 4, 3) := by decide +kernel
theorem dX7_partnerOfRight_27 : decode cX7_partnerOfRight 27 = .ok (.iconst 0, 1) := by decide +kernel
theorem dX7_partnerOfRight_28 : decode cX7_partnerOfRight 28 = .ok (.invokevirtual 73, 3) := by decide +kernel
theorem dX7_partnerOfRight_31 : decode cX7_partnerOfRight 31 = .ok (.ifCond .eq 7, 3) := by decide +kernel
theorem dX7_partnerOfRight_34 : decode cX7_partnerOfRight 34 = .ok (.iconst 0, 1) := by decide +kernel
theorem dX7_partnerOfRight_35 : decode cX7_partnerOfRight 35 = .ok (.goto 9, 3) := by decide +kernel
theorem dX7_partnerOfRight_38 : decode cX7_partnerOfRight 38 = .ok (.aload_n 0, 1) := by decide +kernel
theorem dX7_partnerOfRight_39 : decode cX7_partnerOfRight 39 = .ok (.getfield 17, 3) := by decide +kernel
theorem dX7_partnerOfRight_42 : decode cX7_partnerOfRight 42 = .ok (.iload_n 1, 1) := by decide +kernel
theorem dX7_partnerOfRight_43 : decode cX7_partnerOfRight 43 = .ok (.iaload, 1) := by decide +kernel
theorem dX7_partnerOfRight_44 : decode cX7_partnerOfRight 44 = .ok (.ireturn, 1) := by decide +kernel
set_option maxRecDepth 20000 in
theorem ggX7_levelAll_X7_isEdge : GoodIn wsX7_levelAll wsX7_isEdge := goodIn_r _ [11, 12, 13, 14, 15, 16, 17, 18, 19, 20, 21, 22, 23, 24, 25, 26, 27, 28, 29, 30, 31, 32] (by decide +kernel) (by decide +kernel)
set_option maxRecDepth 20000 in
theorem gX7_levelAll_X7_isEdge : GoodIn wsX7_levelAll (wsV RX7 81 RX7 yX7_isEdge wsX7_isEdge) := goodIn_app (goodIn_of _ (by decide +kernel)) ggX7_levelAll_X7_isEdge
theorem dX7_levelAll_0 : decode cX7_levelAll 0 = .ok (.iconst 0, 1) := by decide +kernel
theorem dX7_levelAll_1 : decode cX7_levelAll 1 = .ok (.istore_n 1, 1) := by decide +kernel
theorem dX7_levelAll_2 : decode cX7_levelAll 2 = .ok (.iload_n 1, 1) := by decide +kernel
theorem dX7_levelAll_3 : decode cX7_levelAll 3 = .ok (.aload_n 0, 1) := by decide +kernel
theorem dX7_levelAll_4 : decode cX7_levelAll 4 = .ok (.getfield 67, 3) := by decide +kernel
theorem dX7_levelAll_7 : decode cX7_levelAll 7 = .ok (.if_icmp .ge 50, 3) := by decide +kernel
theorem dX7_levelAll_10 : decode cX7_levelAll 10 = .ok (.aload_n 0, 1) := by decide +kernel
theorem dX7_levelAll_11 : decode cX7_levelAll 11 = .ok (.getfield 35, 3) := by decide +kernel
theorem dX7_levelAll_14 : decode cX7_levelAll 14 = .ok (.iload_n 1, 1) := by decide +kernel
theorem dX7_levelAll_15 : decode cX7_levelAll 15 = .ok (.aload_n 0, 1) := by decide +kernel
theorem dX7_levelAll_16 : decode cX7_levelAll 16 = .ok (.getfield 20, 3) := by decide +kernel
theorem dX7_levelAll_19 : decode cX7_levelAll 19 = .ok (.iload_n 1, 1) := by decide +kernel
theorem dX7_levelAll_20 : decode cX7_levelAll 20 = .ok (.iaload, 1) := by decide +kernel
theorem dX7_levelAll_21 : decode cX7_levelAll 21 = .ok (.iconst (-1), 1) := by decide +kernel
theorem dX7_levelAll_22 : decode cX7_levelAll 22 = .ok (.if_icmp .ne 7, 3) := by decide +kernel
theorem dX7_levelAll_25 : decode cX7_levelAll 25 = .ok (.iconst 1, 1) := by decide +kernel
theorem dX7_levelAll_26 : decode cX7_levelAll 26 = .ok (.goto 4, 3) := by decide +kernel
theorem dX7_levelAll_29 : decode cX7_levelAll 29 = .ok (.iconst 0, 1) := by decide +kernel
theorem dX7_levelAll_30 : decode cX7_levelAll 30 = .ok (.bastore, 1) := by decide +kernel
theorem dX7_levelAll_31 : decode cX7_levelAll 31 = .ok (.aload_n 0, 1) := by decide +kernel
theorem dX7_levelAll_32 : decode cX7_levelAll 32 = .ok (.getfield 32, 3) := by decide +kernel
theorem dX7_levelAll_35 : decode cX7_levelAll 35 = .ok (.iload_n 1, 1) := by decide +kernel
theorem dX7_levelAll_36 : decode cX7_levelAll 36 = .ok (.aload_n 0, 1) := by decide +kernel
theorem dX7_levelAll_37 : decode cX7_levelAll 37 = .ok (.getfield 35, 3) := by decide +kernel
theorem dX7_levelAll_40 : decode cX7_levelAll 40 = .ok (.iload_n 1, 1) := by decide +kernel
theorem dX7_levelAll_41 : decode cX7_levelAll 41 = .ok (.baload, 1) := by decide +kernel
theorem dX7_levelAll_42 : decode cX7_levelAll 42 = .ok (.ifCond .eq 7, 3) := by decide +kernel
theorem dX7_levelAll_45 : decode cX7_levelAll 45 = .ok (.iconst 0, 1) := by decide +kernel
theorem dX7_levelAll_46 : decode cX7_levelAll 46 = .ok (.goto 4, 3) := by decide +kernel
theorem dX7_levelAll_49 : decode cX7_levelAll 49 = .ok (.iconst (-1), 1) := by decide +kernel
theorem dX7_levelAll_50 : decode cX7_levelAll 50 = .ok (.iastore, 1) := by decide +kernel
theorem dX7_levelAll_51 : decode cX7_levelAll 51 = .ok (.iinc 1 1, 3) := by decide +kernel
theorem dX7_levelAll_54 : decode cX7_levelAll 54 = .ok (.goto (-52), 3) := by decide +kernel
theorem dX7_levelAll_57 : decode cX7_levelAll 57 = .ok (.iconst 0, 1) := by decide +kernel
theorem dX7_levelAll_58 : decode cX7_levelAll 58 = .ok (.istore_n 1, 1) := by decide +kernel
theorem dX7_levelAll_59 : decode cX7_levelAll 59 = .ok (.iload_n 1, 1) := by decide +kernel
theorem dX7_levelAll_60 : decode cX7_levelAll 60 = .ok (.bipush 12, 2) := by decide +kernel
theorem dX7_levelAll_62 : decode cX7_levelAll 62 = .ok (.if_icmp .ge 95, 3) := by decide +kernel
theorem dX7_levelAll_65 : decode cX7_levelAll 65 = .ok (.iconst 0, 1) := by decide +kernel
theorem dX7_levelAll_66 : decode cX7_levelAll 66 = .ok (.istore_n 2, 1) := by decide +kernel
theorem dX7_levelAll_67 : decode cX7_levelAll 67 = .ok (.iload_n 2, 1) := by decide +kernel
theorem dX7_levelAll_68 : decode cX7_levelAll 68 = .ok (.aload_n 0, 1) := by decide +kernel
theorem dX7_levelAll_69 : decode cX7_levelAll 69 = .ok (.getfield 67, 3) := by decide +kernel
theorem dX7_levelAll_72 : decode cX7_levelAll 72 = .ok (.if_icmp .ge 79, 3) := by decide +kernel
theorem dX7_levelAll_75 : decode cX7_levelAll 75 = .ok (.iconst 0, 1) := by decide +kernel
theorem dX7_levelAll_76 : decode cX7_levelAll 76 = .ok (.istore_n 3, 1) := by decide +kernel
theorem dX7_levelAll_77 : decode cX7_levelAll 77 = .ok (.iload_n 3, 1) := by decide +kernel
theorem dX7_levelAll_78 : decode cX7_levelAll 78 = .ok (.aload_n 0, 1) := by decide +kernel
theorem dX7_levelAll_79 : decode cX7_levelAll 79 = .ok (.getfield 70, 3) := by decide +kernel
theorem dX7_levelAll_82 : decode cX7_levelAll 82 = .ok (.if_icmp .ge 63, 3) := by decide +kernel
theorem dX7_levelAll_85 : decode cX7_levelAll 85 = .ok (.aload_n 0, 1) := by decide +kernel
theorem dX7_levelAll_86 : decode cX7_levelAll 86 = .ok (.getfield 32, 3) := by decide +kernel
theorem dX7_levelAll_89 : decode cX7_levelAll 89 = .ok (.iload_n 2, 1) := by decide +kernel
theorem dX7_levelAll_90 : decode cX7_levelAll 90 = .ok (.iaload, 1) := by decide +kernel
theorem dX7_levelAll_91 : decode cX7_levelAll 91 = .ok (.iload_n 1, 1) := by decide +kernel
theorem dX7_levelAll_92 : decode cX7_levelAll 92 = .ok (.if_icmp .ne 53, 3) := by decide +kernel
theorem dX7_levelAll_95 : decode cX7_levelAll 95 = .ok (.aload_n 0, 1) := by decide +kernel
theorem dX7_levelAll_96 : decode cX7_levelAll 96 = .ok (.getfield 23, 3) := by decide +kernel
theorem dX7_levelAll_99 : decode cX7_levelAll 99 = .ok (.iload_n 3, 1) := by decide +kernel
theorem dX7_levelAll_100 : decode cX7_levelAll 100 = .ok (.iaload, 1) := by decide +kernel
theorem dX7_levelAll_101 : decode cX7_levelAll 101 = .ok (.istore 4, 2) := by decide +kernel
theorem dX7_levelAll_103 : decode cX7_levelAll 103 = .ok (.aload_n 0, 1) := by decide +kernel
theorem dX7_levelAll_104 : decode cX7_levelAll 104 = .ok (.iload_n 2, 1) := by decide +kernel
theorem dX7_levelAll_105 : decode cX7_levelAll 105 = .ok (.iload_n 3, 1) := by decide +kernel
theorem dX7_levelAll_106 : decode cX7_levelAll 106 = .ok (.invokevirtual 81, 3) := by decide +kernel
theorem dX7_levelAll_109 : decode cX7_levelAll 109 = .ok (.ifCond .eq 30, 3) := by decide +kernel
theorem dX7_levelAll_112 : decode cX7_levelAll 112 = .ok (.iload 4, 2) := by decide +kernel
theorem dX7_levelAll_114 : decode cX7_levelAll 114 = .ok (.iconst (-1), 1) := by decide +kernel
theorem dX7_levelAll_115 : decode cX7_levelAll 115 = .ok (.if_icmp .eq 24, 3) := by decide +kernel
theorem dX7_levelAll_118 : decode cX7_levelAll 118 = .ok (.aload_n 0, 1) := by decide +kernel
theorem dX7_levelAll_119 : decode cX7_levelAll 119 = .ok (.getfield 32, 3) := by decide +kernel
theorem dX7_levelAll_122 : decode cX7_levelAll 122 = .ok (.iload 4, 2) := by decide +kernel
theorem dX7_levelAll_124 : decode cX7_levelAll 124 = .ok (.iaload, 1) := by decide +kernel
theorem dX7_levelAll_125 : decode cX7_levelAll 125 = .ok (.iconst (-1), 1) := by decide +kernel
theorem dX7_levelAll_126 : decode cX7_levelAll 126 = .ok (.if_icmp .ne 13, 3) := by decide +kernel
theorem dX7_levelAll_129 : decode cX7_levelAll 129 = .ok (.aload_n 0, 1) := by decide +kernel
theorem dX7_levelAll_130 : decode cX7_levelAll 130 = .ok (.getfield 32, 3) := by decide +kernel
theorem dX7_levelAll_133 : decode cX7_levelAll 133 = .ok (.iload 4, 2) := by decide +kernel
theorem dX7_levelAll_135 : decode cX7_levelAll 135 = .ok (.iload_n 1, 1) := by decide +kernel
theorem dX7_levelAll_136 : decode cX7_levelAll 136 = .ok (.iconst 1, 1) := by decide +kernel
theorem dX7_levelAll_137 : decode cX7_levelAll 137 = .ok (.iadd, 1) := by decide +kernel
theorem dX7_levelAll_138 : decode cX7_levelAll 138 = .ok (.iastore, 1) := by decide +kernel
theorem dX7_levelAll_139 : decode cX7_levelAll 139 = .ok (.iinc 3 1, 3) := by decide +kernel
theorem dX7_levelAll_142 : decode cX7_levelAll 142 = .ok (.goto (-65), 3) := by decide +kernel
theorem dX7_levelAll_145 : decode cX7_levelAll 145 = .ok (.iinc 2 1, 3) := by decide +kernel
theorem dX7_levelAll_148 : decode cX7_levelAll 148 = .ok (.goto (-81), 3) := by decide +kernel
theorem dX7_levelAll_151 : decode cX7_levelAll 151 = .ok (.iinc 1 1, 3) := by decide +kernel
theorem dX7_levelAll_154 : decode cX7_levelAll 154 = .ok (.goto (-95), 3) := by decide +kernel
theorem dX7_levelAll_157 : decode cX7_levelAll 157 = .ok (.return_, 1) := by decide +kernel
set_option maxRecDepth 20000 in
theorem ggX7_depth_X7_isEdge : GoodIn wsX7_depth wsX7_isEdge := goodIn_r _ [9, 10, 11, 12, 13, 14, 15, 16, 17, 18, 19, 20, 21, 22, 23, 24, 25, 26, 27, 28, 29, 30] (by decide +kernel) (by decide +kernel)
set_option maxRecDepth 20000 in
theorem gX7_depth_X7_isEdge : GoodIn wsX7_depth (wsV RX7 81 RX7 yX7_isEdge wsX7_isEdge) := goodIn_app (goodIn_of _ (by decide +kernel)) ggX7_depth_X7_isEdge
theorem dX7_depth_0 : decode cX7_depth 0 = .ok (.iconst (-1), 1) := by decide +kernel
theorem dX7_depth_1 : decode cX7_depth 1 = .ok (.istore_n 1, 1) := by decide +kernel
theorem dX7_depth_2 : decode cX7_depth 2 = .ok (.iconst 0, 1) := by decide +kernel
theorem dX7_depth_3 : decode cX7_depth 3 = .ok (.istore_n 2, 1) := by decide +kernel
theorem dX7_depth_4 : decode cX7_depth 4 = .ok (.iload_n 2, 1) := by decide +kernel
theorem dX7_depth_5 : decode cX7_depth 5 = .ok (.aload_n 0, 1) := by decide +kernel
theorem dX7_depth_6 : decode cX7_depth 6 = .ok (.getfield 67, 3) := by decide +kernel
theorem dX7_depth_9 : decode cX7_depth 9 = .ok (.if_icmp .ge 92, 3) := by decide +kernel
theorem dX7_depth_12 : decode cX7_depth 12 = .ok (.iconst 0, 1) := by decide +kernel
theorem dX7_depth_13 : decode cX7_depth 13 = .ok (.istore_n 3, 1) := by decide +kernel
theorem dX7_depth_14 : decode cX7_depth 14 = .ok (.iload_n 3, 1) := by decide +kernel
theorem dX7_depth_15 : decode cX7_depth 15 = .ok (.aload_n 0, 1) := by decide +kernel
theorem dX7_depth_16 : decode cX7_depth 16 = .ok (.getfield 70, 3) := by decide +kernel
theorem dX7_depth_19 : decode cX7_depth 19 = .ok (.if_icmp .ge 76, 3) := by decide +kernel
theorem dX7_depth_22 : decode cX7_depth 22 = .ok (.aload_n 0, 1) := by decide +kernel
theorem dX7_depth_23 : decode cX7_depth 23 = .ok (.getfield 32, 3) := by decide +kernel
theorem dX7_depth_26 : decode cX7_depth 26 = .ok (.iload_n 2, 1) := by decide +kernel
theorem dX7_depth_27 : decode cX7_depth 27 = .ok (.iaload, 1) := by decide +kernel
theorem dX7_depth_28 : decode cX7_depth 28 = .ok (.iconst (-1), 1) := by decide +kernel
theorem dX7_depth_29 : decode cX7_depth 29 = .ok (.if_icmp .eq 66, 3) := by decide +kernel
theorem dX7_depth_32 : decode cX7_depth 32 = .ok (.aload_n 0, 1) := by decide +kernel
theorem dX7_depth_33 : decode cX7_depth 33 = .ok (.iload_n 2, 1) := by decide +kernel
theorem dX7_depth_34 : decode cX7_depth 34 = .ok (.iload_n 3, 1) := by decide +kernel
theorem dX7_depth_35 : decode cX7_depth 35 = .ok (.invokevirtual 81, 3) := by decide +kernel
theorem dX7_depth_38 : decode cX7_depth 38 = .ok (.ifCond .eq 17, 3) := by decide +kernel
theorem dX7_depth_41 : decode cX7_depth 41 = .ok (.aload_n 0, 1) := by decide +kernel
theorem dX7_depth_42 : decode cX7_depth 42 = .ok (.getfield 23, 3) := by decide +kernel
theorem dX7_depth_45 : decode cX7_depth 45 = .ok (.iload_n 3, 1) := by decide +kernel
theorem dX7_depth_46 : decode cX7_depth 46 = .ok (.iaload, 1) := by decide +kernel
theorem dX7_depth_47 : decode cX7_depth 47 = .ok (.iconst (-1), 1) := by decide +kernel
theorem dX7_depth_48 : decode cX7_depth 48 = .ok (.if_icmp .ne 7, 3) := by decide +kernel
theorem dX7_depth_51 : decode cX7_depth 51 = .ok (.iconst 1, 1) := by decide +kernel
theorem dX7_depth_52 : decode cX7_depth 52 = .ok (.goto 4, 3) := by decide +kernel
theorem dX7_depth_55 : decode cX7_depth 55 = .ok (.iconst 0, 1) := by decide +kernel
theorem dX7_depth_56 : decode cX7_depth 56 = .ok (.istore 4, 2) := by decide +kernel
theorem dX7_depth_58 : decode cX7_depth 58 = .ok (.iload 4, 2) := by decide +kernel
theorem dX7_depth_60 : decode cX7_depth 60 = .ok (.ifCond .eq 27, 3) := by decide +kernel
theorem dX7_depth_63 : decode cX7_depth 63 = .ok (.iload_n 1, 1) := by decide +kernel
theorem dX7_depth_64 : decode cX7_depth 64 = .ok (.iconst (-1), 1) := by decide +kernel
theorem dX7_depth_65 : decode cX7_depth 65 = .ok (.if_icmp .eq 13, 3) := by decide +kernel
theorem dX7_depth_68 : decode cX7_depth 68 = .ok (.aload_n 0, 1) := by decide +kernel
theorem dX7_depth_69 : decode cX7_depth 69 = .ok (.getfield 32, 3) := by decide +kernel
theorem dX7_depth_72 : decode cX7_depth 72 = .ok (.iload_n 2, 1) := by decide +kernel
theorem dX7_depth_73 : decode cX7_depth 73 = .ok (.iaload, 1) := by decide +kernel
theorem dX7_depth_74 : decode cX7_depth 74 = .ok (.iload_n 1, 1) := by decide +kernel
theorem dX7_depth_75 : decode cX7_depth 75 = .ok (.if_icmp .ge 12, 3) := by decide +kernel
theorem dX7_depth_78 : decode cX7_depth 78 = .ok (.aload_n 0, 1) := by decide +kernel
theorem dX7_depth_79 : decode cX7_depth 79 = .ok (.getfield 32, 3) := by decide +kernel
theorem dX7_depth_82 : decode cX7_depth 82 = .ok (.iload_n 2, 1) := by decide +kernel
theorem dX7_depth_83 : decode cX7_depth 83 = .ok (.iaload, 1) := by decide +kernel
theorem dX7_depth_84 : decode cX7_depth 84 = .ok (.goto 4, 3) := by decide +kernel
theorem dX7_depth_87 : decode cX7_depth 87 = .ok (.iload_n 1, 1) := by decide +kernel
theorem dX7_depth_88 : decode cX7_depth 88 = .ok (.istore_n 1, 1) := by decide +kernel
theorem dX7_depth_89 : decode cX7_depth 89 = .ok (.iinc 3 1, 3) := by decide +kernel
theorem dX7_depth_92 : decode cX7_depth 92 = .ok (.goto (-78), 3) := by decide +kernel
theorem dX7_depth_95 : decode cX7_depth 95 = .ok (.iinc 2 1, 3) := by decide +kernel
theorem dX7_depth_98 : decode cX7_depth 98 = .ok (.goto (-94), 3) := by decide +kernel
theorem dX7_depth_101 : decode cX7_depth 101 = .ok (.iload_n 1, 1) := by decide +kernel
theorem dX7_depth_102 : decode cX7_depth 102 = .ok (.ireturn, 1) := by decide +kernel
set_option maxRecDepth 20000 in
theorem ggX7_finds_X7_isEdge : GoodIn wsX7_finds wsX7_isEdge := goodIn_r _ [12, 13, 14, 15, 16, 17, 18, 19, 20, 21, 22, 23, 24, 25, 26, 27, 28, 29, 30, 31, 32, 33] (by decide +kernel) (by decide +kernel)
set_option maxRecDepth 20000 in
theorem gX7_finds_X7_isEdge : GoodIn wsX7_finds (wsV RX7 81 RX7 yX7_isEdge wsX7_isEdge) := goodIn_app (goodIn_of _ (by decide +kernel)) ggX7_finds_X7_isEdge
theorem dX7_finds_0 : decode cX7_finds 0 = .ok (.iconst 0, 1) := by decide +kernel
theorem dX7_finds_1 : decode cX7_finds 1 = .ok (.istore_n 3, 1) := by decide +kernel
theorem dX7_finds_2 : decode cX7_finds 2 = .ok (.aload_n 0, 1) := by decide +kernel
theorem dX7_finds_3 : decode cX7_finds 3 = .ok (.getfield 44, 3) := by decide +kernel
theorem dX7_finds_6 : decode cX7_finds 6 = .ok (.iconst 0, 1) := by decide +kernel
theorem dX7_finds_7 : decode cX7_finds 7 = .ok (.iload_n 1, 1) := by decide +kernel
theorem dX7_finds_8 : decode cX7_finds 8 = .ok (.iastore, 1) := by decide +kernel
theorem dX7_finds_9 : decode cX7_finds 9 = .ok (.aload_n 0, 1) := by decide +kernel
theorem dX7_finds_10 : decode cX7_finds 10 = .ok (.getfield 41, 3) := by decide +kernel
theorem dX7_finds_13 : decode cX7_finds 13 = .ok (.iload_n 1, 1) := by decide +kernel
theorem dX7_finds_14 : decode cX7_finds 14 = .ok (.iconst 0, 1) := by decide +kernel
theorem dX7_finds_15 : decode cX7_finds 15 = .ok (.iastore, 1) := by decide +kernel
theorem dX7_finds_16 : decode cX7_finds 16 = .ok (.iconst 0, 1) := by decide +kernel
theorem dX7_finds_17 : decode cX7_finds 17 = .ok (.istore 4, 2) := by decide +kernel
theorem dX7_finds_19 : decode cX7_finds 19 = .ok (.iload_n 3, 1) := by decide +kernel
theorem dX7_finds_20 : decode cX7_finds 20 = .ok (.ifCond .lt 200, 3) := by decide +kernel
theorem dX7_finds_23 : decode cX7_finds 23 = .ok (.iload 4, 2) := by decide +kernel
theorem dX7_finds_25 : decode cX7_finds 25 = .ok (.ifCond .ne 195, 3) := by decide +kernel
theorem dX7_finds_28 : decode cX7_finds 28 = .ok (.aload_n 0, 1) := by decide +kernel
theorem dX7_finds_29 : decode cX7_finds 29 = .ok (.getfield 44, 3) := by decide +kernel
theorem dX7_finds_32 : decode cX7_finds 32 = .ok (.iload_n 3, 1) := by decide +kernel
theorem dX7_finds_33 : decode cX7_finds 33 = .ok (.iaload, 1) := by decide +kernel
theorem dX7_finds_34 : decode cX7_finds 34 = .ok (.istore 5, 2) := by decide +kernel
theorem dX7_finds_36 : decode cX7_finds 36 = .ok (.aload_n 0, 1) := by decide +kernel
theorem dX7_finds_37 : decode cX7_finds 37 = .ok (.getfield 41, 3) := by decide +kernel
theorem dX7_finds_40 : decode cX7_finds 40 = .ok (.iload 5, 2) := by decide +kernel
theorem dX7_finds_42 : decode cX7_finds 42 = .ok (.iaload, 1) := by decide +kernel
theorem dX7_finds_43 : decode cX7_finds 43 = .ok (.aload_n 0, 1) := by decide +kernel
theorem dX7_finds_44 : decode cX7_finds 44 = .ok (.getfield 70, 3) := by decide +kernel
theorem dX7_finds_47 : decode cX7_finds 47 = .ok (.if_icmp .ne 9, 3) := by decide +kernel
theorem dX7_finds_50 : decode cX7_finds 50 = .ok (.iinc 3 (-1), 3) := by decide +kernel
theorem dX7_finds_53 : decode cX7_finds 53 = .ok (.goto 164, 3) := by decide +kernel
theorem dX7_finds_56 : decode cX7_finds 56 = .ok (.aload_n 0, 1) := by decide +kernel
theorem dX7_finds_57 : decode cX7_finds 57 = .ok (.getfield 41, 3) := by decide +kernel
theorem dX7_finds_60 : decode cX7_finds 60 = .ok (.iload 5, 2) := by decide +kernel
theorem dX7_finds_62 : decode cX7_finds 62 = .ok (.iaload, 1) := by decide +kernel
theorem dX7_finds_63 : decode cX7_finds 63 = .ok (.istore 6, 2) := by decide +kernel
theorem dX7_finds_65 : decode cX7_finds 65 = .ok (.aload_n 0, 1) := by decide +kernel
theorem dX7_finds_66 : decode cX7_finds 66 = .ok (.getfield 41, 3) := by decide +kernel
theorem dX7_finds_69 : decode cX7_finds 69 = .ok (.iload 5, 2) := by decide +kernel
theorem dX7_finds_71 : decode cX7_finds 71 = .ok (.dup2, 1) := by decide +kernel
theorem dX7_finds_72 : decode cX7_finds 72 = .ok (.iaload, 1) := by decide +kernel
theorem dX7_finds_73 : decode cX7_finds 73 = .ok (.iconst 1, 1) := by decide +kernel
theorem dX7_finds_74 : decode cX7_finds 74 = .ok (.iadd, 1) := by decide +kernel
theorem dX7_finds_75 : decode cX7_finds 75 = .ok (.iastore, 1) := by decide +kernel
theorem dX7_finds_76 : decode cX7_finds 76 = .ok (.aload_n 0, 1) := by decide +kernel
theorem dX7_finds_77 : decode cX7_finds 77 = .ok (.getfield 23, 3) := by decide +kernel
theorem dX7_finds_80 : decode cX7_finds 80 = .ok (.iload 6, 2) := by decide +kernel
theorem dX7_finds_82 : decode cX7_finds 82 = .ok (.iaload, 1) := by decide +kernel
theorem dX7_finds_83 : decode cX7_finds 83 = .ok (.istore 7, 2) := by decide +kernel
theorem dX7_finds_85 : decode cX7_finds 85 = .ok (.aload_n 0, 1) := by decide +kernel
theorem dX7_finds_86 : decode cX7_finds 86 = .ok (.iload 5, 2) := by decide +kernel
theorem dX7_finds_88 : decode cX7_finds 88 = .ok (.iload 6, 2) := by decide +kernel
theorem dX7_finds_90 : decode cX7_finds 90 = .ok (.invokevirtual 81, 3) := by decide +kernel
theorem dX7_finds_93 : decode cX7_finds 93 = .ok (.ifCond .eq 17, 3) := by decide +kernel
theorem dX7_finds_96 : decode cX7_finds 96 = .ok (.aload_n 0, 1) := by decide +kernel
theorem dX7_finds_97 : decode cX7_finds 97 = .ok (.getfield 38, 3) := by decide +kernel
theorem dX7_finds_100 : decode cX7_finds 100 = .ok (.iload 6, 2) := by decide +kernel
theorem dX7_finds_102 : decode cX7_finds 102 = .ok (.baload, 1) := by decide +kernel
theorem dX7_finds_103 : decode cX7_finds 103 = .ok (.ifCond .ne 7, 3) := by decide +kernel
theorem dX7_finds_106 : decode cX7_finds 106 = .ok (.iconst 1, 1) := by decide +kernel
theorem dX7_finds_107 : decode cX7_finds 107 = .ok (.goto 4, 3) := by decide +kernel
theorem dX7_finds_110 : decode cX7_finds 110 = .ok (.iconst 0, 1) := by decide +kernel
theorem dX7_finds_111 : decode cX7_finds 111 = .ok (.istore 8, 2) := by decide +kernel
theorem dX7_finds_113 : decode cX7_finds 113 = .ok (.iload 8, 2) := by decide +kernel
theorem dX7_finds_115 : decode cX7_finds 115 = .ok (.ifCond .eq 34, 3) := by decide +kernel
theorem dX7_finds_118 : decode cX7_finds 118 = .ok (.iload 7, 2) := by decide +kernel
theorem dX7_finds_120 : decode cX7_finds 120 = .ok (.iconst (-1), 1) := by decide +kernel
theorem dX7_finds_121 : decode cX7_finds 121 = .ok (.if_icmp .ne 28, 3) := by decide +kernel
theorem dX7_finds_124 : decode cX7_finds 124 = .ok (.aload_n 0, 1) := by decide +kernel
theorem dX7_finds_125 : decode cX7_finds 125 = .ok (.getfield 32, 3) := by decide +kernel
theorem dX7_finds_128 : decode cX7_finds 128 = .ok (.iload 5, 2) := by decide +kernel
theorem dX7_finds_130 : decode cX7_finds 130 = .ok (.iaload, 1) := by decide +kernel
theorem dX7_finds_131 : decode cX7_finds 131 = .ok (.iload_n 2, 1) := by decide +kernel
theorem dX7_finds_132 : decode cX7_finds 132 = .ok (.if_icmp .ne 17, 3) := by decide +kernel
theorem dX7_finds_135 : decode cX7_finds 135 = .ok (.aload_n 0, 1) := by decide +kernel
theorem dX7_finds_136 : decode cX7_finds 136 = .ok (.getfield 38, 3) := by decide +kernel
theorem dX7_finds_139 : decode cX7_finds 139 = .ok (.iload 6, 2) := by decide +kernel
theorem dX7_finds_141 : decode cX7_finds 141 = .ok (.iconst 1, 1) := by decide +kernel
theorem dX7_finds_142 : decode cX7_finds 142 = .ok (.bastore, 1) := by decide +kernel
theorem dX7_finds_143 : decode cX7_finds 143 = .ok (.iconst 1, 1) := by decide +kernel
theorem dX7_finds_144 : decode cX7_finds 144 = .ok (.istore 4, 2) := by decide +kernel
theorem dX7_finds_146 : decode cX7_finds 146 = .ok (.goto 71, 3) := by decide +kernel
theorem dX7_finds_149 : decode cX7_finds 149 = .ok (.iload 8, 2) := by decide +kernel
theorem dX7_finds_151 : decode cX7_finds 151 = .ok (.ifCond .eq 66, 3) := by decide +kernel
theorem dX7_finds_154 : decode cX7_finds 154 = .ok (.iload 7, 2) := by decide +kernel
theorem dX7_finds_156 : decode cX7_finds 156 = .ok (.iconst (-1), 1) := by decide +kernel
theorem dX7_finds_157 : decode cX7_finds 157 = .ok (.if_icmp .eq 60, 3) := by decide +kernel
theorem dX7_finds_160 : decode cX7_finds 160 = .ok (.aload_n 0, 1) := by decide +kernel
theorem dX7_finds_161 : decode cX7_finds 161 = .ok (.getfield 32, 3) := by decide +kernel
theorem dX7_finds_164 : decode cX7_finds 164 = .ok (.iload 7, 2) := by decide +kernel
theorem dX7_finds_166 : decode cX7_finds 166 = .ok (.iaload, 1) := by decide +kernel
theorem dX7_finds_167 : decode cX7_finds 167 = .ok (.aload_n 0, 1) := by decide +kernel
theorem dX7_finds_168 : decode cX7_finds 168 = .ok (.getfield 32, 3) := by decide +kernel
theorem dX7_finds_171 : decode cX7_finds 171 = .ok (.iload 5, 2) := by decide +kernel
theorem dX7_finds_173 : decode cX7_finds 173 = .ok (.iaload, 1) := by decide +kernel
theorem dX7_finds_174 : decode cX7_finds 174 = .ok (.iconst 1, 1) := by decide +kernel
theorem dX7_finds_175 : decode cX7_finds 175 = .ok (.iadd, 1) := by decide +kernel
theorem dX7_finds_176 : decode cX7_finds 176 = .ok (.if_icmp .ne 41, 3) := by decide +kernel
theorem dX7_finds_179 : decode cX7_finds 179 = .ok (.aload_n 0, 1) := by decide +kernel
theorem dX7_finds_180 : decode cX7_finds 180 = .ok (.getfield 32, 3) := by decide +kernel
theorem dX7_finds_183 : decode cX7_finds 183 = .ok (.iload 7, 2) := by decide +kernel
theorem dX7_finds_185 : decode cX7_finds 185 = .ok (.iaload, 1) := by decide +kernel
theorem dX7_finds_186 : decode cX7_finds 186 = .ok (.iload_n 2, 1) := by decide +kernel
theorem dX7_finds_187 : decode cX7_finds 187 = .ok (.if_icmp .gt 30, 3) := by decide +kernel
theorem dX7_finds_190 : decode cX7_finds 190 = .ok (.aload_n 0, 1) := by decide +kernel
theorem dX7_finds_191 : decode cX7_finds 191 = .ok (.getfield 38, 3) := by decide +kernel
theorem dX7_finds_194 : decode cX7_finds 194 = .ok (.iload 6, 2) := by decide +kernel
theorem dX7_finds_196 : decode cX7_finds 196 = .ok (.iconst 1, 1) := by decide +kernel
theorem dX7_finds_197 : decode cX7_finds 197 = .ok (.bastore, 1) := by decide +kernel
theorem dX7_finds_198 : decode cX7_finds 198 = .ok (.iinc 3 1, 3) := by decide +kernel
theorem dX7_finds_201 : decode cX7_finds 201 = .ok (.aload_n 0, 1) := by decide +kernel
theorem dX7_finds_202 : decode cX7_finds 202 = .ok (.getfield 44, 3) := by decide +kernel
theorem dX7_finds_205 : decode cX7_finds 205 = .ok (.iload_n 3, 1) := by decide +kernel
theorem dX7_finds_206 : decode cX7_finds 206 = .ok (.iload 7, 2) := by decide +kernel
theorem dX7_finds_208 : decode cX7_finds 208 = .ok (.iastore, 1) := by decide +kernel
theorem dX7_finds_209 : decode cX7_finds 209 = .ok (.aload_n 0, 1) := by decide +kernel
theorem dX7_finds_210 : decode cX7_finds 210 = .ok (.getfield 41, 3) := by decide +kernel
theorem dX7_finds_213 : decode cX7_finds 213 = .ok (.iload 7, 2) := by decide +kernel
theorem dX7_finds_215 : decode cX7_finds 215 = .ok (.iconst 0, 1) := by decide +kernel
theorem dX7_finds_216 : decode cX7_finds 216 = .ok (.iastore, 1) := by decide +kernel
theorem dX7_finds_217 : decode cX7_finds 217 = .ok (.goto (-198), 3) := by decide +kernel
theorem dX7_finds_220 : decode cX7_finds 220 = .ok (.iload_n 3, 1) := by decide +kernel
theorem dX7_finds_221 : decode cX7_finds 221 = .ok (.istore 5, 2) := by decide +kernel
theorem dX7_finds_223 : decode cX7_finds 223 = .ok (.iload 5, 2) := by decide +kernel
theorem dX7_finds_225 : decode cX7_finds 225 = .ok (.ifCond .lt 66, 3) := by decide +kernel
theorem dX7_finds_228 : decode cX7_finds 228 = .ok (.iload 4, 2) := by decide +kernel
theorem dX7_finds_230 : decode cX7_finds 230 = .ok (.ifCond .eq 61, 3) := by decide +kernel
theorem dX7_finds_233 : decode cX7_finds 233 = .ok (.aload_n 0, 1) := by decide +kernel
theorem dX7_finds_234 : decode cX7_finds 234 = .ok (.getfield 20, 3) := by decide +kernel
theorem dX7_finds_237 : decode cX7_finds 237 = .ok (.aload_n 0, 1) := by decide +kernel
theorem dX7_finds_238 : decode cX7_finds 238 = .ok (.getfield 44, 3) := by decide +kernel
theorem dX7_finds_241 : decode cX7_finds 241 = .ok (.iload 5, 2) := by decide +kernel
theorem dX7_finds_243 : decode cX7_finds 243 = .ok (.iaload, 1) := by decide +kernel
theorem dX7_finds_244 : decode cX7_finds 244 = .ok (.aload_n 0, 1) := by decide +kernel
theorem dX7_finds_245 : decode cX7_finds 245 = .ok (.getfield 41, 3) := by decide +kernel
theorem dX7_finds_248 : decode cX7_finds 248 = .ok (.aload_n 0, 1) := by decide +kernel
theorem dX7_finds_249 : decode cX7_finds 249 = .ok (.getfield 44, 3) := by decide +kernel
theorem dX7_finds_252 : decode cX7_finds 252 = .ok (.iload 5, 2) := by decide +kernel
theorem dX7_finds_254 : decode cX7_finds 254 = .ok (.iaload, 1) := by decide +kernel
theorem dX7_finds_255 : decode cX7_finds 255 = .ok (.iaload, 1) := by decide +kernel
theorem dX7_finds_256 : decode cX7_finds 256 = .ok (.iconst 1, 1) := by decide +kernel
theorem dX7_finds_257 : decode cX7_finds 257 = .ok (.isub, 1) := by decide +kernel
theorem dX7_finds_258 : decode cX7_finds 258 = .ok (.iastore, 1) := by decide +kernel
theorem dX7_finds_259 : decode cX7_finds 259 = .ok (.aload_n 0, 1) := by decide +kernel
theorem dX7_finds_260 : decode cX7_finds 260 = .ok (.getfield 23, 3) := by decide +kernel
theorem dX7_finds_263 : decode cX7_finds 263 = .ok (.aload_n 0, 1) := by decide +kernel
theorem dX7_finds_264 : decode cX7_finds 264 = .ok (.getfield 41, 3) := by decide +kernel
theorem dX7_finds_267 : decode cX7_finds 267 = .ok (.aload_n 0, 1) := by decide +kernel
theorem dX7_finds_268 : decode cX7_finds 268 = .ok (.getfield 44, 3) := by decide +kernel
theorem dX7_finds_271 : decode cX7_finds 271 = .ok (.iload 5, 2) := by decide +kernel
theorem dX7_finds_273 : decode cX7_finds 273 = .ok (.iaload, 1) := by decide +kernel
theorem dX7_finds_274 : decode cX7_finds 274 = .ok (.iaload, 1) := by decide +kernel
theorem dX7_finds_275 : decode cX7_finds 275 = .ok (.iconst 1, 1) := by decide +kernel
theorem dX7_finds_276 : decode cX7_finds 276 = .ok (.isub, 1) := by decide +kernel
theorem dX7_finds_277 : decode cX7_finds 277 = .ok (.aload_n 0, 1) := by decide +kernel
theorem dX7_finds_278 : decode cX7_finds 278 = .ok (.getfield 44, 3) := by decide +kernel
theorem dX7_finds_281 : decode cX7_finds 281 = .ok (.iload 5, 2) := by decide +kernel
theorem dX7_finds_283 : decode cX7_finds 283 = .ok (.iaload, 1) := by decide +kernel
theorem dX7_finds_284 : decode cX7_finds 284 = .ok (.iastore, 1) := by decide +kernel
theorem dX7_finds_285 : decode cX7_finds 285 = .ok (.iinc 5 (-1), 3) := by decide +kernel
theorem dX7_finds_288 : decode cX7_finds 288 = .ok (.goto (-65), 3) := by decide +kernel
theorem dX7_finds_291 : decode cX7_finds 291 = .ok (.iload 4, 2) := by decide +kernel
theorem dX7_finds_293 : decode cX7_finds 293 = .ok (.ireturn, 1) := by decide +kernel
set_option maxRecDepth 20000 in
theorem ggX7_build_X7_levelAll : GoodIn wsX7_build wsX7_levelAll := goodIn_r _ [12, 4, 5, 1, 13, 14, 2, 15, 16, 17, 11, 18, 19, 30, 31, 32, 33, 34, 35, 36, 37, 38, 39, 40, 41, 42, 43, 44, 45, 46, 47, 48, 49] (by decide +kernel) (by decide +kernel)
set_option maxRecDepth 20000 in
theorem gX7_build_X7_levelAll : GoodIn wsX7_build (wsV RX7 105 RX7 yX7_levelAll wsX7_levelAll) := goodIn_app (goodIn_of _ (by decide +kernel)) ggX7_build_X7_levelAll
set_option maxRecDepth 20000 in
theorem ggX7_build_X7_depth : GoodIn wsX7_build wsX7_depth := goodIn_r _ [23, 4, 14, 13, 2, 15, 16, 17, 11, 18, 19, 30, 31, 32, 33, 34, 35, 36, 37, 38, 39, 40, 41, 42, 43, 44, 45, 46, 47, 48, 49] (by decide +kernel) (by decide +kernel)
set_option maxRecDepth 20000 in
theorem gX7_build_X7_depth : GoodIn wsX7_build (wsV RX7 108 RX7 yX7_depth wsX7_depth) := goodIn_app (goodIn_of _ (by decide +kernel)) ggX7_build_X7_depth
set_option maxRecDepth 20000 in
theorem ggX7_build_X7_finds : GoodIn wsX7_build wsX7_finds := goodIn_r _ [27, 28, 29, 14, 2, 3, 13, 1, 15, 16, 17, 11, 18, 19, 30, 31, 32, 33, 34, 35, 36, 37, 38, 39, 40, 41, 42, 43, 44, 45, 46, 47, 48, 49] (by decide +kernel) (by decide +kernel)
set_option maxRecDepth 20000 in
theorem gX7_build_X7_finds : GoodIn wsX7_build (wsV RX7 111 RX7 yX7_finds wsX7_finds) := goodIn_app (goodIn_of _ (by decide +kernel)) ggX7_build_X7_finds
theorem dX7_build_0 : decode cX7_build 0 = .ok (.iconst 0, 1) := by decide +kernel
theorem dX7_build_1 : decode cX7_build 1 = .ok (.istore_n 1, 1) := by decide +kernel
theorem dX7_build_2 : decode cX7_build 2 = .ok (.iload_n 1, 1) := by decide +kernel
theorem dX7_build_3 : decode cX7_build 3 = .ok (.bipush 12, 2) := by decide +kernel
theorem dX7_build_5 : decode cX7_build 5 = .ok (.if_icmp .ge 23, 3) := by decide +kernel
theorem dX7_build_8 : decode cX7_build 8 = .ok (.aload_n 0, 1) := by decide +kernel
theorem dX7_build_9 : decode cX7_build 9 = .ok (.getfield 20, 3) := by decide +kernel
theorem dX7_build_12 : decode cX7_build 12 = .ok (.iload_n 1, 1) := by decide +kernel
theorem dX7_build_13 : decode cX7_build 13 = .ok (.iconst (-1), 1) := by decide +kernel
theorem dX7_build_14 : decode cX7_build 14 = .ok (.iastore, 1) := by decide +kernel
theorem dX7_build_15 : decode cX7_build 15 = .ok (.aload_n 0, 1) := by decide +kernel
theorem dX7_build_16 : decode cX7_build 16 = .ok (.getfield 23, 3) := by decide +kernel
theorem dX7_build_19 : decode cX7_build 19 = .ok (.iload_n 1, 1) := by decide +kernel
theorem dX7_build_20 : decode cX7_build 20 = .ok (.iconst (-1), 1) := by decide +kernel
theorem dX7_build_21 : decode cX7_build 21 = .ok (.iastore, 1) := by decide +kernel
theorem dX7_build_22 : decode cX7_build 22 = .ok (.iinc 1 1, 3) := by decide +kernel
theorem dX7_build_25 : decode cX7_build 25 = .ok (.goto (-23), 3) := by decide +kernel
theorem dX7_build_28 : decode cX7_build 28 = .ok (.iconst 0, 1) := by decide +kernel
theorem dX7_build_29 : decode cX7_build 29 = .ok (.istore_n 1, 1) := by decide +kernel
theorem dX7_build_30 : decode cX7_build 30 = .ok (.aload_n 0, 1) := by decide +kernel
theorem dX7_build_31 : decode cX7_build 31 = .ok (.invokevirtual 105, 3) := by decide +kernel
theorem dX7_build_34 : decode cX7_build 34 = .ok (.aload_n 0, 1) := by decide +kernel
theorem dX7_build_35 : decode cX7_build 35 = .ok (.invokevirtual 108, 3) := by decide +kernel
theorem dX7_build_38 : decode cX7_build 38 = .ok (.istore_n 2, 1) := by decide +kernel
theorem dX7_build_39 : decode cX7_build 39 = .ok (.iload_n 2, 1) := by decide +kernel
theorem dX7_build_40 : decode cX7_build 40 = .ok (.iconst (-1), 1) := by decide +kernel
theorem dX7_build_41 : decode cX7_build 41 = .ok (.if_icmp .eq 101, 3) := by decide +kernel
theorem dX7_build_44 : decode cX7_build 44 = .ok (.iconst 0, 1) := by decide +kernel
theorem dX7_build_45 : decode cX7_build 45 = .ok (.istore_n 3, 1) := by decide +kernel
theorem dX7_build_46 : decode cX7_build 46 = .ok (.iload_n 3, 1) := by decide +kernel
theorem dX7_build_47 : decode cX7_build 47 = .ok (.bipush 12, 2) := by decide +kernel
theorem dX7_build_49 : decode cX7_build 49 = .ok (.if_icmp .ge 16, 3) := by decide +kernel
theorem dX7_build_52 : decode cX7_build 52 = .ok (.aload_n 0, 1) := by decide +kernel
theorem dX7_build_53 : decode cX7_build 53 = .ok (.getfield 38, 3) := by decide +kernel
theorem dX7_build_56 : decode cX7_build 56 = .ok (.iload_n 3, 1) := by decide +kernel
theorem dX7_build_57 : decode cX7_build 57 = .ok (.iconst 0, 1) := by decide +kernel
theorem dX7_build_58 : decode cX7_build 58 = .ok (.bastore, 1) := by decide +kernel
theorem dX7_build_59 : decode cX7_build 59 = .ok (.iinc 3 1, 3) := by decide +kernel
theorem dX7_build_62 : decode cX7_build 62 = .ok (.goto (-16), 3) := by decide +kernel
theorem dX7_build_65 : decode cX7_build 65 = .ok (.iconst 0, 1) := by decide +kernel
theorem dX7_build_66 : decode cX7_build 66 = .ok (.istore_n 3, 1) := by decide +kernel
theorem dX7_build_67 : decode cX7_build 67 = .ok (.iconst 0, 1) := by decide +kernel
theorem dX7_build_68 : decode cX7_build 68 = .ok (.istore 4, 2) := by decide +kernel
theorem dX7_build_70 : decode cX7_build 70 = .ok (.iload 4, 2) := by decide +kernel
theorem dX7_build_72 : decode cX7_build 72 = .ok (.aload_n 0, 1) := by decide +kernel
theorem dX7_build_73 : decode cX7_build 73 = .ok (.getfield 67, 3) := by decide +kernel
theorem dX7_build_76 : decode cX7_build 76 = .ok (.if_icmp .ge 37, 3) := by decide +kernel
theorem dX7_build_79 : decode cX7_build 79 = .ok (.iload_n 3, 1) := by decide +kernel
theorem dX7_build_80 : decode cX7_build 80 = .ok (.aload_n 0, 1) := by decide +kernel
theorem dX7_build_81 : decode cX7_build 81 = .ok (.getfield 35, 3) := by decide +kernel
theorem dX7_build_84 : decode cX7_build 84 = .ok (.iload 4, 2) := by decide +kernel
theorem dX7_build_86 : decode cX7_build 86 = .ok (.baload, 1) := by decide +kernel
theorem dX7_build_87 : decode cX7_build 87 = .ok (.ifCond .eq 17, 3) := by decide +kernel
theorem dX7_build_90 : decode cX7_build 90 = .ok (.aload_n 0, 1) := by decide +kernel
theorem dX7_build_91 : decode cX7_build 91 = .ok (.iload 4, 2) := by decide +kernel
theorem dX7_build_93 : decode cX7_build 93 = .ok (.iload_n 2, 1) := by decide +kernel
theorem dX7_build_94 : decode cX7_build 94 = .ok (.invokevirtual 111, 3) := by decide +kernel
theorem dX7_build_97 : decode cX7_build 97 = .ok (.ifCond .eq 7, 3) := by decide +kernel
theorem dX7_build_100 : decode cX7_build 100 = .ok (.iconst 1, 1) := by decide +kernel
theorem dX7_build_101 : decode cX7_build 101 = .ok (.goto 4, 3) := by decide +kernel
theorem dX7_build_104 : decode cX7_build 104 = .ok (.iconst 0, 1) := by decide +kernel
theorem dX7_build_105 : decode cX7_build 105 = .ok (.iadd, 1) := by decide +kernel
theorem dX7_build_106 : decode cX7_build 106 = .ok (.istore_n 3, 1) := by decide +kernel
theorem dX7_build_107 : decode cX7_build 107 = .ok (.iinc 4 1, 3) := by decide +kernel
theorem dX7_build_110 : decode cX7_build 110 = .ok (.goto (-40), 3) := by decide +kernel
theorem dX7_build_113 : decode cX7_build 113 = .ok (.aload_n 0, 1) := by decide +kernel
theorem dX7_build_114 : decode cX7_build 114 = .ok (.getfield 26, 3) := by decide +kernel
theorem dX7_build_117 : decode cX7_build 117 = .ok (.iload_n 1, 1) := by decide +kernel
theorem dX7_build_118 : decode cX7_build 118 = .ok (.iload_n 2, 1) := by decide +kernel
theorem dX7_build_119 : decode cX7_build 119 = .ok (.iastore, 1) := by decide +kernel
theorem dX7_build_120 : decode cX7_build 120 = .ok (.aload_n 0, 1) := by decide +kernel
theorem dX7_build_121 : decode cX7_build 121 = .ok (.getfield 29, 3) := by decide +kernel
theorem dX7_build_124 : decode cX7_build 124 = .ok (.iload_n 1, 1) := by decide +kernel
theorem dX7_build_125 : decode cX7_build 125 = .ok (.iload_n 3, 1) := by decide +kernel
theorem dX7_build_126 : decode cX7_build 126 = .ok (.iastore, 1) := by decide +kernel
theorem dX7_build_127 : decode cX7_build 127 = .ok (.iinc 1 1, 3) := by decide +kernel
theorem dX7_build_130 : decode cX7_build 130 = .ok (.aload_n 0, 1) := by decide +kernel
theorem dX7_build_131 : decode cX7_build 131 = .ok (.invokevirtual 105, 3) := by decide +kernel
theorem dX7_build_134 : decode cX7_build 134 = .ok (.aload_n 0, 1) := by decide +kernel
theorem dX7_build_135 : decode cX7_build 135 = .ok (.invokevirtual 108, 3) := by decide +kernel
theorem dX7_build_138 : decode cX7_build 138 = .ok (.istore_n 2, 1) := by decide +kernel
theorem dX7_build_139 : decode cX7_build 139 = .ok (.goto (-100), 3) := by decide +kernel
theorem dX7_build_142 : decode cX7_build 142 = .ok (.iload_n 1, 1) := by decide +kernel
theorem dX7_build_143 : decode cX7_build 143 = .ok (.ireturn, 1) := by decide +kernel
set_option maxRecDepth 20000 in
theorem ggX7_phases_X7_build : GoodIn wsX7_phases wsX7_build := goodIn_r _ [5, 6, 7, 8, 9, 10, 11, 12, 13, 14, 15, 4, 16, 17, 18, 19, 20, 21, 22, 23, 24, 25, 26, 27, 28, 29, 30, 31, 32, 33, 39, 40, 41, 42, 43, 44, 45, 46, 47, 48, 49, 50, 51, 52, 53, 54, 55, 56, 57, 58] (by decide +kernel) (by decide +kernel)
set_option maxRecDepth 20000 in
theorem gX7_phases_X7_build : GoodIn wsX7_phases (wsV RX7 114 RX7 yX7_build wsX7_build) := goodIn_app (goodIn_of _ (by decide +kernel)) ggX7_phases_X7_build
set_option maxRecDepth 20000 in
theorem ggX7_phases_X7_fine : GoodIn wsX7_phases wsX7_fine := goodIn_r _ [37, 38, 39, 40, 41, 42, 43, 44, 45, 46, 47, 48, 49, 50, 51, 52, 53, 54, 55, 56, 57, 58] (by decide +kernel) (by decide +kernel)
set_option maxRecDepth 20000 in
theorem gX7_phases_X7_fine : GoodIn wsX7_phases (wsV RX7 77 RX7 yX7_fine wsX7_fine) := goodIn_app (goodIn_of _ (by decide +kernel)) ggX7_phases_X7_fine
theorem dX7_phases_0 : decode cX7_phases 0 = .ok (.aload_n 0, 1) := by decide +kernel
theorem dX7_phases_1 : decode cX7_phases 1 = .ok (.aload_n 0, 1) := by decide +kernel
theorem dX7_phases_2 : decode cX7_phases 2 = .ok (.invokevirtual 114, 3) := by decide +kernel
theorem dX7_phases_5 : decode cX7_phases 5 = .ok (.invokevirtual 77, 3) := by decide +kernel
theorem dX7_phases_8 : decode cX7_phases 8 = .ok (.ireturn, 1) := by decide +kernel
set_option maxRecDepth 20000 in
theorem ggX7_depthOf_X7_build : GoodIn wsX7_depthOf wsX7_build := goodIn_r _ [6, 7, 8, 9, 10, 11, 1, 12, 13, 14, 15, 5, 16, 17, 18, 19, 20, 21, 22, 23, 24, 25, 26, 27, 28, 29, 30, 31, 32, 33, 39, 40, 41, 42, 43, 44, 45, 46, 47, 48, 49, 50, 51, 52, 53, 54, 55, 56, 57, 58] (by decide +kernel) (by decide +kernel)
set_option maxRecDepth 20000 in
theorem gX7_depthOf_X7_build : GoodIn wsX7_depthOf (wsV RX7 114 RX7 yX7_build wsX7_build) := goodIn_app (goodIn_of _ (by decide +kernel)) ggX7_depthOf_X7_build
set_option maxRecDepth 20000 in
theorem ggX7_depthOf_X7_refused : GoodIn wsX7_depthOf wsX7_refused := goodIn_r _ [37, 38, 39, 40, 41, 42, 43, 44, 45, 46, 47, 48, 49, 50, 51, 52, 53, 54, 55, 56, 57, 58] (by decide +kernel) (by decide +kernel)
set_option maxRecDepth 20000 in
theorem gX7_depthOf_X7_refused : GoodIn wsX7_depthOf (wsV RX7 73 RX7 yX7_refused wsX7_refused) := goodIn_app (goodIn_of _ (by decide +kernel)) ggX7_depthOf_X7_refused
theorem dX7_depthOf_0 : decode cX7_depthOf 0 = .ok (.aload_n 0, 1) := by decide +kernel
theorem dX7_depthOf_1 : decode cX7_depthOf 1 = .ok (.invokevirtual 114, 3) := by decide +kernel
theorem dX7_depthOf_4 : decode cX7_depthOf 4 = .ok (.istore_n 2, 1) := by decide +kernel
theorem dX7_depthOf_5 : decode cX7_depthOf 5 = .ok (.aload_n 0, 1) := by decide +kernel
theorem dX7_depthOf_6 : decode cX7_depthOf 6 = .ok (.iload_n 1, 1) := by decide +kernel
theorem dX7_depthOf_7 : decode cX7_depthOf 7 = .ok (.ifCond .lt 12, 3) := by decide +kernel
theorem dX7_depthOf_10 : decode cX7_depthOf 10 = .ok (.iload_n 1, 1) := by decide +kernel
theorem dX7_depthOf_11 : decode cX7_depthOf 11 = .ok (.iload_n 2, 1) := by decide +kernel
theorem dX7_depthOf_12 : decode cX7_depthOf 12 = .ok (.if_icmp .ge 7, 3) := by decide +kernel
theorem dX7_depthOf_15 : decode cX7_depthOf 15 = .ok (.iconst 0, 1) := by decide +kernel
theorem dX7_depthOf_16 : decode cX7_depthOf 16 = .ok (.goto 4, 3) := by decide +kernel
theorem dX7_depthOf_19 : decode cX7_depthOf 19 = .ok (.iconst 1, 1) := by decide +kernel
theorem dX7_depthOf_20 : decode cX7_depthOf 20 = .ok (.invokevirtual 73, 3) := by decide +kernel
theorem dX7_depthOf_23 : decode cX7_depthOf 23 = .ok (.ifCond .eq 7, 3) := by decide +kernel
theorem dX7_depthOf_26 : decode cX7_depthOf 26 = .ok (.iconst 0, 1) := by decide +kernel
theorem dX7_depthOf_27 : decode cX7_depthOf 27 = .ok (.goto 9, 3) := by decide +kernel
theorem dX7_depthOf_30 : decode cX7_depthOf 30 = .ok (.aload_n 0, 1) := by decide +kernel
theorem dX7_depthOf_31 : decode cX7_depthOf 31 = .ok (.getfield 26, 3) := by decide +kernel
theorem dX7_depthOf_34 : decode cX7_depthOf 34 = .ok (.iload_n 1, 1) := by decide +kernel
theorem dX7_depthOf_35 : decode cX7_depthOf 35 = .ok (.iaload, 1) := by decide +kernel
theorem dX7_depthOf_36 : decode cX7_depthOf 36 = .ok (.ireturn, 1) := by decide +kernel
set_option maxRecDepth 20000 in
theorem ggX7_pathsOf_X7_build : GoodIn wsX7_pathsOf wsX7_build := goodIn_r _ [6, 7, 8, 9, 10, 11, 12, 1, 13, 14, 15, 5, 16, 17, 18, 19, 20, 21, 22, 23, 24, 25, 26, 27, 28, 29, 30, 31, 32, 33, 39, 40, 41, 42, 43, 44, 45, 46, 47, 48, 49, 50, 51, 52, 53, 54, 55, 56, 57, 58] (by decide +kernel) (by decide +kernel)
set_option maxRecDepth 20000 in
theorem gX7_pathsOf_X7_build : GoodIn wsX7_pathsOf (wsV RX7 114 RX7 yX7_build wsX7_build) := goodIn_app (goodIn_of _ (by decide +kernel)) ggX7_pathsOf_X7_build
set_option maxRecDepth 20000 in
theorem ggX7_pathsOf_X7_refused : GoodIn wsX7_pathsOf wsX7_refused := goodIn_r _ [37, 38, 39, 40, 41, 42, 43, 44, 45, 46, 47, 48, 49, 50, 51, 52, 53, 54, 55, 56, 57, 58] (by decide +kernel) (by decide +kernel)
set_option maxRecDepth 20000 in
theorem gX7_pathsOf_X7_refused : GoodIn wsX7_pathsOf (wsV RX7 73 RX7 yX7_refused wsX7_refused) := goodIn_app (goodIn_of _ (by decide +kernel)) ggX7_pathsOf_X7_refused
theorem dX7_pathsOf_0 : decode cX7_pathsOf 0 = .ok (.aload_n 0, 1) := by decide +kernel
theorem dX7_pathsOf_1 : decode cX7_pathsOf 1 = .ok (.invokevirtual 114, 3) := by decide +kernel
theorem dX7_pathsOf_4 : decode cX7_pathsOf 4 = .ok (.istore_n 2, 1) := by decide +kernel
theorem dX7_pathsOf_5 : decode cX7_pathsOf 5 = .ok (.aload_n 0, 1) := by decide +kernel
theorem dX7_pathsOf_6 : decode cX7_pathsOf 6 = .ok (.iload_n 1, 1) := by decide +kernel
theorem dX7_pathsOf_7 : decode cX7_pathsOf 7 = .ok (.ifCond .lt 12, 3) := by decide +kernel
theorem dX7_pathsOf_10 : decode cX7_pathsOf 10 = .ok (.iload_n 1, 1) := by decide +kernel
theorem dX7_pathsOf_11 : decode cX7_pathsOf 11 = .ok (.iload_n 2, 1) := by decide +kernel
theorem dX7_pathsOf_12 : decode cX7_pathsOf 12 = .ok (.if_icmp .ge 7, 3) := by decide +kernel
theorem dX7_pathsOf_15 : decode cX7_pathsOf 15 = .ok (.iconst 0, 1) := by decide +kernel
theorem dX7_pathsOf_16 : decode cX7_pathsOf 16 = .ok (.goto 4, 3) := by decide +kernel
theorem dX7_pathsOf_19 : decode cX7_pathsOf 19 = .ok (.iconst 1, 1) := by decide +kernel
theorem dX7_pathsOf_20 : decode cX7_pathsOf 20 = .ok (.invokevirtual 73, 3) := by decide +kernel
theorem dX7_pathsOf_23 : decode cX7_pathsOf 23 = .ok (.ifCond .eq 7, 3) := by decide +kernel
theorem dX7_pathsOf_26 : decode cX7_pathsOf 26 = .ok (.iconst 0, 1) := by decide +kernel
theorem dX7_pathsOf_27 : decode cX7_pathsOf 27 = .ok (.goto 9, 3) := by decide +kernel
theorem dX7_pathsOf_30 : decode cX7_pathsOf 30 = .ok (.aload_n 0, 1) := by decide +kernel
theorem dX7_pathsOf_31 : decode cX7_pathsOf 31 = .ok (.getfield 29, 3) := by decide +kernel
theorem dX7_pathsOf_34 : decode cX7_pathsOf 34 = .ok (.iload_n 1, 1) := by decide +kernel
theorem dX7_pathsOf_35 : decode cX7_pathsOf 35 = .ok (.iaload, 1) := by decide +kernel
theorem dX7_pathsOf_36 : decode cX7_pathsOf 36 = .ok (.ireturn, 1) := by decide +kernel
set_option maxRecDepth 20000 in
theorem ggX7_rebuild_X7_build : GoodIn wsX7_rebuild wsX7_build := goodIn_r _ [9, 2, 4, 10, 11, 12, 13, 14, 15, 16, 17, 8, 18, 19, 20, 21, 22, 23, 24, 25, 26, 27, 28, 29, 30, 31, 32, 33, 34, 35, 41, 42, 43, 44, 45, 46, 47, 48, 49, 50, 51, 52, 53, 54, 55, 56, 57, 58, 59, 60] (by decide +kernel) (by decide +kernel)
set_option maxRecDepth 20000 in
theorem gX7_rebuild_X7_build : GoodIn wsX7_rebuild (wsV RX7 114 RX7 yX7_build wsX7_build) := goodIn_app (goodIn_of _ (by decide +kernel)) ggX7_rebuild_X7_build
set_option maxRecDepth 20000 in
theorem ggX7_rebuild_X7_fine : GoodIn wsX7_rebuild wsX7_fine := goodIn_r _ [39, 40, 41, 42, 43, 44, 45, 46, 47, 48, 49, 50, 51, 52, 53, 54, 55, 56, 57, 58, 59, 60] (by decide +kernel) (by decide +kernel)
set_option maxRecDepth 20000 in
theorem gX7_rebuild_X7_fine : GoodIn wsX7_rebuild (wsV RX7 77 RX7 yX7_fine wsX7_fine) := goodIn_app (goodIn_of _ (by decide +kernel)) ggX7_rebuild_X7_fine
theorem dX7_rebuild_0 : decode cX7_rebuild 0 = .ok (.aload_n 0, 1) := by decide +kernel
theorem dX7_rebuild_1 : decode cX7_rebuild 1 = .ok (.invokevirtual 114, 3) := by decide +kernel
theorem dX7_rebuild_4 : decode cX7_rebuild 4 = .ok (.pop, 1) := by decide +kernel
theorem dX7_rebuild_5 : decode cX7_rebuild 5 = .ok (.iconst 0, 1) := by decide +kernel
theorem dX7_rebuild_6 : decode cX7_rebuild 6 = .ok (.istore_n 1, 1) := by decide +kernel
theorem dX7_rebuild_7 : decode cX7_rebuild 7 = .ok (.iconst 0, 1) := by decide +kernel
theorem dX7_rebuild_8 : decode cX7_rebuild 8 = .ok (.istore_n 2, 1) := by decide +kernel
theorem dX7_rebuild_9 : decode cX7_rebuild 9 = .ok (.iload_n 2, 1) := by decide +kernel
theorem dX7_rebuild_10 : decode cX7_rebuild 10 = .ok (.bipush 12, 2) := by decide +kernel
theorem dX7_rebuild_12 : decode cX7_rebuild 12 = .ok (.if_icmp .ge 56, 3) := by decide +kernel
theorem dX7_rebuild_15 : decode cX7_rebuild 15 = .ok (.iload_n 1, 1) := by decide +kernel
theorem dX7_rebuild_16 : decode cX7_rebuild 16 = .ok (.aload_n 0, 1) := by decide +kernel
theorem dX7_rebuild_17 : decode cX7_rebuild 17 = .ok (.getfield 13, 3) := by decide +kernel
theorem dX7_rebuild_20 : decode cX7_rebuild 20 = .ok (.iload_n 2, 1) := by decide +kernel
theorem dX7_rebuild_21 : decode cX7_rebuild 21 = .ok (.iaload, 1) := by decide +kernel
theorem dX7_rebuild_22 : decode cX7_rebuild 22 = .ok (.aload_n 0, 1) := by decide +kernel
theorem dX7_rebuild_23 : decode cX7_rebuild 23 = .ok (.getfield 20, 3) := by decide +kernel
theorem dX7_rebuild_26 : decode cX7_rebuild 26 = .ok (.iload_n 2, 1) := by decide +kernel
theorem dX7_rebuild_27 : decode cX7_rebuild 27 = .ok (.iaload, 1) := by decide +kernel
theorem dX7_rebuild_28 : decode cX7_rebuild 28 = .ok (.if_icmp .ne 7, 3) := by decide +kernel
theorem dX7_rebuild_31 : decode cX7_rebuild 31 = .ok (.iconst 0, 1) := by decide +kernel
theorem dX7_rebuild_32 : decode cX7_rebuild 32 = .ok (.goto 4, 3) := by decide +kernel
theorem dX7_rebuild_35 : decode cX7_rebuild 35 = .ok (.iconst 1, 1) := by decide +kernel
theorem dX7_rebuild_36 : decode cX7_rebuild 36 = .ok (.iadd, 1) := by decide +kernel
theorem dX7_rebuild_37 : decode cX7_rebuild 37 = .ok (.istore_n 1, 1) := by decide +kernel
theorem dX7_rebuild_38 : decode cX7_rebuild 38 = .ok (.aload_n 0, 1) := by decide +kernel
theorem dX7_rebuild_39 : decode cX7_rebuild 39 = .ok (.getfield 13, 3) := by decide +kernel
theorem dX7_rebuild_42 : decode cX7_rebuild 42 = .ok (.iload_n 2, 1) := by decide +kernel
theorem dX7_rebuild_43 : decode cX7_rebuild 43 = .ok (.aload_n 0, 1) := by decide +kernel
theorem dX7_rebuild_44 : decode cX7_rebuild 44 = .ok (.getfield 20, 3) := by decide +kernel
theorem dX7_rebuild_47 : decode cX7_rebuild 47 = .ok (.iload_n 2, 1) := by decide +kernel
theorem dX7_rebuild_48 : decode cX7_rebuild 48 = .ok (.iaload, 1) := by decide +kernel
theorem dX7_rebuild_49 : decode cX7_rebuild 49 = .ok (.iastore, 1) := by decide +kernel
theorem dX7_rebuild_50 : decode cX7_rebuild 50 = .ok (.aload_n 0, 1) := by decide +kernel
theorem dX7_rebuild_51 : decode cX7_rebuild 51 = .ok (.getfield 17, 3) := by decide +kernel
theorem dX7_rebuild_54 : decode cX7_rebuild 54 = .ok (.iload_n 2, 1) := by decide +kernel
theorem dX7_rebuild_55 : decode cX7_rebuild 55 = .ok (.aload_n 0, 1) := by decide +kernel
theorem dX7_rebuild_56 : decode cX7_rebuild 56 = .ok (.getfield 23, 3) := by decide +kernel
theorem dX7_rebuild_59 : decode cX7_rebuild 59 = .ok (.iload_n 2, 1) := by decide +kernel
theorem dX7_rebuild_60 : decode cX7_rebuild 60 = .ok (.iaload, 1) := by decide +kernel
theorem dX7_rebuild_61 : decode cX7_rebuild 61 = .ok (.iastore, 1) := by decide +kernel
theorem dX7_rebuild_62 : decode cX7_rebuild 62 = .ok (.iinc 2 1, 3) := by decide +kernel
theorem dX7_rebuild_65 : decode cX7_rebuild 65 = .ok (.goto (-56), 3) := by decide +kernel
theorem dX7_rebuild_68 : decode cX7_rebuild 68 = .ok (.aload_n 0, 1) := by decide +kernel
theorem dX7_rebuild_69 : decode cX7_rebuild 69 = .ok (.iload_n 1, 1) := by decide +kernel
theorem dX7_rebuild_70 : decode cX7_rebuild 70 = .ok (.invokevirtual 77, 3) := by decide +kernel
theorem dX7_rebuild_73 : decode cX7_rebuild 73 = .ok (.ireturn, 1) := by decide +kernel
set_option maxRecDepth 20000 in
theorem ggX7_reachHeavy_X7_isEdge : GoodIn wsX7_reachHeavy wsX7_isEdge := goodIn_r _ [11, 12, 13, 14, 15, 16, 17, 18, 19, 20, 21, 22, 23, 24, 25, 26, 27, 28, 29, 30, 31, 32] (by decide +kernel) (by decide +kernel)
set_option maxRecDepth 20000 in
theorem gX7_reachHeavy_X7_isEdge : GoodIn wsX7_reachHeavy (wsV RX7 81 RX7 yX7_isEdge wsX7_isEdge) := goodIn_app (goodIn_of _ (by decide +kernel)) ggX7_reachHeavy_X7_isEdge
theorem dX7_reachHeavy_0 : decode cX7_reachHeavy 0 = .ok (.iconst 0, 1) := by decide +kernel
theorem dX7_reachHeavy_1 : decode cX7_reachHeavy 1 = .ok (.istore_n 1, 1) := by decide +kernel
theorem dX7_reachHeavy_2 : decode cX7_reachHeavy 2 = .ok (.iload_n 1, 1) := by decide +kernel
theorem dX7_reachHeavy_3 : decode cX7_reachHeavy 3 = .ok (.bipush 12, 2) := by decide +kernel
theorem dX7_reachHeavy_5 : decode cX7_reachHeavy 5 = .ok (.if_icmp .ge 87, 3) := by decide +kernel
theorem dX7_reachHeavy_8 : decode cX7_reachHeavy 8 = .ok (.aload_n 0, 1) := by decide +kernel
theorem dX7_reachHeavy_9 : decode cX7_reachHeavy 9 = .ok (.getfield 50, 3) := by decide +kernel
theorem dX7_reachHeavy_12 : decode cX7_reachHeavy 12 = .ok (.iload_n 1, 1) := by decide +kernel
theorem dX7_reachHeavy_13 : decode cX7_reachHeavy 13 = .ok (.iload_n 1, 1) := by decide +kernel
theorem dX7_reachHeavy_14 : decode cX7_reachHeavy 14 = .ok (.aload_n 0, 1) := by decide +kernel
theorem dX7_reachHeavy_15 : decode cX7_reachHeavy 15 = .ok (.getfield 67, 3) := by decide +kernel
theorem dX7_reachHeavy_18 : decode cX7_reachHeavy 18 = .ok (.if_icmp .ge 17, 3) := by decide +kernel
theorem dX7_reachHeavy_21 : decode cX7_reachHeavy 21 = .ok (.aload_n 0, 1) := by decide +kernel
theorem dX7_reachHeavy_22 : decode cX7_reachHeavy 22 = .ok (.getfield 13, 3) := by decide +kernel
theorem dX7_reachHeavy_25 : decode cX7_reachHeavy 25 = .ok (.iload_n 1, 1) := by decide +kernel
theorem dX7_reachHeavy_26 : decode cX7_reachHeavy 26 = .ok (.iaload, 1) := by decide +kernel
theorem dX7_reachHeavy_27 : decode cX7_reachHeavy 27 = .ok (.iconst (-1), 1) := by decide +kernel
theorem dX7_reachHeavy_28 : decode cX7_reachHeavy 28 = .ok (.if_icmp .ne 7, 3) := by decide +kernel
theorem dX7_reachHeavy_31 : decode cX7_reachHeavy 31 = .ok (.iconst 1, 1) := by decide +kernel
theorem dX7_reachHeavy_32 : decode cX7_reachHeavy 32 = .ok (.goto 4, 3) := by decide +kernel
theorem dX7_reachHeavy_35 : decode cX7_reachHeavy 35 = .ok (.iconst 0, 1) := by decide +kernel
theorem dX7_reachHeavy_36 : decode cX7_reachHeavy 36 = .ok (.bastore, 1) := by decide +kernel
theorem dX7_reachHeavy_37 : decode cX7_reachHeavy 37 = .ok (.aload_n 0, 1) := by decide +kernel
theorem dX7_reachHeavy_38 : decode cX7_reachHeavy 38 = .ok (.getfield 50, 3) := by decide +kernel
theorem dX7_reachHeavy_41 : decode cX7_reachHeavy 41 = .ok (.bipush 12, 2) := by decide +kernel
theorem dX7_reachHeavy_43 : decode cX7_reachHeavy 43 = .ok (.iload_n 1, 1) := by decide +kernel
theorem dX7_reachHeavy_44 : decode cX7_reachHeavy 44 = .ok (.iadd, 1) := by decide +kernel
theorem dX7_reachHeavy_45 : decode cX7_reachHeavy 45 = .ok (.iconst 0, 1) := by decide +kernel
theorem dX7_reachHeavy_46 : decode cX7_reachHeavy 46 = .ok (.bastore, 1) := by decide +kernel
theorem dX7_reachHeavy_47 : decode cX7_reachHeavy 47 = .ok (.aload_n 0, 1) := by decide +kernel
theorem dX7_reachHeavy_48 : decode cX7_reachHeavy 48 = .ok (.getfield 53, 3) := by decide +kernel
theorem dX7_reachHeavy_51 : decode cX7_reachHeavy 51 = .ok (.iload_n 1, 1) := by decide +kernel
theorem dX7_reachHeavy_52 : decode cX7_reachHeavy 52 = .ok (.iconst 0, 1) := by decide +kernel
theorem dX7_reachHeavy_53 : decode cX7_reachHeavy 53 = .ok (.bastore, 1) := by decide +kernel
theorem dX7_reachHeavy_54 : decode cX7_reachHeavy 54 = .ok (.aload_n 0, 1) := by decide +kernel
theorem dX7_reachHeavy_55 : decode cX7_reachHeavy 55 = .ok (.getfield 53, 3) := by decide +kernel
theorem dX7_reachHeavy_58 : decode cX7_reachHeavy 58 = .ok (.bipush 12, 2) := by decide +kernel
theorem dX7_reachHeavy_60 : decode cX7_reachHeavy 60 = .ok (.iload_n 1, 1) := by decide +kernel
theorem dX7_reachHeavy_61 : decode cX7_reachHeavy 61 = .ok (.iadd, 1) := by decide +kernel
theorem dX7_reachHeavy_62 : decode cX7_reachHeavy 62 = .ok (.iload_n 1, 1) := by decide +kernel
theorem dX7_reachHeavy_63 : decode cX7_reachHeavy 63 = .ok (.aload_n 0, 1) := by decide +kernel
theorem dX7_reachHeavy_64 : decode cX7_reachHeavy 64 = .ok (.getfield 70, 3) := by decide +kernel
theorem dX7_reachHeavy_67 : decode cX7_reachHeavy 67 = .ok (.if_icmp .ge 17, 3) := by decide +kernel
theorem dX7_reachHeavy_70 : decode cX7_reachHeavy 70 = .ok (.aload_n 0, 1) := by decide +kernel
theorem dX7_reachHeavy_71 : decode cX7_reachHeavy 71 = .ok (.getfield 17, 3) := by decide +kernel
theorem dX7_reachHeavy_74 : decode cX7_reachHeavy 74 = .ok (.iload_n 1, 1) := by decide +kernel
theorem dX7_reachHeavy_75 : decode cX7_reachHeavy 75 = .ok (.iaload, 1) := by decide +kernel
theorem dX7_reachHeavy_76 : decode cX7_reachHeavy 76 = .ok (.iconst (-1), 1) := by decide +kernel
theorem dX7_reachHeavy_77 : decode cX7_reachHeavy 77 = .ok (.if_icmp .ne 7, 3) := by decide +kernel
theorem dX7_reachHeavy_80 : decode cX7_reachHeavy 80 = .ok (.iconst 1, 1) := by decide +kernel
theorem dX7_reachHeavy_81 : decode cX7_reachHeavy 81 = .ok (.goto 4, 3) := by decide +kernel
theorem dX7_reachHeavy_84 : decode cX7_reachHeavy 84 = .ok (.iconst 0, 1) := by decide +kernel
theorem dX7_reachHeavy_85 : decode cX7_reachHeavy 85 = .ok (.bastore, 1) := by decide +kernel
theorem dX7_reachHeavy_86 : decode cX7_reachHeavy 86 = .ok (.iinc 1 1, 3) := by decide +kernel
theorem dX7_reachHeavy_89 : decode cX7_reachHeavy 89 = .ok (.goto (-87), 3) := by decide +kernel
theorem dX7_reachHeavy_92 : decode cX7_reachHeavy 92 = .ok (.iconst 0, 1) := by decide +kernel
theorem dX7_reachHeavy_93 : decode cX7_reachHeavy 93 = .ok (.istore_n 1, 1) := by decide +kernel
theorem dX7_reachHeavy_94 : decode cX7_reachHeavy 94 = .ok (.iload_n 1, 1) := by decide +kernel
theorem dX7_reachHeavy_95 : decode cX7_reachHeavy 95 = .ok (.bipush 24, 2) := by decide +kernel
theorem dX7_reachHeavy_97 : decode cX7_reachHeavy 97 = .ok (.if_icmp .ge 225, 3) := by decide +kernel
theorem dX7_reachHeavy_100 : decode cX7_reachHeavy 100 = .ok (.iconst 0, 1) := by decide +kernel
theorem dX7_reachHeavy_101 : decode cX7_reachHeavy 101 = .ok (.istore_n 2, 1) := by decide +kernel
theorem dX7_reachHeavy_102 : decode cX7_reachHeavy 102 = .ok (.iload_n 2, 1) := by decide +kernel
theorem dX7_reachHeavy_103 : decode cX7_reachHeavy 103 = .ok (.aload_n 0, 1) := by decide +kernel
theorem dX7_reachHeavy_104 : decode cX7_reachHeavy 104 = .ok (.getfield 67, 3) := by decide +kernel
theorem dX7_reachHeavy_107 : decode cX7_reachHeavy 107 = .ok (.if_icmp .ge 209, 3) := by decide +kernel
theorem dX7_reachHeavy_110 : decode cX7_reachHeavy 110 = .ok (.iconst 0, 1) := by decide +kernel
theorem dX7_reachHeavy_111 : decode cX7_reachHeavy 111 = .ok (.istore_n 3, 1) := by decide +kernel
theorem dX7_reachHeavy_112 : decode cX7_reachHeavy 112 = .ok (.iload_n 3, 1) := by decide +kernel
theorem dX7_reachHeavy_113 : decode cX7_reachHeavy 113 = .ok (.aload_n 0, 1) := by decide +kernel
theorem dX7_reachHeavy_114 : decode cX7_reachHeavy 114 = .ok (.getfield 70, 3) := by decide +kernel
theorem dX7_reachHeavy_117 : decode cX7_reachHeavy 117 = .ok (.if_icmp .ge 193, 3) := by decide +kernel
theorem dX7_reachHeavy_120 : decode cX7_reachHeavy 120 = .ok (.aload_n 0, 1) := by decide +kernel
theorem dX7_reachHeavy_121 : decode cX7_reachHeavy 121 = .ok (.iload_n 2, 1) := by decide +kernel
theorem dX7_reachHeavy_122 : decode cX7_reachHeavy 122 = .ok (.iload_n 3, 1) := by decide +kernel
theorem dX7_reachHeavy_123 : decode cX7_reachHeavy 123 = .ok (.invokevirtual 81, 3) := by decide +kernel
theorem dX7_reachHeavy_126 : decode cX7_reachHeavy 126 = .ok (.istore 4, 2) := by decide +kernel
theorem dX7_reachHeavy_128 : decode cX7_reachHeavy 128 = .ok (.iload 4, 2) := by decide +kernel
theorem dX7_reachHeavy_130 : decode cX7_reachHeavy 130 = .ok (.ifCond .eq 17, 3) := by decide +kernel
theorem dX7_reachHeavy_133 : decode cX7_reachHeavy 133 = .ok (.aload_n 0, 1) := by decide +kernel
theorem dX7_reachHeavy_134 : decode cX7_reachHeavy 134 = .ok (.getfield 13, 3) := by decide +kernel
theorem dX7_reachHeavy_137 : decode cX7_reachHeavy 137 = .ok (.iload_n 2, 1) := by decide +kernel
theorem dX7_reachHeavy_138 : decode cX7_reachHeavy 138 = .ok (.iaload, 1) := by decide +kernel
theorem dX7_reachHeavy_139 : decode cX7_reachHeavy 139 = .ok (.iload_n 3, 1) := by decide +kernel
theorem dX7_reachHeavy_140 : decode cX7_reachHeavy 140 = .ok (.if_icmp .ne 7, 3) := by decide +kernel
theorem dX7_reachHeavy_143 : decode cX7_reachHeavy 143 = .ok (.iconst 1, 1) := by decide +kernel
theorem dX7_reachHeavy_144 : decode cX7_reachHeavy 144 = .ok (.goto 4, 3) := by decide +kernel
theorem dX7_reachHeavy_147 : decode cX7_reachHeavy 147 = .ok (.iconst 0, 1) := by decide +kernel
theorem dX7_reachHeavy_148 : decode cX7_reachHeavy 148 = .ok (.istore 5, 2) := by decide +kernel
theorem dX7_reachHeavy_150 : decode cX7_reachHeavy 150 = .ok (.aload_n 0, 1) := by decide +kernel
theorem dX7_reachHeavy_151 : decode cX7_reachHeavy 151 = .ok (.getfield 50, 3) := by decide +kernel
theorem dX7_reachHeavy_154 : decode cX7_reachHeavy 154 = .ok (.bipush 12, 2) := by decide +kernel
theorem dX7_reachHeavy_156 : decode cX7_reachHeavy 156 = .ok (.iload_n 3, 1) := by decide +kernel
theorem dX7_reachHeavy_157 : decode cX7_reachHeavy 157 = .ok (.iadd, 1) := by decide +kernel
theorem dX7_reachHeavy_158 : decode cX7_reachHeavy 158 = .ok (.aload_n 0, 1) := by decide +kernel
theorem dX7_reachHeavy_159 : decode cX7_reachHeavy 159 = .ok (.getfield 50, 3) := by decide +kernel
theorem dX7_reachHeavy_162 : decode cX7_reachHeavy 162 = .ok (.bipush 12, 2) := by decide +kernel
theorem dX7_reachHeavy_164 : decode cX7_reachHeavy 164 = .ok (.iload_n 3, 1) := by decide +kernel
theorem dX7_reachHeavy_165 : decode cX7_reachHeavy 165 = .ok (.iadd, 1) := by decide +kernel
theorem dX7_reachHeavy_166 : decode cX7_reachHeavy 166 = .ok (.baload, 1) := by decide +kernel
theorem dX7_reachHeavy_167 : decode cX7_reachHeavy 167 = .ok (.ifCond .ne 17, 3) := by decide +kernel
theorem dX7_reachHeavy_170 : decode cX7_reachHeavy 170 = .ok (.iload 4, 2) := by decide +kernel
theorem dX7_reachHeavy_172 : decode cX7_reachHeavy 172 = .ok (.ifCond .eq 16, 3) := by decide +kernel
theorem dX7_reachHeavy_175 : decode cX7_reachHeavy 175 = .ok (.aload_n 0, 1) := by decide +kernel
theorem dX7_reachHeavy_176 : decode cX7_reachHeavy 176 = .ok (.getfield 50, 3) := by decide +kernel
theorem dX7_reachHeavy_179 : decode cX7_reachHeavy 179 = .ok (.iload_n 2, 1) := by decide +kernel
theorem dX7_reachHeavy_180 : decode cX7_reachHeavy 180 = .ok (.baload, 1) := by decide +kernel
theorem dX7_reachHeavy_181 : decode cX7_reachHeavy 181 = .ok (.ifCond .eq 7, 3) := by decide +kernel
theorem dX7_reachHeavy_184 : decode cX7_reachHeavy 184 = .ok (.iconst 1, 1) := by decide +kernel
theorem dX7_reachHeavy_185 : decode cX7_reachHeavy 185 = .ok (.goto 4, 3) := by decide +kernel
theorem dX7_reachHeavy_188 : decode cX7_reachHeavy 188 = .ok (.iconst 0, 1) := by decide +kernel
theorem dX7_reachHeavy_189 : decode cX7_reachHeavy 189 = .ok (.bastore, 1) := by decide +kernel
theorem dX7_reachHeavy_190 : decode cX7_reachHeavy 190 = .ok (.aload_n 0, 1) := by decide +kernel
theorem dX7_reachHeavy_191 : decode cX7_reachHeavy 191 = .ok (.getfield 50, 3) := by decide +kernel
theorem dX7_reachHeavy_194 : decode cX7_reachHeavy 194 = .ok (.iload_n 2, 1) := by decide +kernel
theorem dX7_reachHeavy_195 : decode cX7_reachHeavy 195 = .ok (.aload_n 0, 1) := by decide +kernel
theorem dX7_reachHeavy_196 : decode cX7_reachHeavy 196 = .ok (.getfield 50, 3) := by decide +kernel
theorem dX7_reachHeavy_199 : decode cX7_reachHeavy 199 = .ok (.iload_n 2, 1) := by decide +kernel
theorem dX7_reachHeavy_200 : decode cX7_reachHeavy 200 = .ok (.baload, 1) := by decide +kernel
theorem dX7_reachHeavy_201 : decode cX7_reachHeavy 201 = .ok (.ifCond .ne 20, 3) := by decide +kernel
theorem dX7_reachHeavy_204 : decode cX7_reachHeavy 204 = .ok (.iload 5, 2) := by decide +kernel
theorem dX7_reachHeavy_206 : decode cX7_reachHeavy 206 = .ok (.ifCond .eq 19, 3) := by decide +kernel
theorem dX7_reachHeavy_209 : decode cX7_reachHeavy 209 = .ok (.aload_n 0, 1) := by decide +kernel
theorem dX7_reachHeavy_210 : decode cX7_reachHeavy 210 = .ok (.getfield 50, 3) := by decide +kernel
theorem dX7_reachHeavy_213 : decode cX7_reachHeavy 213 = .ok (.bipush 12, 2) := by decide +kernel
theorem dX7_reachHeavy_215 : decode cX7_reachHeavy 215 = .ok (.iload_n 3, 1) := by decide +kernel
theorem dX7_reachHeavy_216 : decode cX7_reachHeavy 216 = .ok (.iadd, 1) := by decide +kernel
theorem dX7_reachHeavy_217 : decode cX7_reachHeavy 217 = .ok (.baload, 1) := by decide +kernel
theorem dX7_reachHeavy_218 : decode cX7_reachHeavy 218 = .ok (.ifCond .eq 7, 3) := by decide +kernel
theorem dX7_reachHeavy_221 : decode cX7_reachHeavy 221 = .ok (.iconst 1, 1) := by decide +kernel
theorem dX7_reachHeavy_222 : decode cX7_reachHeavy 222 = .ok (.goto 4, 3) := by decide +kernel
theorem dX7_reachHeavy_225 : decode cX7_reachHeavy 225 = .ok (.iconst 0, 1) := by decide +kernel
theorem dX7_reachHeavy_226 : decode cX7_reachHeavy 226 = .ok (.bastore, 1) := by decide +kernel
theorem dX7_reachHeavy_227 : decode cX7_reachHeavy 227 = .ok (.aload_n 0, 1) := by decide +kernel
theorem dX7_reachHeavy_228 : decode cX7_reachHeavy 228 = .ok (.getfield 53, 3) := by decide +kernel
theorem dX7_reachHeavy_231 : decode cX7_reachHeavy 231 = .ok (.iload_n 2, 1) := by decide +kernel
theorem dX7_reachHeavy_232 : decode cX7_reachHeavy 232 = .ok (.aload_n 0, 1) := by decide +kernel
theorem dX7_reachHeavy_233 : decode cX7_reachHeavy 233 = .ok (.getfield 53, 3) := by decide +kernel
theorem dX7_reachHeavy_236 : decode cX7_reachHeavy 236 = .ok (.iload_n 2, 1) := by decide +kernel
theorem dX7_reachHeavy_237 : decode cX7_reachHeavy 237 = .ok (.baload, 1) := by decide +kernel
theorem dX7_reachHeavy_238 : decode cX7_reachHeavy 238 = .ok (.ifCond .ne 20, 3) := by decide +kernel
theorem dX7_reachHeavy_241 : decode cX7_reachHeavy 241 = .ok (.iload 4, 2) := by decide +kernel
theorem dX7_reachHeavy_243 : decode cX7_reachHeavy 243 = .ok (.ifCond .eq 19, 3) := by decide +kernel
theorem dX7_reachHeavy_246 : decode cX7_reachHeavy 246 = .ok (.aload_n 0, 1) := by decide +kernel
theorem dX7_reachHeavy_247 : decode cX7_reachHeavy 247 = .ok (.getfield 53, 3) := by decide +kernel
theorem dX7_reachHeavy_250 : decode cX7_reachHeavy 250 = .ok (.bipush 12, 2) := by decide +kernel
theorem dX7_reachHeavy_252 : decode cX7_reachHeavy 252 = .ok (.iload_n 3, 1) := by decide +kernel
theorem dX7_reachHeavy_253 : decode cX7_reachHeavy 253 = .ok (.iadd, 1) := by decide +kernel
theorem dX7_reachHeavy_254 : decode cX7_reachHeavy 254 = .ok (.baload, 1) := by decide +kernel
theorem dX7_reachHeavy_255 : decode cX7_reachHeavy 255 = .ok (.ifCond .eq 7, 3) := by decide +kernel
theorem dX7_reachHeavy_258 : decode cX7_reachHeavy 258 = .ok (.iconst 1, 1) := by decide +kernel
theorem dX7_reachHeavy_259 : decode cX7_reachHeavy 259 = .ok (.goto 4, 3) := by decide +kernel
theorem dX7_reachHeavy_262 : decode cX7_reachHeavy 262 = .ok (.iconst 0, 1) := by decide +kernel
theorem dX7_reachHeavy_263 : decode cX7_reachHeavy 263 = .ok (.bastore, 1) := by decide +kernel
theorem dX7_reachHeavy_264 : decode cX7_reachHeavy 264 = .ok (.aload_n 0, 1) := by decide +kernel
theorem dX7_reachHeavy_265 : decode cX7_reachHeavy 265 = .ok (.getfield 53, 3) := by decide +kernel
theorem dX7_reachHeavy_268 : decode cX7_reachHeavy 268 = .ok (.bipush 12, 2) := by decide +kernel
theorem dX7_reachHeavy_270 : decode cX7_reachHeavy 270 = .ok (.iload_n 3, 1) := by decide +kernel
theorem dX7_reachHeavy_271 : decode cX7_reachHeavy 271 = .ok (.iadd, 1) := by decide +kernel
theorem dX7_reachHeavy_272 : decode cX7_reachHeavy 272 = .ok (.aload_n 0, 1) := by decide +kernel
theorem dX7_reachHeavy_273 : decode cX7_reachHeavy 273 = .ok (.getfield 53, 3) := by decide +kernel
theorem dX7_reachHeavy_276 : decode cX7_reachHeavy 276 = .ok (.bipush 12, 2) := by decide +kernel
theorem dX7_reachHeavy_278 : decode cX7_reachHeavy 278 = .ok (.iload_n 3, 1) := by decide +kernel
theorem dX7_reachHeavy_279 : decode cX7_reachHeavy 279 = .ok (.iadd, 1) := by decide +kernel
theorem dX7_reachHeavy_280 : decode cX7_reachHeavy 280 = .ok (.baload, 1) := by decide +kernel
theorem dX7_reachHeavy_281 : decode cX7_reachHeavy 281 = .ok (.ifCond .ne 17, 3) := by decide +kernel
theorem dX7_reachHeavy_284 : decode cX7_reachHeavy 284 = .ok (.iload 5, 2) := by decide +kernel
theorem dX7_reachHeavy_286 : decode cX7_reachHeavy 286 = .ok (.ifCond .eq 16, 3) := by decide +kernel
theorem dX7_reachHeavy_289 : decode cX7_reachHeavy 289 = .ok (.aload_n 0, 1) := by decide +kernel
theorem dX7_reachHeavy_290 : decode cX7_reachHeavy 290 = .ok (.getfield 53, 3) := by decide +kernel
theorem dX7_reachHeavy_293 : decode cX7_reachHeavy 293 = .ok (.iload_n 2, 1) := by decide +kernel
theorem dX7_reachHeavy_294 : decode cX7_reachHeavy 294 = .ok (.baload, 1) := by decide +kernel
theorem dX7_reachHeavy_295 : decode cX7_reachHeavy 295 = .ok (.ifCond .eq 7, 3) := by decide +kernel
theorem dX7_reachHeavy_298 : decode cX7_reachHeavy 298 = .ok (.iconst 1, 1) := by decide +kernel
theorem dX7_reachHeavy_299 : decode cX7_reachHeavy 299 = .ok (.goto 4, 3) := by decide +kernel
theorem dX7_reachHeavy_302 : decode cX7_reachHeavy 302 = .ok (.iconst 0, 1) := by decide +kernel
theorem dX7_reachHeavy_303 : decode cX7_reachHeavy 303 = .ok (.bastore, 1) := by decide +kernel
theorem dX7_reachHeavy_304 : decode cX7_reachHeavy 304 = .ok (.iinc 3 1, 3) := by decide +kernel
theorem dX7_reachHeavy_307 : decode cX7_reachHeavy 307 = .ok (.goto (-195), 3) := by decide +kernel
theorem dX7_reachHeavy_310 : decode cX7_reachHeavy 310 = .ok (.iinc 2 1, 3) := by decide +kernel
theorem dX7_reachHeavy_313 : decode cX7_reachHeavy 313 = .ok (.goto (-211), 3) := by decide +kernel
theorem dX7_reachHeavy_316 : decode cX7_reachHeavy 316 = .ok (.iinc 1 1, 3) := by decide +kernel
theorem dX7_reachHeavy_319 : decode cX7_reachHeavy 319 = .ok (.goto (-225), 3) := by decide +kernel
theorem dX7_reachHeavy_322 : decode cX7_reachHeavy 322 = .ok (.return_, 1) := by decide +kernel
theorem dX7_part_0 : decode cX7_part 0 = .ok (.aload_n 0, 1) := by decide +kernel
theorem dX7_part_1 : decode cX7_part 1 = .ok (.getfield 50, 3) := by decide +kernel
theorem dX7_part_4 : decode cX7_part 4 = .ok (.iload_n 1, 1) := by decide +kernel
theorem dX7_part_5 : decode cX7_part 5 = .ok (.baload, 1) := by decide +kernel
theorem dX7_part_6 : decode cX7_part 6 = .ok (.ifCond .eq 7, 3) := by decide +kernel
theorem dX7_part_9 : decode cX7_part 9 = .ok (.iconst 0, 1) := by decide +kernel
theorem dX7_part_10 : decode cX7_part 10 = .ok (.goto 17, 3) := by decide +kernel
theorem dX7_part_13 : decode cX7_part 13 = .ok (.aload_n 0, 1) := by decide +kernel
theorem dX7_part_14 : decode cX7_part 14 = .ok (.getfield 53, 3) := by decide +kernel
theorem dX7_part_17 : decode cX7_part 17 = .ok (.iload_n 1, 1) := by decide +kernel
theorem dX7_part_18 : decode cX7_part 18 = .ok (.baload, 1) := by decide +kernel
theorem dX7_part_19 : decode cX7_part 19 = .ok (.ifCond .eq 7, 3) := by decide +kernel
theorem dX7_part_22 : decode cX7_part 22 = .ok (.iconst 2, 1) := by decide +kernel
theorem dX7_part_23 : decode cX7_part 23 = .ok (.goto 4, 3) := by decide +kernel
theorem dX7_part_26 : decode cX7_part 26 = .ok (.iconst 1, 1) := by decide +kernel
theorem dX7_part_27 : decode cX7_part 27 = .ok (.ireturn, 1) := by decide +kernel
set_option maxRecDepth 20000 in
theorem ggX7_partOfLeft_X7_isLeft : GoodIn wsX7_partOfLeft wsX7_isLeft := goodIn_r _ [5, 6, 30, 31, 32, 33, 34, 35, 36, 37, 38, 39, 40, 41, 42, 43, 44, 45, 46, 47, 48, 49] (by decide +kernel) (by decide +kernel)
set_option maxRecDepth 20000 in
theorem gX7_partOfLeft_X7_isLeft : GoodIn wsX7_partOfLeft (wsV RX7 89 RX7 yX7_isLeft wsX7_isLeft) := goodIn_app (goodIn_of _ (by decide +kernel)) ggX7_partOfLeft_X7_isLeft
set_option maxRecDepth 20000 in
theorem ggX7_partOfLeft_X7_refused : GoodIn wsX7_partOfLeft wsX7_refused := goodIn_r _ [10, 11, 30, 31, 32, 33, 34, 35, 36, 37, 38, 39, 40, 41, 42, 43, 44, 45, 46, 47, 48, 49] (by decide +kernel) (by decide +kernel)
set_option maxRecDepth 20000 in
theorem gX7_partOfLeft_X7_refused : GoodIn wsX7_partOfLeft (wsV RX7 73 RX7 yX7_refused wsX7_refused) := goodIn_app (goodIn_of _ (by decide +kernel)) ggX7_partOfLeft_X7_refused
set_option maxRecDepth 20000 in
theorem ggX7_partOfLeft_X7_reachHeavy : GoodIn wsX7_partOfLeft wsX7_reachHeavy := goodIn_r _ [15, 16, 6, 17, 18, 19, 20, 21, 22, 23, 4, 24, 25, 30, 31, 32, 33, 34, 35, 36, 37, 38, 39, 40, 41, 42, 43, 44, 45, 46, 47, 48, 49] (by decide +kernel) (by decide +kernel)
set_option maxRecDepth 20000 in
theorem gX7_partOfLeft_X7_reachHeavy : GoodIn wsX7_partOfLeft (wsV RX7 117 RX7 yX7_reachHeavy wsX7_reachHeavy) := goodIn_app (goodIn_of _ (by decide +kernel)) ggX7_partOfLeft_X7_reachHeavy
set_option maxRecDepth 20000 in
theorem ggX7_partOfLeft_X7_part : GoodIn wsX7_partOfLeft wsX7_part := goodIn_r _ [29, 16, 18, 30, 31, 32, 33, 34, 35, 36, 37, 38, 39, 40, 41, 42, 43, 44, 45, 46, 47, 48, 49] (by decide +kernel) (by decide +kernel)
set_option maxRecDepth 20000 in
theorem gX7_partOfLeft_X7_part : GoodIn wsX7_partOfLeft (wsV RX7 120 RX7 yX7_part wsX7_part) := goodIn_app (goodIn_of _ (by decide +kernel)) ggX7_partOfLeft_X7_part
theorem dX7_partOfLeft_0 : decode cX7_partOfLeft 0 = .ok (.aload_n 0, 1) := by decide +kernel
theorem dX7_partOfLeft_1 : decode cX7_partOfLeft 1 = .ok (.aload_n 0, 1) := by decide +kernel
theorem dX7_partOfLeft_2 : decode cX7_partOfLeft 2 = .ok (.iload_n 1, 1) := by decide +kernel
theorem dX7_partOfLeft_3 : decode cX7_partOfLeft 3 = .ok (.invokevirtual 89, 3) := by decide +kernel
theorem dX7_partOfLeft_6 : decode cX7_partOfLeft 6 = .ok (.ifCond .eq 7, 3) := by decide +kernel
theorem dX7_partOfLeft_9 : decode cX7_partOfLeft 9 = .ok (.iconst 0, 1) := by decide +kernel
theorem dX7_partOfLeft_10 : decode cX7_partOfLeft 10 = .ok (.goto 4, 3) := by decide +kernel
theorem dX7_partOfLeft_13 : decode cX7_partOfLeft 13 = .ok (.iconst 1, 1) := by decide +kernel
theorem dX7_partOfLeft_14 : decode cX7_partOfLeft 14 = .ok (.invokevirtual 73, 3) := by decide +kernel
theorem dX7_partOfLeft_17 : decode cX7_partOfLeft 17 = .ok (.ifCond .eq 5, 3) := by decide +kernel
theorem dX7_partOfLeft_20 : decode cX7_partOfLeft 20 = .ok (.iconst 0, 1) := by decide +kernel
theorem dX7_partOfLeft_21 : decode cX7_partOfLeft 21 = .ok (.ireturn, 1) := by decide +kernel
theorem dX7_partOfLeft_22 : decode cX7_partOfLeft 22 = .ok (.aload_n 0, 1) := by decide +kernel
theorem dX7_partOfLeft_23 : decode cX7_partOfLeft 23 = .ok (.invokevirtual 117, 3) := by decide +kernel
theorem dX7_partOfLeft_26 : decode cX7_partOfLeft 26 = .ok (.aload_n 0, 1) := by decide +kernel
theorem dX7_partOfLeft_27 : decode cX7_partOfLeft 27 = .ok (.iload_n 1, 1) := by decide +kernel
theorem dX7_partOfLeft_28 : decode cX7_partOfLeft 28 = .ok (.invokevirtual 120, 3) := by decide +kernel
theorem dX7_partOfLeft_31 : decode cX7_partOfLeft 31 = .ok (.ireturn, 1) := by decide +kernel
set_option maxRecDepth 20000 in
theorem ggX7_partOfRight_X7_isRight : GoodIn wsX7_partOfRight wsX7_isRight := goodIn_r _ [5, 6, 30, 31, 32, 33, 34, 35, 36, 37, 38, 39, 40, 41, 42, 43, 44, 45, 46, 47, 48, 49] (by decide +kernel) (by decide +kernel)
set_option maxRecDepth 20000 in
theorem gX7_partOfRight_X7_isRight : GoodIn wsX7_partOfRight (wsV RX7 92 RX7 yX7_isRight wsX7_isRight) := goodIn_app (goodIn_of _ (by decide +kernel)) ggX7_partOfRight_X7_isRight
set_option maxRecDepth 20000 in
theorem ggX7_partOfRight_X7_refused : GoodIn wsX7_partOfRight wsX7_refused := goodIn_r _ [10, 11, 30, 31, 32, 33, 34, 35, 36, 37, 38, 39, 40, 41, 42, 43, 44, 45, 46, 47, 48, 49] (by decide +kernel) (by decide +kernel)
set_option maxRecDepth 20000 in
theorem gX7_partOfRight_X7_refused : GoodIn wsX7_partOfRight (wsV RX7 73 RX7 yX7_refused wsX7_refused) := goodIn_app (goodIn_of _ (by decide +kernel)) ggX7_partOfRight_X7_refused
set_option maxRecDepth 20000 in
theorem ggX7_partOfRight_X7_reachHeavy : GoodIn wsX7_partOfRight wsX7_reachHeavy := goodIn_r _ [15, 16, 17, 18, 19, 6, 20, 21, 22, 23, 4, 24, 25, 30, 31, 32, 33, 34, 35, 36, 37, 38, 39, 40, 41, 42, 43, 44, 45, 46, 47, 48, 49] (by decide +kernel) (by decide +kernel)
set_option maxRecDepth 20000 in
theorem gX7_partOfRight_X7_reachHeavy : GoodIn wsX7_partOfRight (wsV RX7 117 RX7 yX7_reachHeavy wsX7_reachHeavy) := goodIn_app (goodIn_of _ (by decide +kernel)) ggX7_partOfRight_X7_reachHeavy
set_option maxRecDepth 20000 in
theorem ggX7_partOfRight_X7_part : GoodIn wsX7_partOfRight wsX7_part := goodIn_r _ [29, 16, 19, 30, 31, 32, 33, 34, 35, 36, 37, 38, 39, 40, 41, 42, 43, 44, 45, 46, 47, 48, 49] (by decide +kernel) (by decide +kernel)
set_option maxRecDepth 20000 in
theorem gX7_partOfRight_X7_part : GoodIn wsX7_partOfRight (wsV RX7 120 RX7 yX7_part wsX7_part) := goodIn_app (goodIn_of _ (by decide +kernel)) ggX7_partOfRight_X7_part
theorem dX7_partOfRight_0 : decode cX7_partOfRight 0 = .ok (.aload_n 0, 1) := by decide +kernel
theorem dX7_partOfRight_1 : decode cX7_partOfRight 1 = .ok (.aload_n 0, 1) := by decide +kernel
theorem dX7_partOfRight_2 : decode cX7_partOfRight 2 = .ok (.iload_n 1, 1) := by decide +kernel
theorem dX7_partOfRight_3 : decode cX7_partOfRight 3 = .ok (.invokevirtual 92, 3) := by decide +kernel
theorem dX7_partOfRight_6 : decode cX7_partOfRight 6 = .ok (.ifCond .eq 7, 3) := by decide +kernel
theorem dX7_partOfRight_9 : decode cX7_partOfRight 9 = .ok (.iconst 0, 1) := by decide +kernel
theorem dX7_partOfRight_10 : decode cX7_partOfRight 10 = .ok (.goto 4, 3) := by decide +kernel
theorem dX7_partOfRight_13 : decode cX7_partOfRight 13 = .ok (.iconst 1, 1) := by decide +kernel
theorem dX7_partOfRight_14 : decode cX7_partOfRight 14 = .ok (.invokevirtual 73, 3) := by decide +kernel
theorem dX7_partOfRight_17 : decode cX7_partOfRight 17 = .ok (.ifCond .eq 5, 3) := by decide +kernel
theorem dX7_partOfRight_20 : decode cX7_partOfRight 20 = .ok (.iconst 0, 1) := by decide +kernel
theorem dX7_partOfRight_21 : decode cX7_partOfRight 21 = .ok (.ireturn, 1) := by decide +kernel
theorem dX7_partOfRight_22 : decode cX7_partOfRight 22 = .ok (.aload_n 0, 1) := by decide +kernel
theorem dX7_partOfRight_23 : decode cX7_partOfRight 23 = .ok (.invokevirtual 117, 3) := by decide +kernel
theorem dX7_partOfRight_26 : decode cX7_partOfRight 26 = .ok (.aload_n 0, 1) := by decide +kernel
theorem dX7_partOfRight_27 : decode cX7_partOfRight 27 = .ok (.bipush 12, 2) := by decide +kernel
theorem dX7_partOfRight_29 : decode cX7_partOfRight 29 = .ok (.iload_n 1, 1) := by decide +kernel
theorem dX7_partOfRight_30 : decode cX7_partOfRight 30 = .ok (.iadd, 1) := by decide +kernel
theorem dX7_partOfRight_31 : decode cX7_partOfRight 31 = .ok (.invokevirtual 120, 3) := by decide +kernel
theorem dX7_partOfRight_34 : decode cX7_partOfRight 34 = .ok (.ireturn, 1) := by decide +kernel
set_option maxRecDepth 20000 in
theorem ggX7_isSquare_X7_part : GoodIn wsX7_isSquare wsX7_part := goodIn_r _ [5, 6, 7, 8, 9, 10, 11, 12, 13, 14, 15, 16, 17, 18, 19, 20, 21, 22, 23, 24, 25, 26, 27] (by decide +kernel) (by decide +kernel)
set_option maxRecDepth 20000 in
theorem gX7_isSquare_X7_part : GoodIn wsX7_isSquare (wsV RX7 120 RX7 yX7_part wsX7_part) := goodIn_app (goodIn_of _ (by decide +kernel)) ggX7_isSquare_X7_part
theorem dX7_isSquare_0 : decode cX7_isSquare 0 = .ok (.aload_n 0, 1) := by decide +kernel
theorem dX7_isSquare_1 : decode cX7_isSquare 1 = .ok (.iload_n 1, 1) := by decide +kernel
theorem dX7_isSquare_2 : decode cX7_isSquare 2 = .ok (.invokevirtual 120, 3) := by decide +kernel
theorem dX7_isSquare_5 : decode cX7_isSquare 5 = .ok (.iconst 1, 1) := by decide +kernel
theorem dX7_isSquare_6 : decode cX7_isSquare 6 = .ok (.if_icmp .ne 7, 3) := by decide +kernel
theorem dX7_isSquare_9 : decode cX7_isSquare 9 = .ok (.iconst 1, 1) := by decide +kernel
theorem dX7_isSquare_10 : decode cX7_isSquare 10 = .ok (.goto 4, 3) := by decide +kernel
theorem dX7_isSquare_13 : decode cX7_isSquare 13 = .ok (.iconst 0, 1) := by decide +kernel
theorem dX7_isSquare_14 : decode cX7_isSquare 14 = .ok (.ireturn, 1) := by decide +kernel
set_option maxRecDepth 20000 in
theorem ggX7_leadAll_X7_reachHeavy : GoodIn wsX7_leadAll wsX7_reachHeavy := goodIn_r _ [8, 9, 1, 3, 10, 11, 12, 13, 14, 15, 7, 16, 17, 26, 27, 28, 29, 30, 31, 32, 33, 34, 35, 36, 37, 38, 39, 40, 41, 42, 43, 44, 45] (by decide +kernel) (by decide +kernel)
set_option maxRecDepth 20000 in
theorem gX7_leadAll_X7_reachHeavy : GoodIn wsX7_leadAll (wsV RX7 117 RX7 yX7_reachHeavy wsX7_reachHeavy) := goodIn_app (goodIn_of _ (by decide +kernel)) ggX7_leadAll_X7_reachHeavy
set_option maxRecDepth 20000 in
theorem ggX7_leadAll_X7_isSquare : GoodIn wsX7_leadAll wsX7_isSquare := goodIn_r _ [21, 22, 23, 24, 7, 25, 9, 10, 26, 27, 28, 29, 30, 31, 32, 33, 34, 35, 36, 37, 38, 39, 40, 41, 42, 43, 44, 45] (by decide +kernel) (by decide +kernel)
set_option maxRecDepth 20000 in
theorem gX7_leadAll_X7_isSquare : GoodIn wsX7_leadAll (wsV RX7 123 RX7 yX7_isSquare wsX7_isSquare) := goodIn_app (goodIn_of _ (by decide +kernel)) ggX7_leadAll_X7_isSquare
set_option maxRecDepth 20000 in
theorem ggX7_leadAll_X7_isEdge : GoodIn wsX7_leadAll wsX7_isEdge := goodIn_r _ [16, 17, 26, 27, 28, 29, 30, 31, 32, 33, 34, 35, 36, 37, 38, 39, 40, 41, 42, 43, 44, 45] (by decide +kernel) (by decide +kernel)
set_option maxRecDepth 20000 in
theorem gX7_leadAll_X7_isEdge : GoodIn wsX7_leadAll (wsV RX7 81 RX7 yX7_isEdge wsX7_isEdge) := goodIn_app (goodIn_of _ (by decide +kernel)) ggX7_leadAll_X7_isEdge
theorem dX7_leadAll_0 : decode cX7_leadAll 0 = .ok (.aload_n 0, 1) := by decide +kernel
theorem dX7_leadAll_1 : decode cX7_leadAll 1 = .ok (.invokevirtual 117, 3) := by decide +kernel
theorem dX7_leadAll_4 : decode cX7_leadAll 4 = .ok (.iconst 0, 1) := by decide +kernel
theorem dX7_leadAll_5 : decode cX7_leadAll 5 = .ok (.istore_n 1, 1) := by decide +kernel
theorem dX7_leadAll_6 : decode cX7_leadAll 6 = .ok (.iload_n 1, 1) := by decide +kernel
theorem dX7_leadAll_7 : decode cX7_leadAll 7 = .ok (.aload_n 0, 1) := by decide +kernel
theorem dX7_leadAll_8 : decode cX7_leadAll 8 = .ok (.getfield 67, 3) := by decide +kernel
theorem dX7_leadAll_11 : decode cX7_leadAll 11 = .ok (.if_icmp .ge 76, 3) := by decide +kernel
theorem dX7_leadAll_14 : decode cX7_leadAll 14 = .ok (.iconst 0, 1) := by decide +kernel
theorem dX7_leadAll_15 : decode cX7_leadAll 15 = .ok (.istore_n 2, 1) := by decide +kernel
theorem dX7_leadAll_16 : decode cX7_leadAll 16 = .ok (.iload_n 2, 1) := by decide +kernel
theorem dX7_leadAll_17 : decode cX7_leadAll 17 = .ok (.aload_n 0, 1) := by decide +kernel
theorem dX7_leadAll_18 : decode cX7_leadAll 18 = .ok (.getfield 67, 3) := by decide +kernel
theorem dX7_leadAll_21 : decode cX7_leadAll 21 = .ok (.if_icmp .ge 60, 3) := by decide +kernel
theorem dX7_leadAll_24 : decode cX7_leadAll 24 = .ok (.aload_n 0, 1) := by decide +kernel
theorem dX7_leadAll_25 : decode cX7_leadAll 25 = .ok (.getfield 56, 3) := by decide +kernel
theorem dX7_leadAll_28 : decode cX7_leadAll 28 = .ok (.bipush 12, 2) := by decide +kernel
theorem dX7_leadAll_30 : decode cX7_leadAll 30 = .ok (.iload_n 1, 1) := by decide +kernel
theorem dX7_leadAll_31 : decode cX7_leadAll 31 = .ok (.imul, 1) := by decide +kernel
theorem dX7_leadAll_32 : decode cX7_leadAll 32 = .ok (.iload_n 2, 1) := by decide +kernel
theorem dX7_leadAll_33 : decode cX7_leadAll 33 = .ok (.iadd, 1) := by decide +kernel
theorem dX7_leadAll_34 : decode cX7_leadAll 34 = .ok (.aload_n 0, 1) := by decide +kernel
theorem dX7_leadAll_35 : decode cX7_leadAll 35 = .ok (.iload_n 1, 1) := by decide +kernel
theorem dX7_leadAll_36 : decode cX7_leadAll 36 = .ok (.invokevirtual 123, 3) := by decide +kernel
theorem dX7_leadAll_39 : decode cX7_leadAll 39 = .ok (.ifCond .eq 34, 3) := by decide +kernel
theorem dX7_leadAll_42 : decode cX7_leadAll 42 = .ok (.aload_n 0, 1) := by decide +kernel
theorem dX7_leadAll_43 : decode cX7_leadAll 43 = .ok (.iload_n 2, 1) := by decide +kernel
theorem dX7_leadAll_44 : decode cX7_leadAll 44 = .ok (.invokevirtual 123, 3) := by decide +kernel
theorem dX7_leadAll_47 : decode cX7_leadAll 47 = .ok (.ifCond .eq 26, 3) := by decide +kernel
theorem dX7_leadAll_50 : decode cX7_leadAll 50 = .ok (.iload_n 1, 1) := by decide +kernel
theorem dX7_leadAll_51 : decode cX7_leadAll 51 = .ok (.iload_n 2, 1) := by decide +kernel
theorem dX7_leadAll_52 : decode cX7_leadAll 52 = .ok (.if_icmp .eq 17, 3) := by decide +kernel
theorem dX7_leadAll_55 : decode cX7_leadAll 55 = .ok (.aload_n 0, 1) := by decide +kernel
theorem dX7_leadAll_56 : decode cX7_leadAll 56 = .ok (.iload_n 1, 1) := by decide +kernel
theorem dX7_leadAll_57 : decode cX7_leadAll 57 = .ok (.aload_n 0, 1) := by decide +kernel
theorem dX7_leadAll_58 : decode cX7_leadAll 58 = .ok (.getfield 13, 3) := by decide +kernel
theorem dX7_leadAll_61 : decode cX7_leadAll 61 = .ok (.iload_n 2, 1) := by decide +kernel
theorem dX7_leadAll_62 : decode cX7_leadAll 62 = .ok (.iaload, 1) := by decide +kernel
theorem dX7_leadAll_63 : decode cX7_leadAll 63 = .ok (.invokevirtual 81, 3) := by decide +kernel
theorem dX7_leadAll_66 : decode cX7_leadAll 66 = .ok (.ifCond .eq 7, 3) := by decide +kernel
theorem dX7_leadAll_69 : decode cX7_leadAll 69 = .ok (.iconst 1, 1) := by decide +kernel
theorem dX7_leadAll_70 : decode cX7_leadAll 70 = .ok (.goto 4, 3) := by decide +kernel
theorem dX7_leadAll_73 : decode cX7_leadAll 73 = .ok (.iconst 0, 1) := by decide +kernel
theorem dX7_leadAll_74 : decode cX7_leadAll 74 = .ok (.bastore, 1) := by decide +kernel
theorem dX7_leadAll_75 : decode cX7_leadAll 75 = .ok (.iinc 2 1, 3) := by decide +kernel
theorem dX7_leadAll_78 : decode cX7_leadAll 78 = .ok (.goto (-62), 3) := by decide +kernel
theorem dX7_leadAll_81 : decode cX7_leadAll 81 = .ok (.iinc 1 1, 3) := by decide +kernel
theorem dX7_leadAll_84 : decode cX7_leadAll 84 = .ok (.goto (-78), 3) := by decide +kernel
theorem dX7_leadAll_87 : decode cX7_leadAll 87 = .ok (.iconst 0, 1) := by decide +kernel
theorem dX7_leadAll_88 : decode cX7_leadAll 88 = .ok (.istore_n 1, 1) := by decide +kernel
theorem dX7_leadAll_89 : decode cX7_leadAll 89 = .ok (.iload_n 1, 1) := by decide +kernel
theorem dX7_leadAll_90 : decode cX7_leadAll 90 = .ok (.aload_n 0, 1) := by decide +kernel
theorem dX7_leadAll_91 : decode cX7_leadAll 91 = .ok (.getfield 67, 3) := by decide +kernel
theorem dX7_leadAll_94 : decode cX7_leadAll 94 = .ok (.if_icmp .ge 99, 3) := by decide +kernel
theorem dX7_leadAll_97 : decode cX7_leadAll 97 = .ok (.iconst 0, 1) := by decide +kernel
theorem dX7_leadAll_98 : decode cX7_leadAll 98 = .ok (.istore_n 2, 1) := by decide +kernel
theorem dX7_leadAll_99 : decode cX7_leadAll 99 = .ok (.iload_n 2, 1) := by decide +kernel
theorem dX7_leadAll_100 : decode cX7_leadAll 100 = .ok (.aload_n 0, 1) := by decide +kernel
theorem dX7_leadAll_101 : decode cX7_leadAll 101 = .ok (.getfield 67, 3) := by decide +kernel
theorem dX7_leadAll_104 : decode cX7_leadAll 104 = .ok (.if_icmp .ge 83, 3) := by decide +kernel
theorem dX7_leadAll_107 : decode cX7_leadAll 107 = .ok (.iconst 0, 1) := by decide +kernel
theorem dX7_leadAll_108 : decode cX7_leadAll 108 = .ok (.istore_n 3, 1) := by decide +kernel
theorem dX7_leadAll_109 : decode cX7_leadAll 109 = .ok (.iload_n 3, 1) := by decide +kernel
theorem dX7_leadAll_110 : decode cX7_leadAll 110 = .ok (.aload_n 0, 1) := by decide +kernel
theorem dX7_leadAll_111 : decode cX7_leadAll 111 = .ok (.getfield 67, 3) := by decide +kernel
theorem dX7_leadAll_114 : decode cX7_leadAll 114 = .ok (.if_icmp .ge 67, 3) := by decide +kernel
theorem dX7_leadAll_117 : decode cX7_leadAll 117 = .ok (.aload_n 0, 1) := by decide +kernel
theorem dX7_leadAll_118 : decode cX7_leadAll 118 = .ok (.getfield 56, 3) := by decide +kernel
theorem dX7_leadAll_121 : decode cX7_leadAll 121 = .ok (.bipush 12, 2) := by decide +kernel
theorem dX7_leadAll_123 : decode cX7_leadAll 123 = .ok (.iload_n 2, 1) := by decide +kernel
theorem dX7_leadAll_124 : decode cX7_leadAll 124 = .ok (.imul, 1) := by decide +kernel
theorem dX7_leadAll_125 : decode cX7_leadAll 125 = .ok (.iload_n 3, 1) := by decide +kernel
theorem dX7_leadAll_126 : decode cX7_leadAll 126 = .ok (.iadd, 1) := by decide +kernel
theorem dX7_leadAll_127 : decode cX7_leadAll 127 = .ok (.aload_n 0, 1) := by decide +kernel
theorem dX7_leadAll_128 : decode cX7_leadAll 128 = .ok (.getfield 56, 3) := by decide +kernel
theorem dX7_leadAll_131 : decode cX7_leadAll 131 = .ok (.bipush 12, 2) := by decide +kernel
theorem dX7_leadAll_133 : decode cX7_leadAll 133 = .ok (.iload_n 2, 1) := by decide +kernel
theorem dX7_leadAll_134 : decode cX7_leadAll 134 = .ok (.imul, 1) := by decide +kernel
theorem dX7_leadAll_135 : decode cX7_leadAll 135 = .ok (.iload_n 3, 1) := by decide +kernel
theorem dX7_leadAll_136 : decode cX7_leadAll 136 = .ok (.iadd, 1) := by decide +kernel
theorem dX7_leadAll_137 : decode cX7_leadAll 137 = .ok (.baload, 1) := by decide +kernel
theorem dX7_leadAll_138 : decode cX7_leadAll 138 = .ok (.ifCond .ne 31, 3) := by decide +kernel
theorem dX7_leadAll_141 : decode cX7_leadAll 141 = .ok (.aload_n 0, 1) := by decide +kernel
theorem dX7_leadAll_142 : decode cX7_leadAll 142 = .ok (.getfield 56, 3) := by decide +kernel
theorem dX7_leadAll_145 : decode cX7_leadAll 145 = .ok (.bipush 12, 2) := by decide +kernel
theorem dX7_leadAll_147 : decode cX7_leadAll 147 = .ok (.iload_n 2, 1) := by decide +kernel
theorem dX7_leadAll_148 : decode cX7_leadAll 148 = .ok (.imul, 1) := by decide +kernel
theorem dX7_leadAll_149 : decode cX7_leadAll 149 = .ok (.iload_n 1, 1) := by decide +kernel
theorem dX7_leadAll_150 : decode cX7_leadAll 150 = .ok (.iadd, 1) := by decide +kernel
theorem dX7_leadAll_151 : decode cX7_leadAll 151 = .ok (.baload, 1) := by decide +kernel
theorem dX7_leadAll_152 : decode cX7_leadAll 152 = .ok (.ifCond .eq 21, 3) := by decide +kernel
theorem dX7_leadAll_155 : decode cX7_leadAll 155 = .ok (.aload_n 0, 1) := by decide +kernel
theorem dX7_leadAll_156 : decode cX7_leadAll 156 = .ok (.getfield 56, 3) := by decide +kernel
theorem dX7_leadAll_159 : decode cX7_leadAll 159 = .ok (.bipush 12, 2) := by decide +kernel
theorem dX7_leadAll_161 : decode cX7_leadAll 161 = .ok (.iload_n 1, 1) := by decide +kernel
theorem dX7_leadAll_162 : decode cX7_leadAll 162 = .ok (.imul, 1) := by decide +kernel
theorem dX7_leadAll_163 : decode cX7_leadAll 163 = .ok (.iload_n 3, 1) := by decide +kernel
theorem dX7_leadAll_164 : decode cX7_leadAll 164 = .ok (.iadd, 1) := by decide +kernel
theorem dX7_leadAll_165 : decode cX7_leadAll 165 = .ok (.baload, 1) := by decide +kernel
theorem dX7_leadAll_166 : decode cX7_leadAll 166 = .ok (.ifCond .eq 7, 3) := by decide +kernel
theorem dX7_leadAll_169 : decode cX7_leadAll 169 = .ok (.iconst 1, 1) := by decide +kernel
theorem dX7_leadAll_170 : decode cX7_leadAll 170 = .ok (.goto 4, 3) := by decide +kernel
theorem dX7_leadAll_173 : decode cX7_leadAll 173 = .ok (.iconst 0, 1) := by decide +kernel
theorem dX7_leadAll_174 : decode cX7_leadAll 174 = .ok (.bastore, 1) := by decide +kernel
theorem dX7_leadAll_175 : decode cX7_leadAll 175 = .ok (.iinc 3 1, 3) := by decide +kernel
theorem dX7_leadAll_178 : decode cX7_leadAll 178 = .ok (.goto (-69), 3) := by decide +kernel
theorem dX7_leadAll_181 : decode cX7_leadAll 181 = .ok (.iinc 2 1, 3) := by decide +kernel
theorem dX7_leadAll_184 : decode cX7_leadAll 184 = .ok (.goto (-85), 3) := by decide +kernel
theorem dX7_leadAll_187 : decode cX7_leadAll 187 = .ok (.iinc 1 1, 3) := by decide +kernel
theorem dX7_leadAll_190 : decode cX7_leadAll 190 = .ok (.goto (-101), 3) := by decide +kernel
theorem dX7_leadAll_193 : decode cX7_leadAll 193 = .ok (.return_, 1) := by decide +kernel
theorem dX7_lowest_0 : decode cX7_lowest 0 = .ok (.iconst 0, 1) := by decide +kernel
theorem dX7_lowest_1 : decode cX7_lowest 1 = .ok (.istore_n 2, 1) := by decide +kernel
theorem dX7_lowest_2 : decode cX7_lowest 2 = .ok (.aload_n 0, 1) := by decide +kernel
theorem dX7_lowest_3 : decode cX7_lowest 3 = .ok (.getfield 56, 3) := by decide +kernel
theorem dX7_lowest_6 : decode cX7_lowest 6 = .ok (.bipush 12, 2) := by decide +kernel
theorem dX7_lowest_8 : decode cX7_lowest 8 = .ok (.iload_n 1, 1) := by decide +kernel
theorem dX7_lowest_9 : decode cX7_lowest 9 = .ok (.imul, 1) := by decide +kernel
theorem dX7_lowest_10 : decode cX7_lowest 10 = .ok (.iload_n 2, 1) := by decide +kernel
theorem dX7_lowest_11 : decode cX7_lowest 11 = .ok (.iadd, 1) := by decide +kernel
theorem dX7_lowest_12 : decode cX7_lowest 12 = .ok (.baload, 1) := by decide +kernel
theorem dX7_lowest_13 : decode cX7_lowest 13 = .ok (.ifCond .eq 17, 3) := by decide +kernel
theorem dX7_lowest_16 : decode cX7_lowest 16 = .ok (.aload_n 0, 1) := by decide +kernel
theorem dX7_lowest_17 : decode cX7_lowest 17 = .ok (.getfield 56, 3) := by decide +kernel
theorem dX7_lowest_20 : decode cX7_lowest 20 = .ok (.bipush 12, 2) := by decide +kernel
theorem dX7_lowest_22 : decode cX7_lowest 22 = .ok (.iload_n 2, 1) := by decide +kernel
theorem dX7_lowest_23 : decode cX7_lowest 23 = .ok (.imul, 1) := by decide +kernel
theorem dX7_lowest_24 : decode cX7_lowest 24 = .ok (.iload_n 1, 1) := by decide +kernel
theorem dX7_lowest_25 : decode cX7_lowest 25 = .ok (.iadd, 1) := by decide +kernel
theorem dX7_lowest_26 : decode cX7_lowest 26 = .ok (.baload, 1) := by decide +kernel
theorem dX7_lowest_27 : decode cX7_lowest 27 = .ok (.ifCond .ne 9, 3) := by decide +kernel
theorem dX7_lowest_30 : decode cX7_lowest 30 = .ok (.iinc 2 1, 3) := by decide +kernel
theorem dX7_lowest_33 : decode cX7_lowest 33 = .ok (.goto (-31), 3) := by decide +kernel
theorem dX7_lowest_36 : decode cX7_lowest 36 = .ok (.iload_n 2, 1) := by decide +kernel
theorem dX7_lowest_37 : decode cX7_lowest 37 = .ok (.ireturn, 1) := by decide +kernel
set_option maxRecDepth 20000 in
theorem ggX7_fineParts_X7_leadAll : GoodIn wsX7_fineParts wsX7_leadAll := goodIn_r _ [6, 1, 7, 8, 9, 10, 11, 5, 12, 13, 14, 15, 16, 17, 18, 19, 20, 21, 22, 23, 24, 25, 26, 27, 28, 29, 39, 40, 41, 42, 43, 44, 45, 46, 47, 48, 49, 50, 51, 52, 53, 54, 55, 56, 57, 58] (by decide +kernel) (by decide +kernel)
set_option maxRecDepth 20000 in
theorem gX7_fineParts_X7_leadAll : GoodIn wsX7_fineParts (wsV RX7 126 RX7 yX7_leadAll wsX7_leadAll) := goodIn_app (goodIn_of _ (by decide +kernel)) ggX7_fineParts_X7_leadAll
set_option maxRecDepth 20000 in
theorem ggX7_fineParts_X7_isSquare : GoodIn wsX7_fineParts wsX7_isSquare := goodIn_r _ [25, 26, 27, 28, 5, 29, 13, 14, 39, 40, 41, 42, 43, 44, 45, 46, 47, 48, 49, 50, 51, 52, 53, 54, 55, 56, 57, 58] (by decide +kernel) (by decide +kernel)
set_option maxRecDepth 20000 in
theorem gX7_fineParts_X7_isSquare : GoodIn wsX7_fineParts (wsV RX7 123 RX7 yX7_isSquare wsX7_isSquare) := goodIn_app (goodIn_of _ (by decide +kernel)) ggX7_fineParts_X7_isSquare
set_option maxRecDepth 20000 in
theorem ggX7_fineParts_X7_lowest : GoodIn wsX7_fineParts wsX7_lowest := goodIn_r _ [33, 7, 39, 40, 41, 42, 43, 44, 45, 46, 47, 48, 49, 50, 51, 52, 53, 54, 55, 56, 57, 58] (by decide +kernel) (by decide +kernel)
set_option maxRecDepth 20000 in
theorem gX7_fineParts_X7_lowest : GoodIn wsX7_fineParts (wsV RX7 129 RX7 yX7_lowest wsX7_lowest) := goodIn_app (goodIn_of _ (by decide +kernel)) ggX7_fineParts_X7_lowest
set_option maxRecDepth 20000 in
theorem ggX7_fineParts_X7_fine : GoodIn wsX7_fineParts wsX7_fine := goodIn_r _ [37, 38, 39, 40, 41, 42, 43, 44, 45, 46, 47, 48, 49, 50, 51, 52, 53, 54, 55, 56, 57, 58] (by decide +kernel) (by decide +kernel)
set_option maxRecDepth 20000 in
theorem gX7_fineParts_X7_fine : GoodIn wsX7_fineParts (wsV RX7 77 RX7 yX7_fine wsX7_fine) := goodIn_app (goodIn_of _ (by decide +kernel)) ggX7_fineParts_X7_fine
theorem dX7_fineParts_0 : decode cX7_fineParts 0 = .ok (.aload_n 0, 1) := by decide +kernel
theorem dX7_fineParts_1 : decode cX7_fineParts 1 = .ok (.invokevirtual 126, 3) := by decide +kernel
theorem dX7_fineParts_4 : decode cX7_fineParts 4 = .ok (.iconst 0, 1) := by decide +kernel
theorem dX7_fineParts_5 : decode cX7_fineParts 5 = .ok (.istore_n 1, 1) := by decide +kernel
theorem dX7_fineParts_6 : decode cX7_fineParts 6 = .ok (.iconst 0, 1) := by decide +kernel
theorem dX7_fineParts_7 : decode cX7_fineParts 7 = .ok (.istore_n 2, 1) := by decide +kernel
theorem dX7_fineParts_8 : decode cX7_fineParts 8 = .ok (.iload_n 2, 1) := by decide +kernel
theorem dX7_fineParts_9 : decode cX7_fineParts 9 = .ok (.aload_n 0, 1) := by decide +kernel
theorem dX7_fineParts_10 : decode cX7_fineParts 10 = .ok (.getfield 67, 3) := by decide +kernel
theorem dX7_fineParts_13 : decode cX7_fineParts 13 = .ok (.if_icmp .ge 34, 3) := by decide +kernel
theorem dX7_fineParts_16 : decode cX7_fineParts 16 = .ok (.iload_n 1, 1) := by decide +kernel
theorem dX7_fineParts_17 : decode cX7_fineParts 17 = .ok (.aload_n 0, 1) := by decide +kernel
theorem dX7_fineParts_18 : decode cX7_fineParts 18 = .ok (.iload_n 2, 1) := by decide +kernel
theorem dX7_fineParts_19 : decode cX7_fineParts 19 = .ok (.invokevirtual 123, 3) := by decide +kernel
theorem dX7_fineParts_22 : decode cX7_fineParts 22 = .ok (.ifCond .eq 16, 3) := by decide +kernel
theorem dX7_fineParts_25 : decode cX7_fineParts 25 = .ok (.aload_n 0, 1) := by decide +kernel
theorem dX7_fineParts_26 : decode cX7_fineParts 26 = .ok (.iload_n 2, 1) := by decide +kernel
theorem dX7_fineParts_27 : decode cX7_fineParts 27 = .ok (.invokevirtual 129, 3) := by decide +kernel
theorem dX7_fineParts_30 : decode cX7_fineParts 30 = .ok (.iload_n 2, 1) := by decide +kernel
theorem dX7_fineParts_31 : decode cX7_fineParts 31 = .ok (.if_icmp .ne 7, 3) := by decide +kernel
theorem dX7_fineParts_34 : decode cX7_fineParts 34 = .ok (.iconst 1, 1) := by decide +kernel
theorem dX7_fineParts_35 : decode cX7_fineParts 35 = .ok (.goto 4, 3) := by decide +kernel
theorem dX7_fineParts_38 : decode cX7_fineParts 38 = .ok (.iconst 0, 1) := by decide +kernel
theorem dX7_fineParts_39 : decode cX7_fineParts 39 = .ok (.iadd, 1) := by decide +kernel
theorem dX7_fineParts_40 : decode cX7_fineParts 40 = .ok (.istore_n 1, 1) := by decide +kernel
theorem dX7_fineParts_41 : decode cX7_fineParts 41 = .ok (.iinc 2 1, 3) := by decide +kernel
theorem dX7_fineParts_44 : decode cX7_fineParts 44 = .ok (.goto (-36), 3) := by decide +kernel
theorem dX7_fineParts_47 : decode cX7_fineParts 47 = .ok (.aload_n 0, 1) := by decide +kernel
theorem dX7_fineParts_48 : decode cX7_fineParts 48 = .ok (.iload_n 1, 1) := by decide +kernel
theorem dX7_fineParts_49 : decode cX7_fineParts 49 = .ok (.invokevirtual 77, 3) := by decide +kernel
theorem dX7_fineParts_52 : decode cX7_fineParts 52 = .ok (.ireturn, 1) := by decide +kernel
set_option maxRecDepth 20000 in
theorem ggX7_finePart_X7_isLeft : GoodIn wsX7_finePart wsX7_isLeft := goodIn_r _ [5, 6, 43, 44, 45, 46, 47, 48, 49, 50, 51, 52, 53, 54, 55, 56, 57, 58, 59, 60, 61, 62] (by decide +kernel) (by decide +kernel)
set_option maxRecDepth 20000 in
theorem gX7_finePart_X7_isLeft : GoodIn wsX7_finePart (wsV RX7 89 RX7 yX7_isLeft wsX7_isLeft) := goodIn_app (goodIn_of _ (by decide +kernel)) ggX7_finePart_X7_isLeft
set_option maxRecDepth 20000 in
theorem ggX7_finePart_X7_refused : GoodIn wsX7_finePart wsX7_refused := goodIn_r _ [10, 11, 43, 44, 45, 46, 47, 48, 49, 50, 51, 52, 53, 54, 55, 56, 57, 58, 59, 60, 61, 62] (by decide +kernel) (by decide +kernel)
set_option maxRecDepth 20000 in
theorem gX7_finePart_X7_refused : GoodIn wsX7_finePart (wsV RX7 73 RX7 yX7_refused wsX7_refused) := goodIn_app (goodIn_of _ (by decide +kernel)) ggX7_finePart_X7_refused
set_option maxRecDepth 20000 in
theorem ggX7_finePart_X7_leadAll : GoodIn wsX7_finePart wsX7_leadAll := goodIn_r _ [15, 6, 16, 17, 18, 19, 20, 4, 21, 22, 23, 24, 25, 26, 27, 28, 29, 30, 31, 32, 33, 34, 35, 36, 37, 38, 43, 44, 45, 46, 47, 48, 49, 50, 51, 52, 53, 54, 55, 56, 57, 58, 59, 60, 61, 62] (by decide +kernel) (by decide +kernel)
set_option maxRecDepth 20000 in
theorem gX7_finePart_X7_leadAll : GoodIn wsX7_finePart (wsV RX7 126 RX7 yX7_leadAll wsX7_leadAll) := goodIn_app (goodIn_of _ (by decide +kernel)) ggX7_finePart_X7_leadAll
set_option maxRecDepth 20000 in
theorem ggX7_finePart_X7_isSquare : GoodIn wsX7_finePart wsX7_isSquare := goodIn_r _ [34, 35, 36, 37, 4, 38, 22, 23, 43, 44, 45, 46, 47, 48, 49, 50, 51, 52, 53, 54, 55, 56, 57, 58, 59, 60, 61, 62] (by decide +kernel) (by decide +kernel)
set_option maxRecDepth 20000 in
theorem gX7_finePart_X7_isSquare : GoodIn wsX7_finePart (wsV RX7 123 RX7 yX7_isSquare wsX7_isSquare) := goodIn_app (goodIn_of _ (by decide +kernel)) ggX7_finePart_X7_isSquare
set_option maxRecDepth 20000 in
theorem ggX7_finePart_X7_lowest : GoodIn wsX7_finePart wsX7_lowest := goodIn_r _ [42, 16, 43, 44, 45, 46, 47, 48, 49, 50, 51, 52, 53, 54, 55, 56, 57, 58, 59, 60, 61, 62] (by decide +kernel) (by decide +kernel)
set_option maxRecDepth 20000 in
theorem gX7_finePart_X7_lowest : GoodIn wsX7_finePart (wsV RX7 129 RX7 yX7_lowest wsX7_lowest) := goodIn_app (goodIn_of _ (by decide +kernel)) ggX7_finePart_X7_lowest
theorem dX7_finePart_0 : decode cX7_finePart 0 = .ok (.aload_n 0, 1) := by decide +kernel
theorem dX7_finePart_1 : decode cX7_finePart 1 = .ok (.aload_n 0, 1) := by decide +kernel
theorem dX7_finePart_2 : decode cX7_finePart 2 = .ok (.iload_n 1, 1) := by decide +kernel
theorem dX7_finePart_3 : decode cX7_finePart 3 = .ok (.invokevirtual 89, 3) := by decide +kernel
theorem dX7_finePart_6 : decode cX7_finePart 6 = .ok (.ifCond .eq 7, 3) := by decide +kernel
theorem dX7_finePart_9 : decode cX7_finePart 9 = .ok (.iconst 0, 1) := by decide +kernel
theorem dX7_finePart_10 : decode cX7_finePart 10 = .ok (.goto 4, 3) := by decide +kernel
theorem dX7_finePart_13 : decode cX7_finePart 13 = .ok (.iconst 1, 1) := by decide +kernel
theorem dX7_finePart_14 : decode cX7_finePart 14 = .ok (.invokevirtual 73, 3) := by decide +kernel
theorem dX7_finePart_17 : decode cX7_finePart 17 = .ok (.ifCond .eq 5, 3) := by decide +kernel
theorem dX7_finePart_20 : decode cX7_finePart 20 = .ok (.iconst 0, 1) := by decide +kernel
theorem dX7_finePart_21 : decode cX7_finePart 21 = .ok (.ireturn, 1) := by decide +kernel
theorem dX7_finePart_22 : decode cX7_finePart 22 = .ok (.aload_n 0, 1) := by decide +kernel
theorem dX7_finePart_23 : decode cX7_finePart 23 = .ok (.invokevirtual 126, 3) := by decide +kernel
theorem dX7_finePart_26 : decode cX7_finePart 26 = .ok (.aload_n 0, 1) := by decide +kernel
theorem dX7_finePart_27 : decode cX7_finePart 27 = .ok (.aload_n 0, 1) := by decide +kernel
theorem dX7_finePart_28 : decode cX7_finePart 28 = .ok (.iload_n 1, 1) := by decide +kernel
theorem dX7_finePart_29 : decode cX7_finePart 29 = .ok (.invokevirtual 123, 3) := by decide +kernel
theorem dX7_finePart_32 : decode cX7_finePart 32 = .ok (.ifCond .eq 7, 3) := by decide +kernel
theorem dX7_finePart_35 : decode cX7_finePart 35 = .ok (.iconst 0, 1) := by decide +kernel
theorem dX7_finePart_36 : decode cX7_finePart 36 = .ok (.goto 4, 3) := by decide +kernel
theorem dX7_finePart_39 : decode cX7_finePart 39 = .ok (.iconst 2, 1) := by decide +kernel
theorem dX7_finePart_40 : decode cX7_finePart 40 = .ok (.invokevirtual 73, 3) := by decide +kernel
theorem dX7_finePart_43 : decode cX7_finePart 43 = .ok (.ifCond .eq 7, 3) := by decide +kernel
theorem dX7_finePart_46 : decode cX7_finePart 46 = .ok (.iconst 0, 1) := by decide +kernel
theorem dX7_finePart_47 : decode cX7_finePart 47 = .ok (.goto 8, 3) := by decide +kernel
theorem dX7_finePart_50 : decode cX7_finePart 50 = .ok (.aload_n 0, 1) := by decide +kernel
theorem dX7_finePart_51 : decode cX7_finePart 51 = .ok (.iload_n 1, 1) := by decide +kernel
theorem dX7_finePart_52 : decode cX7_finePart 52 = .ok (.invokevirtual 129, 3) := by decide +kernel
theorem dX7_finePart_55 : decode cX7_finePart 55 = .ok (.ireturn, 1) := by decide +kernel
set_option maxRecDepth 20000 in
theorem ggX7_leads_X7_isLeft : GoodIn wsX7_leads wsX7_isLeft := goodIn_r _ [6, 7, 39, 40, 41, 42, 43, 44, 45, 46, 47, 48, 49, 50, 51, 52, 53, 54, 55, 56, 57, 58] (by decide +kernel) (by decide +kernel)
set_option maxRecDepth 20000 in
theorem gX7_leads_X7_isLeft : GoodIn wsX7_leads (wsV RX7 89 RX7 yX7_isLeft wsX7_isLeft) := goodIn_app (goodIn_of _ (by decide +kernel)) ggX7_leads_X7_isLeft
set_option maxRecDepth 20000 in
theorem ggX7_leads_X7_refused : GoodIn wsX7_leads wsX7_refused := goodIn_r _ [11, 12, 39, 40, 41, 42, 43, 44, 45, 46, 47, 48, 49, 50, 51, 52, 53, 54, 55, 56, 57, 58] (by decide +kernel) (by decide +kernel)
set_option maxRecDepth 20000 in
theorem gX7_leads_X7_refused : GoodIn wsX7_leads (wsV RX7 73 RX7 yX7_refused wsX7_refused) := goodIn_app (goodIn_of _ (by decide +kernel)) ggX7_leads_X7_refused
set_option maxRecDepth 20000 in
theorem ggX7_leads_X7_leadAll : GoodIn wsX7_leads wsX7_leadAll := goodIn_r _ [16, 7, 1, 17, 18, 19, 20, 5, 21, 22, 23, 24, 25, 26, 27, 28, 29, 30, 31, 32, 33, 34, 35, 36, 37, 38, 39, 40, 41, 42, 43, 44, 45, 46, 47, 48, 49, 50, 51, 52, 53, 54, 55, 56, 57, 58] (by decide +kernel) (by decide +kernel)
set_option maxRecDepth 20000 in
theorem gX7_leads_X7_leadAll : GoodIn wsX7_leads (wsV RX7 126 RX7 yX7_leadAll wsX7_leadAll) := goodIn_app (goodIn_of _ (by decide +kernel)) ggX7_leads_X7_leadAll
set_option maxRecDepth 20000 in
theorem ggX7_leads_X7_isSquare : GoodIn wsX7_leads wsX7_isSquare := goodIn_r _ [34, 35, 36, 37, 5, 38, 22, 23, 39, 40, 41, 42, 43, 44, 45, 46, 47, 48, 49, 50, 51, 52, 53, 54, 55, 56, 57, 58] (by decide +kernel) (by decide +kernel)
set_option maxRecDepth 20000 in
theorem gX7_leads_X7_isSquare : GoodIn wsX7_leads (wsV RX7 123 RX7 yX7_isSquare wsX7_isSquare) := goodIn_app (goodIn_of _ (by decide +kernel)) ggX7_leads_X7_isSquare
theorem dX7_leads_0 : decode cX7_leads 0 = .ok (.aload_n 0, 1) := by decide +kernel
theorem dX7_leads_1 : decode cX7_leads 1 = .ok (.aload_n 0, 1) := by decide +kernel
theorem dX7_leads_2 : decode cX7_leads 2 = .ok (.iload_n 1, 1) := by decide +kernel
theorem dX7_leads_3 : decode cX7_leads 3 = .ok (.invokevirtual 89, 3) := by decide +kernel
theorem dX7_leads_6 : decode cX7_leads 6 = .ok (.ifCond .eq 15, 3) := by decide +kernel
theorem dX7_leads_9 : decode cX7_leads 9 = .ok (.aload_n 0, 1) := by decide +kernel
theorem dX7_leads_10 : decode cX7_leads 10 = .ok (.iload_n 2, 1) := by decide +kernel
theorem dX7_leads_11 : decode cX7_leads 11 = .ok (.invokevirtual 89, 3) := by decide +kernel
theorem dX7_leads_14 : decode cX7_leads 14 = .ok (.ifCond .eq 7, 3) := by decide +kernel
theorem dX7_leads_17 : decode cX7_leads 17 = .ok (.iconst 0, 1) := by decide +kernel
theorem dX7_leads_18 : decode cX7_leads 18 = .ok (.goto 4, 3) := by decide +kernel
theorem dX7_leads_21 : decode cX7_leads 21 = .ok (.iconst 1, 1) := by decide +kernel
theorem dX7_leads_22 : decode cX7_leads 22 = .ok (.invokevirtual 73, 3) := by decide +kernel
theorem dX7_leads_25 : decode cX7_leads 25 = .ok (.ifCond .eq 5, 3) := by decide +kernel
theorem dX7_leads_28 : decode cX7_leads 28 = .ok (.iconst 0, 1) := by decide +kernel
theorem dX7_leads_29 : decode cX7_leads 29 = .ok (.ireturn, 1) := by decide +kernel
theorem dX7_leads_30 : decode cX7_leads 30 = .ok (.aload_n 0, 1) := by decide +kernel
theorem dX7_leads_31 : decode cX7_leads 31 = .ok (.invokevirtual 126, 3) := by decide +kernel
theorem dX7_leads_34 : decode cX7_leads 34 = .ok (.aload_n 0, 1) := by decide +kernel
theorem dX7_leads_35 : decode cX7_leads 35 = .ok (.aload_n 0, 1) := by decide +kernel
theorem dX7_leads_36 : decode cX7_leads 36 = .ok (.iload_n 1, 1) := by decide +kernel
theorem dX7_leads_37 : decode cX7_leads 37 = .ok (.invokevirtual 123, 3) := by decide +kernel
theorem dX7_leads_40 : decode cX7_leads 40 = .ok (.ifCond .eq 15, 3) := by decide +kernel
theorem dX7_leads_43 : decode cX7_leads 43 = .ok (.aload_n 0, 1) := by decide +kernel
theorem dX7_leads_44 : decode cX7_leads 44 = .ok (.iload_n 2, 1) := by decide +kernel
theorem dX7_leads_45 : decode cX7_leads 45 = .ok (.invokevirtual 123, 3) := by decide +kernel
theorem dX7_leads_48 : decode cX7_leads 48 = .ok (.ifCond .eq 7, 3) := by decide +kernel
theorem dX7_leads_51 : decode cX7_leads 51 = .ok (.iconst 0, 1) := by decide +kernel
theorem dX7_leads_52 : decode cX7_leads 52 = .ok (.goto 4, 3) := by decide +kernel
theorem dX7_leads_55 : decode cX7_leads 55 = .ok (.iconst 2, 1) := by decide +kernel
theorem dX7_leads_56 : decode cX7_leads 56 = .ok (.invokevirtual 73, 3) := by decide +kernel
theorem dX7_leads_59 : decode cX7_leads 59 = .ok (.ifCond .ne 21, 3) := by decide +kernel
theorem dX7_leads_62 : decode cX7_leads 62 = .ok (.aload_n 0, 1) := by decide +kernel
theorem dX7_leads_63 : decode cX7_leads 63 = .ok (.getfield 56, 3) := by decide +kernel
theorem dX7_leads_66 : decode cX7_leads 66 = .ok (.bipush 12, 2) := by decide +kernel
theorem dX7_leads_68 : decode cX7_leads 68 = .ok (.iload_n 1, 1) := by decide +kernel
theorem dX7_leads_69 : decode cX7_leads 69 = .ok (.imul, 1) := by decide +kernel
theorem dX7_leads_70 : decode cX7_leads 70 = .ok (.iload_n 2, 1) := by decide +kernel
theorem dX7_leads_71 : decode cX7_leads 71 = .ok (.iadd, 1) := by decide +kernel
theorem dX7_leads_72 : decode cX7_leads 72 = .ok (.baload, 1) := by decide +kernel
theorem dX7_leads_73 : decode cX7_leads 73 = .ok (.ifCond .eq 7, 3) := by decide +kernel
theorem dX7_leads_76 : decode cX7_leads 76 = .ok (.iconst 1, 1) := by decide +kernel
theorem dX7_leads_77 : decode cX7_leads 77 = .ok (.goto 4, 3) := by decide +kernel
theorem dX7_leads_80 : decode cX7_leads 80 = .ok (.iconst 0, 1) := by decide +kernel
theorem dX7_leads_81 : decode cX7_leads 81 = .ok (.ireturn, 1) := by decide +kernel
theorem dX7_bits_0 : decode cX7_bits 0 = .ok (.iconst 0, 1) := by decide +kernel
theorem dX7_bits_1 : decode cX7_bits 1 = .ok (.istore_n 1, 1) := by decide +kernel
theorem dX7_bits_2 : decode cX7_bits 2 = .ok (.iload_n 0, 1) := by decide +kernel
theorem dX7_bits_3 : decode cX7_bits 3 = .ok (.istore_n 2, 1) := by decide +kernel
theorem dX7_bits_4 : decode cX7_bits 4 = .ok (.iload_n 2, 1) := by decide +kernel
theorem dX7_bits_5 : decode cX7_bits 5 = .ok (.ifCond .eq 15, 3) := by decide +kernel
theorem dX7_bits_8 : decode cX7_bits 8 = .ok (.iinc 1 1, 3) := by decide +kernel
theorem dX7_bits_11 : decode cX7_bits 11 = .ok (.iload_n 2, 1) := by decide +kernel
theorem dX7_bits_12 : decode cX7_bits 12 = .ok (.iload_n 2, 1) := by decide +kernel
theorem dX7_bits_13 : decode cX7_bits 13 = .ok (.iconst 1, 1) := by decide +kernel
theorem dX7_bits_14 : decode cX7_bits 14 = .ok (.isub, 1) := by decide +kernel
theorem dX7_bits_15 : decode cX7_bits 15 = .ok (.iand, 1) := by decide +kernel
theorem dX7_bits_16 : decode cX7_bits 16 = .ok (.istore_n 2, 1) := by decide +kernel
theorem dX7_bits_17 : decode cX7_bits 17 = .ok (.goto (-13), 3) := by decide +kernel
theorem dX7_bits_20 : decode cX7_bits 20 = .ok (.iload_n 1, 1) := by decide +kernel
theorem dX7_bits_21 : decode cX7_bits 21 = .ok (.ireturn, 1) := by decide +kernel
set_option maxRecDepth 20000 in
theorem ggX7_countWays_X7_isEdge : GoodIn wsX7_countWays wsX7_isEdge := goodIn_r _ [8, 9, 10, 11, 12, 13, 14, 15, 16, 17, 18, 19, 20, 21, 22, 23, 24, 25, 26, 27, 28, 29] (by decide +kernel) (by decide +kernel)
set_option maxRecDepth 20000 in
theorem gX7_countWays_X7_isEdge : GoodIn wsX7_countWays (wsV RX7 81 RX7 yX7_isEdge wsX7_isEdge) := goodIn_app (goodIn_of _ (by decide +kernel)) ggX7_countWays_X7_isEdge
theorem dX7_countWays_0 : decode cX7_countWays 0 = .ok (.iconst 0, 1) := by decide +kernel
theorem dX7_countWays_1 : decode cX7_countWays 1 = .ok (.istore 4, 2) := by decide +kernel
theorem dX7_countWays_3 : decode cX7_countWays 3 = .ok (.iload 4, 2) := by decide +kernel
theorem dX7_countWays_5 : decode cX7_countWays 5 = .ok (.sipush 4096, 3) := by decide +kernel
theorem dX7_countWays_8 : decode cX7_countWays 8 = .ok (.if_icmp .ge 26, 3) := by decide +kernel
theorem dX7_countWays_11 : decode cX7_countWays 11 = .ok (.aload_n 0, 1) := by decide +kernel
theorem dX7_countWays_12 : decode cX7_countWays 12 = .ok (.getfield 59, 3) := by decide +kernel
theorem dX7_countWays_15 : decode cX7_countWays 15 = .ok (.iload 4, 2) := by decide +kernel
theorem dX7_countWays_17 : decode cX7_countWays 17 = .ok (.iload 4, 2) := by decide +kernel
theorem dX7_countWays_19 : decode cX7_countWays 19 = .ok (.ifCond .ne 7, 3) := by decide +kernel
theorem dX7_countWays_22 : decode cX7_countWays 22 = .ok (.lconst 1, 1) := by decide +kernel
theorem dX7_countWays_23 : decode cX7_countWays 23 = .ok (.goto 4, 3) := by decide +kernel
theorem dX7_countWays_26 : decode cX7_countWays 26 = .ok (.lconst 0, 1) := by decide +kernel
theorem dX7_countWays_27 : decode cX7_countWays 27 = .ok (.lastore, 1) := by decide +kernel
theorem dX7_countWays_28 : decode cX7_countWays 28 = .ok (.iinc 4 1, 3) := by decide +kernel
theorem dX7_countWays_31 : decode cX7_countWays 31 = .ok (.goto (-28), 3) := by decide +kernel
theorem dX7_countWays_34 : decode cX7_countWays 34 = .ok (.iconst 0, 1) := by decide +kernel
theorem dX7_countWays_35 : decode cX7_countWays 35 = .ok (.istore 4, 2) := by decide +kernel
theorem dX7_countWays_37 : decode cX7_countWays 37 = .ok (.iload 4, 2) := by decide +kernel
theorem dX7_countWays_39 : decode cX7_countWays 39 = .ok (.aload_n 0, 1) := by decide +kernel
theorem dX7_countWays_40 : decode cX7_countWays 40 = .ok (.getfield 67, 3) := by decide +kernel
theorem dX7_countWays_43 : decode cX7_countWays 43 = .ok (.if_icmp .ge 134, 3) := by decide +kernel
theorem dX7_countWays_46 : decode cX7_countWays 46 = .ok (.iconst 1, 1) := by decide +kernel
theorem dX7_countWays_47 : decode cX7_countWays 47 = .ok (.aload_n 0, 1) := by decide +kernel
theorem dX7_countWays_48 : decode cX7_countWays 48 = .ok (.getfield 70, 3) := by decide +kernel
theorem dX7_countWays_51 : decode cX7_countWays 51 = .ok (.ishl, 1) := by decide +kernel
theorem dX7_countWays_52 : decode cX7_countWays 52 = .ok (.iconst 1, 1) := by decide +kernel
theorem dX7_countWays_53 : decode cX7_countWays 53 = .ok (.isub, 1) := by decide +kernel
theorem dX7_countWays_54 : decode cX7_countWays 54 = .ok (.istore 5, 2) := by decide +kernel
theorem dX7_countWays_56 : decode cX7_countWays 56 = .ok (.iload 5, 2) := by decide +kernel
theorem dX7_countWays_58 : decode cX7_countWays 58 = .ok (.ifCond .le 113, 3) := by decide +kernel
theorem dX7_countWays_61 : decode cX7_countWays 61 = .ok (.iconst 0, 1) := by decide +kernel
theorem dX7_countWays_62 : decode cX7_countWays 62 = .ok (.istore 6, 2) := by decide +kernel
theorem dX7_countWays_64 : decode cX7_countWays 64 = .ok (.iload 6, 2) := by decide +kernel
theorem dX7_countWays_66 : decode cX7_countWays 66 = .ok (.aload_n 0, 1) := by decide +kernel
theorem dX7_countWays_67 : decode cX7_countWays 67 = .ok (.getfield 70, 3) := by decide +kernel
theorem dX7_countWays_70 : decode cX7_countWays 70 = .ok (.if_icmp .ge 95, 3) := by decide +kernel
theorem dX7_countWays_73 : decode cX7_countWays 73 = .ok (.iload 5, 2) := by decide +kernel
theorem dX7_countWays_75 : decode cX7_countWays 75 = .ok (.iload 6, 2) := by decide +kernel
theorem dX7_countWays_77 : decode cX7_countWays 77 = .ok (.ishr, 1) := by decide +kernel
theorem dX7_countWays_78 : decode cX7_countWays 78 = .ok (.iconst 1, 1) := by decide +kernel
theorem dX7_countWays_79 : decode cX7_countWays 79 = .ok (.iand, 1) := by decide +kernel
theorem dX7_countWays_80 : decode cX7_countWays 80 = .ok (.iconst 1, 1) := by decide +kernel
theorem dX7_countWays_81 : decode cX7_countWays 81 = .ok (.if_icmp .ne 42, 3) := by decide +kernel
theorem dX7_countWays_84 : decode cX7_countWays 84 = .ok (.aload_n 0, 1) := by decide +kernel
theorem dX7_countWays_85 : decode cX7_countWays 85 = .ok (.iload 4, 2) := by decide +kernel
theorem dX7_countWays_87 : decode cX7_countWays 87 = .ok (.iload 6, 2) := by decide +kernel
theorem dX7_countWays_89 : decode cX7_countWays 89 = .ok (.invokevirtual 81, 3) := by decide +kernel
theorem dX7_countWays_92 : decode cX7_countWays 92 = .ok (.ifCond .eq 31, 3) := by decide +kernel
theorem dX7_countWays_95 : decode cX7_countWays 95 = .ok (.iload 4, 2) := by decide +kernel
theorem dX7_countWays_97 : decode cX7_countWays 97 = .ok (.iload_n 1, 1) := by decide +kernel
theorem dX7_countWays_98 : decode cX7_countWays 98 = .ok (.if_icmp .eq 25, 3) := by decide +kernel
theorem dX7_countWays_101 : decode cX7_countWays 101 = .ok (.iload 6, 2) := by decide +kernel
theorem dX7_countWays_103 : decode cX7_countWays 103 = .ok (.iload_n 2, 1) := by decide +kernel
theorem dX7_countWays_104 : decode cX7_countWays 104 = .ok (.if_icmp .eq 19, 3) := by decide +kernel
theorem dX7_countWays_107 : decode cX7_countWays 107 = .ok (.bipush 12, 2) := by decide +kernel
theorem dX7_countWays_109 : decode cX7_countWays 109 = .ok (.iload 4, 2) := by decide +kernel
theorem dX7_countWays_111 : decode cX7_countWays 111 = .ok (.imul, 1) := by decide +kernel
theorem dX7_countWays_112 : decode cX7_countWays 112 = .ok (.iload 6, 2) := by decide +kernel
theorem dX7_countWays_114 : decode cX7_countWays 114 = .ok (.iadd, 1) := by decide +kernel
theorem dX7_countWays_115 : decode cX7_countWays 115 = .ok (.iload_n 3, 1) := by decide +kernel
theorem dX7_countWays_116 : decode cX7_countWays 116 = .ok (.if_icmp .eq 7, 3) := by decide +kernel
theorem dX7_countWays_119 : decode cX7_countWays 119 = .ok (.iconst 1, 1) := by decide +kernel
theorem dX7_countWays_120 : decode cX7_countWays 120 = .ok (.goto 4, 3) := by decide +kernel
theorem dX7_countWays_123 : decode cX7_countWays 123 = .ok (.iconst 0, 1) := by decide +kernel
theorem dX7_countWays_124 : decode cX7_countWays 124 = .ok (.istore 7, 2) := by decide +kernel
theorem dX7_countWays_126 : decode cX7_countWays 126 = .ok (.aload_n 0, 1) := by decide +kernel
theorem dX7_countWays_127 : decode cX7_countWays 127 = .ok (.getfield 59, 3) := by decide +kernel
theorem dX7_countWays_130 : decode cX7_countWays 130 = .ok (.iload 5, 2) := by decide +kernel
theorem dX7_countWays_132 : decode cX7_countWays 132 = .ok (.dup2, 1) := by decide +kernel
theorem dX7_countWays_133 : decode cX7_countWays 133 = .ok (.laload, 1) := by decide +kernel
theorem dX7_countWays_134 : decode cX7_countWays 134 = .ok (.iload 7, 2) := by decide +kernel
theorem dX7_countWays_136 : decode cX7_countWays 136 = .ok (.ifCond .eq 20, 3) := by decide +kernel
theorem dX7_countWays_139 : decode cX7_countWays 139 = .ok (.aload_n 0, 1) := by decide +kernel
theorem dX7_countWays_140 : decode cX7_countWays 140 = .ok (.getfield 59, 3) := by decide +kernel
theorem dX7_countWays_143 : decode cX7_countWays 143 = .ok (.iload 5, 2) := by decide +kernel
theorem dX7_countWays_145 : decode cX7_countWays 145 = .ok (.iconst 1, 1) := by decide +kernel
theorem dX7_countWays_146 : decode cX7_countWays 146 = .ok (.iload 6, 2) := by decide +kernel
theorem dX7_countWays_148 : decode cX7_countWays 148 = .ok (.ishl, 1) := by decide +kernel
theorem dX7_countWays_149 : decode cX7_countWays 149 = .ok (.iconst (-1), 1) := by decide +kernel
theorem dX7_countWays_150 : decode cX7_countWays 150 = .ok (.ixor, 1) := by decide +kernel
theorem dX7_countWays_151 : decode cX7_countWays 151 = .ok (.iand, 1) := by decide +kernel
theorem dX7_countWays_152 : decode cX7_countWays 152 = .ok (.laload, 1) := by decide +kernel
theorem dX7_countWays_153 : decode cX7_countWays 153 = .ok (.goto 4, 3) := by decide +kernel
theorem dX7_countWays_156 : decode cX7_countWays 156 = .ok (.lconst 0, 1) := by decide +kernel
theorem dX7_countWays_157 : decode cX7_countWays 157 = .ok (.ladd, 1) := by decide +kernel
theorem dX7_countWays_158 : decode cX7_countWays 158 = .ok (.lastore, 1) := by decide +kernel
theorem dX7_countWays_159 : decode cX7_countWays 159 = .ok (.iinc 6 1, 3) := by decide +kernel
theorem dX7_countWays_162 : decode cX7_countWays 162 = .ok (.goto (-98), 3) := by decide +kernel
theorem dX7_countWays_165 : decode cX7_countWays 165 = .ok (.iinc 5 (-1), 3) := by decide +kernel
theorem dX7_countWays_168 : decode cX7_countWays 168 = .ok (.goto (-112), 3) := by decide +kernel
theorem dX7_countWays_171 : decode cX7_countWays 171 = .ok (.iinc 4 1, 3) := by decide +kernel
theorem dX7_countWays_174 : decode cX7_countWays 174 = .ok (.goto (-137), 3) := by decide +kernel
theorem dX7_countWays_177 : decode cX7_countWays 177 = .ok (.return_, 1) := by decide +kernel
set_option maxRecDepth 20000 in
theorem ggX7_most_X7_bits : GoodIn wsX7_most wsX7_bits := goodIn_r _ [6] (by decide +kernel) (by decide +kernel)
set_option maxRecDepth 20000 in
theorem gX7_most_X7_bits : GoodIn wsX7_most (va_wsS RX7 132 yX7_bits wsX7_bits) := goodIn_app (goodIn_of _ (by decide +kernel)) ggX7_most_X7_bits
theorem dX7_most_0 : decode cX7_most 0 = .ok (.iconst 0, 1) := by decide +kernel
theorem dX7_most_1 : decode cX7_most 1 = .ok (.istore_n 1, 1) := by decide +kernel
theorem dX7_most_2 : decode cX7_most 2 = .ok (.iconst 0, 1) := by decide +kernel
theorem dX7_most_3 : decode cX7_most 3 = .ok (.istore_n 2, 1) := by decide +kernel
theorem dX7_most_4 : decode cX7_most 4 = .ok (.iload_n 2, 1) := by decide +kernel
theorem dX7_most_5 : decode cX7_most 5 = .ok (.iconst 1, 1) := by decide +kernel
theorem dX7_most_6 : decode cX7_most 6 = .ok (.aload_n 0, 1) := by decide +kernel
theorem dX7_most_7 : decode cX7_most 7 = .ok (.getfield 70, 3) := by decide +kernel
theorem dX7_most_10 : decode cX7_most 10 = .ok (.ishl, 1) := by decide +kernel
theorem dX7_most_11 : decode cX7_most 11 = .ok (.if_icmp .ge 37, 3) := by decide +kernel
theorem dX7_most_14 : decode cX7_most 14 = .ok (.aload_n 0, 1) := by decide +kernel
theorem dX7_most_15 : decode cX7_most 15 = .ok (.getfield 59, 3) := by decide +kernel
theorem dX7_most_18 : decode cX7_most 18 = .ok (.iload_n 2, 1) := by decide +kernel
theorem dX7_most_19 : decode cX7_most 19 = .ok (.laload, 1) := by decide +kernel
theorem dX7_most_20 : decode cX7_most 20 = .ok (.lconst 0, 1) := by decide +kernel
theorem dX7_most_21 : decode cX7_most 21 = .ok (.lcmp, 1) := by decide +kernel
theorem dX7_most_22 : decode cX7_most 22 = .ok (.ifCond .le 18, 3) := by decide +kernel
theorem dX7_most_25 : decode cX7_most 25 = .ok (.iload_n 2, 1) := by decide +kernel
theorem dX7_most_26 : decode cX7_most 26 = .ok (.invokestatic 132, 3) := by decide +kernel
theorem dX7_most_29 : decode cX7_most 29 = .ok (.iload_n 1, 1) := by decide +kernel
theorem dX7_most_30 : decode cX7_most 30 = .ok (.if_icmp .le 10, 3) := by decide +kernel
theorem dX7_most_33 : decode cX7_most 33 = .ok (.iload_n 2, 1) := by decide +kernel
theorem dX7_most_34 : decode cX7_most 34 = .ok (.invokestatic 132, 3) := by decide +kernel
theorem dX7_most_37 : decode cX7_most 37 = .ok (.goto 4, 3) := by decide +kernel
theorem dX7_most_40 : decode cX7_most 40 = .ok (.iload_n 1, 1) := by decide +kernel
theorem dX7_most_41 : decode cX7_most 41 = .ok (.istore_n 1, 1) := by decide +kernel
theorem dX7_most_42 : decode cX7_most 42 = .ok (.iinc 2 1, 3) := by decide +kernel
theorem dX7_most_45 : decode cX7_most 45 = .ok (.goto (-41), 3) := by decide +kernel
theorem dX7_most_48 : decode cX7_most 48 = .ok (.iload_n 1, 1) := by decide +kernel
theorem dX7_most_49 : decode cX7_most 49 = .ok (.ireturn, 1) := by decide +kernel
set_option maxRecDepth 20000 in
theorem ggX7_isInSome_X7_noEdge : GoodIn wsX7_isInSome wsX7_noEdge := goodIn_r _ [5, 6, 7, 8, 4, 9, 10, 11, 12, 13, 14, 15, 16, 17, 18, 19, 20, 21, 22, 23, 24, 25, 43, 44, 45, 46, 47, 48, 49, 50, 51, 52, 53, 54, 55, 56, 57, 58, 59, 60, 61, 62] (by decide +kernel) (by decide +kernel)
set_option maxRecDepth 20000 in
theorem gX7_isInSome_X7_noEdge : GoodIn wsX7_isInSome (wsV RX7 102 RX7 yX7_noEdge wsX7_noEdge) := goodIn_app (goodIn_of _ (by decide +kernel)) ggX7_isInSome_X7_noEdge
set_option maxRecDepth 20000 in
theorem ggX7_isInSome_X7_countWays : GoodIn wsX7_isInSome wsX7_countWays := goodIn_r _ [29, 30, 10, 15, 16, 17, 18, 4, 19, 20, 43, 44, 45, 46, 47, 48, 49, 50, 51, 52, 53, 54, 55, 56, 57, 58, 59, 60, 61, 62] (by decide +kernel) (by decide +kernel)
set_option maxRecDepth 20000 in
theorem gX7_isInSome_X7_countWays : GoodIn wsX7_isInSome (wsV RX7 135 RX7 yX7_countWays wsX7_countWays) := goodIn_app (goodIn_of _ (by decide +kernel)) ggX7_isInSome_X7_countWays
set_option maxRecDepth 20000 in
theorem ggX7_isInSome_X7_most : GoodIn wsX7_isInSome wsX7_most := goodIn_r _ [34, 15, 30, 35, 36, 4, 37, 43, 44, 45, 46, 47, 48, 49, 50, 51, 52, 53, 54, 55, 56, 57, 58, 59, 60, 61, 62] (by decide +kernel) (by decide +kernel)
set_option maxRecDepth 20000 in
theorem gX7_isInSome_X7_most : GoodIn wsX7_isInSome (wsV RX7 139 RX7 yX7_most wsX7_most) := goodIn_app (goodIn_of _ (by decide +kernel)) ggX7_isInSome_X7_most
set_option maxRecDepth 20000 in
theorem ggX7_isInSome_X7_matched : GoodIn wsX7_isInSome wsX7_matched := goodIn_r _ [41, 10, 42, 43, 44, 45, 46, 47, 48, 49, 50, 51, 52, 53, 54, 55, 56, 57, 58, 59, 60, 61, 62] (by decide +kernel) (by decide +kernel)
set_option maxRecDepth 20000 in
theorem gX7_isInSome_X7_matched : GoodIn wsX7_isInSome (wsV RX7 95 RX7 yX7_matched wsX7_matched) := goodIn_app (goodIn_of _ (by decide +kernel)) ggX7_isInSome_X7_matched
theorem dX7_isInSome_0 : decode cX7_isInSome 0 = .ok (.aload_n 0, 1) := by decide +kernel
theorem dX7_isInSome_1 : decode cX7_isInSome 1 = .ok (.iload_n 1, 1) := by decide +kernel
theorem dX7_isInSome_2 : decode cX7_isInSome 2 = .ok (.iload_n 2, 1) := by decide +kernel
theorem dX7_isInSome_3 : decode cX7_isInSome 3 = .ok (.invokevirtual 102, 3) := by decide +kernel
theorem dX7_isInSome_6 : decode cX7_isInSome 6 = .ok (.ifCond .eq 5, 3) := by decide +kernel
theorem dX7_isInSome_9 : decode cX7_isInSome 9 = .ok (.iconst 0, 1) := by decide +kernel
theorem dX7_isInSome_10 : decode cX7_isInSome 10 = .ok (.ireturn, 1) := by decide +kernel
theorem dX7_isInSome_11 : decode cX7_isInSome 11 = .ok (.aload_n 0, 1) := by decide +kernel
theorem dX7_isInSome_12 : decode cX7_isInSome 12 = .ok (.iload_n 1, 1) := by decide +kernel
theorem dX7_isInSome_13 : decode cX7_isInSome 13 = .ok (.iload_n 2, 1) := by decide +kernel
theorem dX7_isInSome_14 : decode cX7_isInSome 14 = .ok (.iconst (-1), 1) := by decide +kernel
theorem dX7_isInSome_15 : decode cX7_isInSome 15 = .ok (.invokevirtual 135, 3) := by decide +kernel
theorem dX7_isInSome_18 : decode cX7_isInSome 18 = .ok (.aload_n 0, 1) := by decide +kernel
theorem dX7_isInSome_19 : decode cX7_isInSome 19 = .ok (.invokevirtual 139, 3) := by decide +kernel
theorem dX7_isInSome_22 : decode cX7_isInSome 22 = .ok (.iconst 1, 1) := by decide +kernel
theorem dX7_isInSome_23 : decode cX7_isInSome 23 = .ok (.iadd, 1) := by decide +kernel
theorem dX7_isInSome_24 : decode cX7_isInSome 24 = .ok (.aload_n 0, 1) := by decide +kernel
theorem dX7_isInSome_25 : decode cX7_isInSome 25 = .ok (.invokevirtual 95, 3) := by decide +kernel
theorem dX7_isInSome_28 : decode cX7_isInSome 28 = .ok (.if_icmp .ne 7, 3) := by decide +kernel
theorem dX7_isInSome_31 : decode cX7_isInSome 31 = .ok (.iconst 1, 1) := by decide +kernel
theorem dX7_isInSome_32 : decode cX7_isInSome 32 = .ok (.goto 4, 3) := by decide +kernel
theorem dX7_isInSome_35 : decode cX7_isInSome 35 = .ok (.iconst 0, 1) := by decide +kernel
theorem dX7_isInSome_36 : decode cX7_isInSome 36 = .ok (.ireturn, 1) := by decide +kernel
set_option maxRecDepth 20000 in
theorem ggX7_isInAll_X7_noEdge : GoodIn wsX7_isInAll wsX7_noEdge := goodIn_r _ [5, 6, 7, 8, 4, 9, 10, 11, 12, 13, 14, 15, 16, 17, 18, 19, 20, 21, 22, 23, 24, 25, 43, 44, 45, 46, 47, 48, 49, 50, 51, 52, 53, 54, 55, 56, 57, 58, 59, 60, 61, 62] (by decide +kernel) (by decide +kernel)
set_option maxRecDepth 20000 in
theorem gX7_isInAll_X7_noEdge : GoodIn wsX7_isInAll (wsV RX7 102 RX7 yX7_noEdge wsX7_noEdge) := goodIn_app (goodIn_of _ (by decide +kernel)) ggX7_isInAll_X7_noEdge
set_option maxRecDepth 20000 in
theorem ggX7_isInAll_X7_countWays : GoodIn wsX7_isInAll wsX7_countWays := goodIn_r _ [29, 30, 10, 15, 16, 17, 18, 4, 19, 20, 43, 44, 45, 46, 47, 48, 49, 50, 51, 52, 53, 54, 55, 56, 57, 58, 59, 60, 61, 62] (by decide +kernel) (by decide +kernel)
set_option maxRecDepth 20000 in
theorem gX7_isInAll_X7_countWays : GoodIn wsX7_isInAll (wsV RX7 135 RX7 yX7_countWays wsX7_countWays) := goodIn_app (goodIn_of _ (by decide +kernel)) ggX7_isInAll_X7_countWays
set_option maxRecDepth 20000 in
theorem ggX7_isInAll_X7_most : GoodIn wsX7_isInAll wsX7_most := goodIn_r _ [34, 15, 30, 35, 36, 4, 37, 43, 44, 45, 46, 47, 48, 49, 50, 51, 52, 53, 54, 55, 56, 57, 58, 59, 60, 61, 62] (by decide +kernel) (by decide +kernel)
set_option maxRecDepth 20000 in
theorem gX7_isInAll_X7_most : GoodIn wsX7_isInAll (wsV RX7 139 RX7 yX7_most wsX7_most) := goodIn_app (goodIn_of _ (by decide +kernel)) ggX7_isInAll_X7_most
set_option maxRecDepth 20000 in
theorem ggX7_isInAll_X7_matched : GoodIn wsX7_isInAll wsX7_matched := goodIn_r _ [41, 10, 42, 43, 44, 45, 46, 47, 48, 49, 50, 51, 52, 53, 54, 55, 56, 57, 58, 59, 60, 61, 62] (by decide +kernel) (by decide +kernel)
set_option maxRecDepth 20000 in
theorem gX7_isInAll_X7_matched : GoodIn wsX7_isInAll (wsV RX7 95 RX7 yX7_matched wsX7_matched) := goodIn_app (goodIn_of _ (by decide +kernel)) ggX7_isInAll_X7_matched
theorem dX7_isInAll_0 : decode cX7_isInAll 0 = .ok (.aload_n 0, 1) := by decide +kernel
theorem dX7_isInAll_1 : decode cX7_isInAll 1 = .ok (.iload_n 1, 1) := by decide +kernel
theorem dX7_isInAll_2 : decode cX7_isInAll 2 = .ok (.iload_n 2, 1) := by decide +kernel
theorem dX7_isInAll_3 : decode cX7_isInAll 3 = .ok (.invokevirtual 102, 3) := by decide +kernel
theorem dX7_isInAll_6 : decode cX7_isInAll 6 = .ok (.ifCond .eq 5, 3) := by decide +kernel
theorem dX7_isInAll_9 : decode cX7_isInAll 9 = .ok (.iconst 0, 1) := by decide +kernel
theorem dX7_isInAll_10 : decode cX7_isInAll 10 = .ok (.ireturn, 1) := by decide +kernel
theorem dX7_isInAll_11 : decode cX7_isInAll 11 = .ok (.aload_n 0, 1) := by decide +kernel
theorem dX7_isInAll_12 : decode cX7_isInAll 12 = .ok (.iconst (-1), 1) := by decide +kernel
theorem dX7_isInAll_13 : decode cX7_isInAll 13 = .ok (.iconst (-1), 1) := by decide +kernel
theorem dX7_isInAll_14 : decode cX7_isInAll 14 = .ok (.bipush 12, 2) := by decide +kernel
theorem dX7_isInAll_16 : decode cX7_isInAll 16 = .ok (.iload_n 1, 1) := by decide +kernel
theorem dX7_isInAll_17 : decode cX7_isInAll 17 = .ok (.imul, 1) := by decide +kernel
theorem dX7_isInAll_18 : decode cX7_isInAll 18 = .ok (.iload_n 2, 1) := by decide +kernel
theorem dX7_isInAll_19 : decode cX7_isInAll 19 = .ok (.iadd, 1) := by decide +kernel
theorem dX7_isInAll_20 : decode cX7_isInAll 20 = .ok (.invokevirtual 135, 3) := by decide +kernel
theorem dX7_isInAll_23 : decode cX7_isInAll 23 = .ok (.aload_n 0, 1) := by decide +kernel
theorem dX7_isInAll_24 : decode cX7_isInAll 24 = .ok (.invokevirtual 139, 3) := by decide +kernel
theorem dX7_isInAll_27 : decode cX7_isInAll 27 = .ok (.aload_n 0, 1) := by decide +kernel
theorem dX7_isInAll_28 : decode cX7_isInAll 28 = .ok (.invokevirtual 95, 3) := by decide +kernel
theorem dX7_isInAll_31 : decode cX7_isInAll 31 = .ok (.if_icmp .ge 7, 3) := by decide +kernel
theorem dX7_isInAll_34 : decode cX7_isInAll 34 = .ok (.iconst 1, 1) := by decide +kernel
theorem dX7_isInAll_35 : decode cX7_isInAll 35 = .ok (.goto 4, 3) := by decide +kernel
theorem dX7_isInAll_38 : decode cX7_isInAll 38 = .ok (.iconst 0, 1) := by decide +kernel
theorem dX7_isInAll_39 : decode cX7_isInAll 39 = .ok (.ireturn, 1) := by decide +kernel
set_option maxRecDepth 20000 in
theorem ggX7_largestMatchings_X7_countWays : GoodIn wsX7_largestMatchings wsX7_countWays := goodIn_r _ [8, 3, 9, 2, 10, 11, 12, 7, 13, 14, 22, 23, 24, 25, 26, 27, 28, 29, 30, 31, 32, 33, 34, 35, 36, 37, 38, 39, 40, 41] (by decide +kernel) (by decide +kernel)
set_option maxRecDepth 20000 in
theorem gX7_largestMatchings_X7_countWays : GoodIn wsX7_largestMatchings (wsV RX7 135 RX7 yX7_countWays wsX7_countWays) := goodIn_app (goodIn_of _ (by decide +kernel)) ggX7_largestMatchings_X7_countWays
set_option maxRecDepth 20000 in
theorem ggX7_largestMatchings_X7_most : GoodIn wsX7_largestMatchings wsX7_most := goodIn_r _ [18, 2, 3, 19, 20, 7, 21, 22, 23, 24, 25, 26, 27, 28, 29, 30, 31, 32, 33, 34, 35, 36, 37, 38, 39, 40, 41] (by decide +kernel) (by decide +kernel)
set_option maxRecDepth 20000 in
theorem gX7_largestMatchings_X7_most : GoodIn wsX7_largestMatchings (wsV RX7 139 RX7 yX7_most wsX7_most) := goodIn_app (goodIn_of _ (by decide +kernel)) ggX7_largestMatchings_X7_most
set_option maxRecDepth 20000 in
theorem ggX7_largestMatchings_X7_bits : GoodIn wsX7_largestMatchings wsX7_bits := goodIn_r _ [21] (by decide +kernel) (by decide +kernel)
set_option maxRecDepth 20000 in
theorem gX7_largestMatchings_X7_bits : GoodIn wsX7_largestMatchings (va_wsS RX7 132 yX7_bits wsX7_bits) := goodIn_app (goodIn_of _ (by decide +kernel)) ggX7_largestMatchings_X7_bits
theorem dX7_largestMatchings_0 : decode cX7_largestMatchings 0 = .ok (.aload_n 0, 1) := by decide +kernel
theorem dX7_largestMatchings_1 : decode cX7_largestMatchings 1 = .ok (.iconst 0, 1) := by decide +kernel
theorem dX7_largestMatchings_2 : decode cX7_largestMatchings 2 = .ok (.putfield 63, 3) := by decide +kernel
theorem dX7_largestMatchings_5 : decode cX7_largestMatchings 5 = .ok (.aload_n 0, 1) := by decide +kernel
theorem dX7_largestMatchings_6 : decode cX7_largestMatchings 6 = .ok (.iconst (-1), 1) := by decide +kernel
theorem dX7_largestMatchings_7 : decode cX7_largestMatchings 7 = .ok (.iconst (-1), 1) := by decide +kernel
theorem dX7_largestMatchings_8 : decode cX7_largestMatchings 8 = .ok (.iconst (-1), 1) := by decide +kernel
theorem dX7_largestMatchings_9 : decode cX7_largestMatchings 9 = .ok (.invokevirtual 135, 3) := by decide +kernel
theorem dX7_largestMatchings_12 : decode cX7_largestMatchings 12 = .ok (.aload_n 0, 1) := by decide +kernel
theorem dX7_largestMatchings_13 : decode cX7_largestMatchings 13 = .ok (.invokevirtual 139, 3) := by decide +kernel
theorem dX7_largestMatchings_16 : decode cX7_largestMatchings 16 = .ok (.istore_n 1, 1) := by decide +kernel
theorem dX7_largestMatchings_17 : decode cX7_largestMatchings 17 = .ok (.lconst 0, 1) := by decide +kernel
theorem dX7_largestMatchings_18 : decode cX7_largestMatchings 18 = .ok (.lstore_n 2, 1) := by decide +kernel
theorem dX7_largestMatchings_19 : decode cX7_largestMatchings 19 = .ok (.iconst 0, 1) := by decide +kernel
theorem dX7_largestMatchings_20 : decode cX7_largestMatchings 20 = .ok (.istore 4, 2) := by decide +kernel
theorem dX7_largestMatchings_22 : decode cX7_largestMatchings 22 = .ok (.iload 4, 2) := by decide +kernel
theorem dX7_largestMatchings_24 : decode cX7_largestMatchings 24 = .ok (.iconst 1, 1) := by decide +kernel
theorem dX7_largestMatchings_25 : decode cX7_largestMatchings 25 = .ok (.aload_n 0, 1) := by decide +kernel
theorem dX7_largestMatchings_26 : decode cX7_largestMatchings 26 = .ok (.getfield 70, 3) := by decide +kernel
theorem dX7_largestMatchings_29 : decode cX7_largestMatchings 29 = .ok (.ishl, 1) := by decide +kernel
theorem dX7_largestMatchings_30 : decode cX7_largestMatchings 30 = .ok (.if_icmp .ge 32, 3) := by decide +kernel
theorem dX7_largestMatchings_33 : decode cX7_largestMatchings 33 = .ok (.lload_n 2, 1) := by decide +kernel
theorem dX7_largestMatchings_34 : decode cX7_largestMatchings 34 = .ok (.iload 4, 2) := by decide +kernel
theorem dX7_largestMatchings_36 : decode cX7_largestMatchings 36 = .ok (.invokestatic 132, 3) := by decide +kernel
theorem dX7_largestMatchings_39 : decode cX7_largestMatchings 39 = .ok (.iload_n 1, 1) := by decide +kernel
theorem dX7_largestMatchings_40 : decode cX7_largestMatchings 40 = .ok (.if_icmp .ne 13, 3) := by decide +kernel
theorem dX7_largestMatchings_43 : decode cX7_largestMatchings 43 = .ok (.aload_n 0, 1) := by decide +kernel
theorem dX7_largestMatchings_44 : decode cX7_largestMatchings 44 = .ok (.getfield 59, 3) := by decide +kernel
theorem dX7_largestMatchings_47 : decode cX7_largestMatchings 47 = .ok (.iload 4, 2) := by decide +kernel
theorem dX7_largestMatchings_49 : decode cX7_largestMatchings 49 = .ok (.laload, 1) := by decide +kernel
theorem dX7_largestMatchings_50 : decode cX7_largestMatchings 50 = .ok (.goto 4, 3) := by decide +kernel
theorem dX7_largestMatchings_53 : decode cX7_largestMatchings 53 = .ok (.lconst 0, 1) := by decide +kernel
theorem dX7_largestMatchings_54 : decode cX7_largestMatchings 54 = .ok (.ladd, 1) := by decide +kernel
theorem dX7_largestMatchings_55 : decode cX7_largestMatchings 55 = .ok (.lstore_n 2, 1) := by decide +kernel
theorem dX7_largestMatchings_56 : decode cX7_largestMatchings 56 = .ok (.iinc 4 1, 3) := by decide +kernel
theorem dX7_largestMatchings_59 : decode cX7_largestMatchings 59 = .ok (.goto (-37), 3) := by decide +kernel
theorem dX7_largestMatchings_62 : decode cX7_largestMatchings 62 = .ok (.lload_n 2, 1) := by decide +kernel
theorem dX7_largestMatchings_63 : decode cX7_largestMatchings 63 = .ok (.lreturn, 1) := by decide +kernel
set_option maxRecDepth 20000 in
theorem ggX7_coversLeft_X7_isLeft : GoodIn wsX7_coversLeft wsX7_isLeft := goodIn_r _ [6, 7, 26, 27, 28, 29, 30, 31, 32, 33, 34, 35, 36, 37, 38, 39, 40, 41, 42, 43, 44, 45] (by decide +kernel) (by decide +kernel)
set_option maxRecDepth 20000 in
theorem gX7_coversLeft_X7_isLeft : GoodIn wsX7_coversLeft (wsV RX7 89 RX7 yX7_isLeft wsX7_isLeft) := goodIn_app (goodIn_of _ (by decide +kernel)) ggX7_coversLeft_X7_isLeft
set_option maxRecDepth 20000 in
theorem ggX7_coversLeft_X7_refused : GoodIn wsX7_coversLeft wsX7_refused := goodIn_r _ [11, 12, 26, 27, 28, 29, 30, 31, 32, 33, 34, 35, 36, 37, 38, 39, 40, 41, 42, 43, 44, 45] (by decide +kernel) (by decide +kernel)
set_option maxRecDepth 20000 in
theorem gX7_coversLeft_X7_refused : GoodIn wsX7_coversLeft (wsV RX7 73 RX7 yX7_refused wsX7_refused) := goodIn_app (goodIn_of _ (by decide +kernel)) ggX7_coversLeft_X7_refused
set_option maxRecDepth 20000 in
theorem ggX7_coversLeft_X7_reachHeavy : GoodIn wsX7_coversLeft wsX7_reachHeavy := goodIn_r _ [16, 1, 7, 17, 18, 19, 20, 21, 22, 23, 5, 24, 25, 26, 27, 28, 29, 30, 31, 32, 33, 34, 35, 36, 37, 38, 39, 40, 41, 42, 43, 44, 45] (by decide +kernel) (by decide +kernel)
set_option maxRecDepth 20000 in
theorem gX7_coversLeft_X7_reachHeavy : GoodIn wsX7_coversLeft (wsV RX7 117 RX7 yX7_reachHeavy wsX7_reachHeavy) := goodIn_app (goodIn_of _ (by decide +kernel)) ggX7_coversLeft_X7_reachHeavy
theorem dX7_coversLeft_0 : decode cX7_coversLeft 0 = .ok (.aload_n 0, 1) := by decide +kernel
theorem dX7_coversLeft_1 : decode cX7_coversLeft 1 = .ok (.aload_n 0, 1) := by decide +kernel
theorem dX7_coversLeft_2 : decode cX7_coversLeft 2 = .ok (.iload_n 1, 1) := by decide +kernel
theorem dX7_coversLeft_3 : decode cX7_coversLeft 3 = .ok (.invokevirtual 89, 3) := by decide +kernel
theorem dX7_coversLeft_6 : decode cX7_coversLeft 6 = .ok (.ifCond .eq 7, 3) := by decide +kernel
theorem dX7_coversLeft_9 : decode cX7_coversLeft 9 = .ok (.iconst 0, 1) := by decide +kernel
theorem dX7_coversLeft_10 : decode cX7_coversLeft 10 = .ok (.goto 4, 3) := by decide +kernel
theorem dX7_coversLeft_13 : decode cX7_coversLeft 13 = .ok (.iconst 1, 1) := by decide +kernel
theorem dX7_coversLeft_14 : decode cX7_coversLeft 14 = .ok (.invokevirtual 73, 3) := by decide +kernel
theorem dX7_coversLeft_17 : decode cX7_coversLeft 17 = .ok (.ifCond .eq 5, 3) := by decide +kernel
theorem dX7_coversLeft_20 : decode cX7_coversLeft 20 = .ok (.iconst 0, 1) := by decide +kernel
theorem dX7_coversLeft_21 : decode cX7_coversLeft 21 = .ok (.ireturn, 1) := by decide +kernel
theorem dX7_coversLeft_22 : decode cX7_coversLeft 22 = .ok (.aload_n 0, 1) := by decide +kernel
theorem dX7_coversLeft_23 : decode cX7_coversLeft 23 = .ok (.invokevirtual 117, 3) := by decide +kernel
theorem dX7_coversLeft_26 : decode cX7_coversLeft 26 = .ok (.aload_n 0, 1) := by decide +kernel
theorem dX7_coversLeft_27 : decode cX7_coversLeft 27 = .ok (.getfield 50, 3) := by decide +kernel
theorem dX7_coversLeft_30 : decode cX7_coversLeft 30 = .ok (.iload_n 1, 1) := by decide +kernel
theorem dX7_coversLeft_31 : decode cX7_coversLeft 31 = .ok (.baload, 1) := by decide +kernel
theorem dX7_coversLeft_32 : decode cX7_coversLeft 32 = .ok (.ifCond .ne 7, 3) := by decide +kernel
theorem dX7_coversLeft_35 : decode cX7_coversLeft 35 = .ok (.iconst 1, 1) := by decide +kernel
theorem dX7_coversLeft_36 : decode cX7_coversLeft 36 = .ok (.goto 4, 3) := by decide +kernel
theorem dX7_coversLeft_39 : decode cX7_coversLeft 39 = .ok (.iconst 0, 1) := by decide +kernel
theorem dX7_coversLeft_40 : decode cX7_coversLeft 40 = .ok (.ireturn, 1) := by decide +kernel
set_option maxRecDepth 20000 in
theorem ggX7_coversRight_X7_isRight : GoodIn wsX7_coversRight wsX7_isRight := goodIn_r _ [6, 7, 26, 27, 28, 29, 30, 31, 32, 33, 34, 35, 36, 37, 38, 39, 40, 41, 42, 43, 44, 45] (by decide +kernel) (by decide +kernel)
set_option maxRecDepth 20000 in
theorem gX7_coversRight_X7_isRight : GoodIn wsX7_coversRight (wsV RX7 92 RX7 yX7_isRight wsX7_isRight) := goodIn_app (goodIn_of _ (by decide +kernel)) ggX7_coversRight_X7_isRight
set_option maxRecDepth 20000 in
theorem ggX7_coversRight_X7_refused : GoodIn wsX7_coversRight wsX7_refused := goodIn_r _ [11, 12, 26, 27, 28, 29, 30, 31, 32, 33, 34, 35, 36, 37, 38, 39, 40, 41, 42, 43, 44, 45] (by decide +kernel) (by decide +kernel)
set_option maxRecDepth 20000 in
theorem gX7_coversRight_X7_refused : GoodIn wsX7_coversRight (wsV RX7 73 RX7 yX7_refused wsX7_refused) := goodIn_app (goodIn_of _ (by decide +kernel)) ggX7_coversRight_X7_refused
set_option maxRecDepth 20000 in
theorem ggX7_coversRight_X7_reachHeavy : GoodIn wsX7_coversRight wsX7_reachHeavy := goodIn_r _ [16, 1, 17, 18, 19, 7, 20, 21, 22, 23, 5, 24, 25, 26, 27, 28, 29, 30, 31, 32, 33, 34, 35, 36, 37, 38, 39, 40, 41, 42, 43, 44, 45] (by decide +kernel) (by decide +kernel)
set_option maxRecDepth 20000 in
theorem gX7_coversRight_X7_reachHeavy : GoodIn wsX7_coversRight (wsV RX7 117 RX7 yX7_reachHeavy wsX7_reachHeavy) := goodIn_app (goodIn_of _ (by decide +kernel)) ggX7_coversRight_X7_reachHeavy
theorem dX7_coversRight_0 : decode cX7_coversRight 0 = .ok (.aload_n 0, 1) := by decide +kernel
theorem dX7_coversRight_1 : decode cX7_coversRight 1 = .ok (.aload_n 0, 1) := by decide +kernel
theorem dX7_coversRight_2 : decode cX7_coversRight 2 = .ok (.iload_n 1, 1) := by decide +kernel
theorem dX7_coversRight_3 : decode cX7_coversRight 3 = .ok (.invokevirtual 92, 3) := by decide +kernel
theorem dX7_coversRight_6 : decode cX7_coversRight 6 = .ok (.ifCond .eq 7, 3) := by decide +kernel
theorem dX7_coversRight_9 : decode cX7_coversRight 9 = .ok (.iconst 0, 1) := by decide +kernel
theorem dX7_coversRight_10 : decode cX7_coversRight 10 = .ok (.goto 4, 3) := by decide +kernel
theorem dX7_coversRight_13 : decode cX7_coversRight 13 = .ok (.iconst 1, 1) := by decide +kernel
theorem dX7_coversRight_14 : decode cX7_coversRight 14 = .ok (.invokevirtual 73, 3) := by decide +kernel
theorem dX7_coversRight_17 : decode cX7_coversRight 17 = .ok (.ifCond .eq 5, 3) := by decide +kernel
theorem dX7_coversRight_20 : decode cX7_coversRight 20 = .ok (.iconst 0, 1) := by decide +kernel
theorem dX7_coversRight_21 : decode cX7_coversRight 21 = .ok (.ireturn, 1) := by decide +kernel
theorem dX7_coversRight_22 : decode cX7_coversRight 22 = .ok (.aload_n 0, 1) := by decide +kernel
theorem dX7_coversRight_23 : decode cX7_coversRight 23 = .ok (.invokevirtual 117, 3) := by decide +kernel
theorem dX7_coversRight_26 : decode cX7_coversRight 26 = .ok (.aload_n 0, 1) := by decide +kernel
theorem dX7_coversRight_27 : decode cX7_coversRight 27 = .ok (.getfield 50, 3) := by decide +kernel
theorem dX7_coversRight_30 : decode cX7_coversRight 30 = .ok (.bipush 12, 2) := by decide +kernel
theorem dX7_coversRight_32 : decode cX7_coversRight 32 = .ok (.iload_n 1, 1) := by decide +kernel
theorem dX7_coversRight_33 : decode cX7_coversRight 33 = .ok (.iadd, 1) := by decide +kernel
theorem dX7_coversRight_34 : decode cX7_coversRight 34 = .ok (.baload, 1) := by decide +kernel
theorem dX7_coversRight_35 : decode cX7_coversRight 35 = .ok (.ireturn, 1) := by decide +kernel
set_option maxRecDepth 20000 in
theorem ggX7_neighbours_X7_isEdge : GoodIn wsX7_neighbours wsX7_isEdge := goodIn_r _ [7, 8, 9, 10, 11, 12, 13, 14, 15, 16, 17, 18, 19, 20, 21, 22, 23, 24, 25, 26, 27, 28] (by decide +kernel) (by decide +kernel)
set_option maxRecDepth 20000 in
theorem gX7_neighbours_X7_isEdge : GoodIn wsX7_neighbours (wsV RX7 81 RX7 yX7_isEdge wsX7_isEdge) := goodIn_app (goodIn_of _ (by decide +kernel)) ggX7_neighbours_X7_isEdge
theorem dX7_neighbours_0 : decode cX7_neighbours 0 = .ok (.iconst 0, 1) := by decide +kernel
theorem dX7_neighbours_1 : decode cX7_neighbours 1 = .ok (.istore_n 2, 1) := by decide +kernel
theorem dX7_neighbours_2 : decode cX7_neighbours 2 = .ok (.iconst 0, 1) := by decide +kernel
theorem dX7_neighbours_3 : decode cX7_neighbours 3 = .ok (.istore_n 3, 1) := by decide +kernel
theorem dX7_neighbours_4 : decode cX7_neighbours 4 = .ok (.iload_n 3, 1) := by decide +kernel
theorem dX7_neighbours_5 : decode cX7_neighbours 5 = .ok (.aload_n 0, 1) := by decide +kernel
theorem dX7_neighbours_6 : decode cX7_neighbours 6 = .ok (.getfield 70, 3) := by decide +kernel
theorem dX7_neighbours_9 : decode cX7_neighbours 9 = .ok (.if_icmp .ge 75, 3) := by decide +kernel
theorem dX7_neighbours_12 : decode cX7_neighbours 12 = .ok (.iconst 0, 1) := by decide +kernel
theorem dX7_neighbours_13 : decode cX7_neighbours 13 = .ok (.istore 4, 2) := by decide +kernel
theorem dX7_neighbours_15 : decode cX7_neighbours 15 = .ok (.iconst 0, 1) := by decide +kernel
theorem dX7_neighbours_16 : decode cX7_neighbours 16 = .ok (.istore 5, 2) := by decide +kernel
theorem dX7_neighbours_18 : decode cX7_neighbours 18 = .ok (.iload 5, 2) := by decide +kernel
theorem dX7_neighbours_20 : decode cX7_neighbours 20 = .ok (.aload_n 0, 1) := by decide +kernel
theorem dX7_neighbours_21 : decode cX7_neighbours 21 = .ok (.getfield 67, 3) := by decide +kernel
theorem dX7_neighbours_24 : decode cX7_neighbours 24 = .ok (.if_icmp .ge 41, 3) := by decide +kernel
theorem dX7_neighbours_27 : decode cX7_neighbours 27 = .ok (.iload 4, 2) := by decide +kernel
theorem dX7_neighbours_29 : decode cX7_neighbours 29 = .ok (.ifCond .ne 23, 3) := by decide +kernel
theorem dX7_neighbours_32 : decode cX7_neighbours 32 = .ok (.iload_n 1, 1) := by decide +kernel
theorem dX7_neighbours_33 : decode cX7_neighbours 33 = .ok (.iload 5, 2) := by decide +kernel
theorem dX7_neighbours_35 : decode cX7_neighbours 35 = .ok (.ishr, 1) := by decide +kernel
theorem dX7_neighbours_36 : decode cX7_neighbours 36 = .ok (.iconst 1, 1) := by decide +kernel
theorem dX7_neighbours_37 : decode cX7_neighbours 37 = .ok (.iand, 1) := by decide +kernel
theorem dX7_neighbours_38 : decode cX7_neighbours 38 = .ok (.iconst 1, 1) := by decide +kernel
theorem dX7_neighbours_39 : decode cX7_neighbours 39 = .ok (.if_icmp .ne 17, 3) := by decide +kernel
theorem dX7_neighbours_42 : decode cX7_neighbours 42 = .ok (.aload_n 0, 1) := by decide +kernel
theorem dX7_neighbours_43 : decode cX7_neighbours 43 = .ok (.iload 5, 2) := by decide +kernel
theorem dX7_neighbours_45 : decode cX7_neighbours 45 = .ok (.iload_n 3, 1) := by decide +kernel
theorem dX7_neighbours_46 : decode cX7_neighbours 46 = .ok (.invokevirtual 81, 3) := by decide +kernel
theorem dX7_neighbours_49 : decode cX7_neighbours 49 = .ok (.ifCond .eq 7, 3) := by decide +kernel
theorem dX7_neighbours_52 : decode cX7_neighbours 52 = .ok (.iconst 1, 1) := by decide +kernel
theorem dX7_neighbours_53 : decode cX7_neighbours 53 = .ok (.goto 4, 3) := by decide +kernel
theorem dX7_neighbours_56 : decode cX7_neighbours 56 = .ok (.iconst 0, 1) := by decide +kernel
theorem dX7_neighbours_57 : decode cX7_neighbours 57 = .ok (.istore 4, 2) := by decide +kernel
theorem dX7_neighbours_59 : decode cX7_neighbours 59 = .ok (.iinc 5 1, 3) := by decide +kernel
theorem dX7_neighbours_62 : decode cX7_neighbours 62 = .ok (.goto (-44), 3) := by decide +kernel
theorem dX7_neighbours_65 : decode cX7_neighbours 65 = .ok (.iload_n 2, 1) := by decide +kernel
theorem dX7_neighbours_66 : decode cX7_neighbours 66 = .ok (.iload 4, 2) := by decide +kernel
theorem dX7_neighbours_68 : decode cX7_neighbours 68 = .ok (.ifCond .eq 7, 3) := by decide +kernel
theorem dX7_neighbours_71 : decode cX7_neighbours 71 = .ok (.iconst 1, 1) := by decide +kernel
theorem dX7_neighbours_72 : decode cX7_neighbours 72 = .ok (.goto 4, 3) := by decide +kernel
theorem dX7_neighbours_75 : decode cX7_neighbours 75 = .ok (.iconst 0, 1) := by decide +kernel
theorem dX7_neighbours_76 : decode cX7_neighbours 76 = .ok (.iadd, 1) := by decide +kernel
theorem dX7_neighbours_77 : decode cX7_neighbours 77 = .ok (.istore_n 2, 1) := by decide +kernel
theorem dX7_neighbours_78 : decode cX7_neighbours 78 = .ok (.iinc 3 1, 3) := by decide +kernel
theorem dX7_neighbours_81 : decode cX7_neighbours 81 = .ok (.goto (-77), 3) := by decide +kernel
theorem dX7_neighbours_84 : decode cX7_neighbours 84 = .ok (.iload_n 2, 1) := by decide +kernel
theorem dX7_neighbours_85 : decode cX7_neighbours 85 = .ok (.ireturn, 1) := by decide +kernel
set_option maxRecDepth 20000 in
theorem ggX7_leastCovers_X7_bits : GoodIn wsX7_leastCovers wsX7_bits := goodIn_r _ [5] (by decide +kernel) (by decide +kernel)
set_option maxRecDepth 20000 in
theorem gX7_leastCovers_X7_bits : GoodIn wsX7_leastCovers (va_wsS RX7 132 yX7_bits wsX7_bits) := goodIn_app (goodIn_of _ (by decide +kernel)) ggX7_leastCovers_X7_bits
set_option maxRecDepth 20000 in
theorem ggX7_leastCovers_X7_neighbours : GoodIn wsX7_leastCovers wsX7_neighbours := goodIn_r _ [9, 10, 1, 11, 12, 13, 4, 14, 15, 21, 22, 23, 24, 25, 26, 27, 28, 29, 30, 31, 32, 33, 34, 35, 36, 37, 38, 39, 40] (by decide +kernel) (by decide +kernel)
set_option maxRecDepth 20000 in
theorem gX7_leastCovers_X7_neighbours : GoodIn wsX7_leastCovers (wsV RX7 142 RX7 yX7_neighbours wsX7_neighbours) := goodIn_app (goodIn_of _ (by decide +kernel)) ggX7_leastCovers_X7_neighbours
set_option maxRecDepth 20000 in
theorem ggX7_leastCovers_X7_fine : GoodIn wsX7_leastCovers wsX7_fine := goodIn_r _ [19, 20, 21, 22, 23, 24, 25, 26, 27, 28, 29, 30, 31, 32, 33, 34, 35, 36, 37, 38, 39, 40] (by decide +kernel) (by decide +kernel)
set_option maxRecDepth 20000 in
theorem gX7_leastCovers_X7_fine : GoodIn wsX7_leastCovers (wsV RX7 77 RX7 yX7_fine wsX7_fine) := goodIn_app (goodIn_of _ (by decide +kernel)) ggX7_leastCovers_X7_fine
theorem dX7_leastCovers_0 : decode cX7_leastCovers 0 = .ok (.iconst 1, 1) := by decide +kernel
theorem dX7_leastCovers_1 : decode cX7_leastCovers 1 = .ok (.aload_n 0, 1) := by decide +kernel
theorem dX7_leastCovers_2 : decode cX7_leastCovers 2 = .ok (.getfield 67, 3) := by decide +kernel
theorem dX7_leastCovers_5 : decode cX7_leastCovers 5 = .ok (.ishl, 1) := by decide +kernel
theorem dX7_leastCovers_6 : decode cX7_leastCovers 6 = .ok (.iconst 1, 1) := by decide +kernel
theorem dX7_leastCovers_7 : decode cX7_leastCovers 7 = .ok (.isub, 1) := by decide +kernel
theorem dX7_leastCovers_8 : decode cX7_leastCovers 8 = .ok (.istore_n 1, 1) := by decide +kernel
theorem dX7_leastCovers_9 : decode cX7_leastCovers 9 = .ok (.iconst 0, 1) := by decide +kernel
theorem dX7_leastCovers_10 : decode cX7_leastCovers 10 = .ok (.istore_n 2, 1) := by decide +kernel
theorem dX7_leastCovers_11 : decode cX7_leastCovers 11 = .ok (.bipush 24, 2) := by decide +kernel
theorem dX7_leastCovers_13 : decode cX7_leastCovers 13 = .ok (.istore_n 3, 1) := by decide +kernel
theorem dX7_leastCovers_14 : decode cX7_leastCovers 14 = .ok (.iconst 0, 1) := by decide +kernel
theorem dX7_leastCovers_15 : decode cX7_leastCovers 15 = .ok (.istore 4, 2) := by decide +kernel
theorem dX7_leastCovers_17 : decode cX7_leastCovers 17 = .ok (.iload 4, 2) := by decide +kernel
theorem dX7_leastCovers_19 : decode cX7_leastCovers 19 = .ok (.iload_n 1, 1) := by decide +kernel
theorem dX7_leastCovers_20 : decode cX7_leastCovers 20 = .ok (.if_icmp .gt 64, 3) := by decide +kernel
theorem dX7_leastCovers_23 : decode cX7_leastCovers 23 = .ok (.iload 4, 2) := by decide +kernel
theorem dX7_leastCovers_25 : decode cX7_leastCovers 25 = .ok (.invokestatic 132, 3) := by decide +kernel
theorem dX7_leastCovers_28 : decode cX7_leastCovers 28 = .ok (.aload_n 0, 1) := by decide +kernel
theorem dX7_leastCovers_29 : decode cX7_leastCovers 29 = .ok (.iload_n 1, 1) := by decide +kernel
theorem dX7_leastCovers_30 : decode cX7_leastCovers 30 = .ok (.iload 4, 2) := by decide +kernel
theorem dX7_leastCovers_32 : decode cX7_leastCovers 32 = .ok (.iconst (-1), 1) := by decide +kernel
theorem dX7_leastCovers_33 : decode cX7_leastCovers 33 = .ok (.ixor, 1) := by decide +kernel
theorem dX7_leastCovers_34 : decode cX7_leastCovers 34 = .ok (.iand, 1) := by decide +kernel
theorem dX7_leastCovers_35 : decode cX7_leastCovers 35 = .ok (.invokevirtual 142, 3) := by decide +kernel
theorem dX7_leastCovers_38 : decode cX7_leastCovers 38 = .ok (.iadd, 1) := by decide +kernel
theorem dX7_leastCovers_39 : decode cX7_leastCovers 39 = .ok (.istore 5, 2) := by decide +kernel
theorem dX7_leastCovers_41 : decode cX7_leastCovers 41 = .ok (.iload 5, 2) := by decide +kernel
theorem dX7_leastCovers_43 : decode cX7_leastCovers 43 = .ok (.iload_n 3, 1) := by decide +kernel
theorem dX7_leastCovers_44 : decode cX7_leastCovers 44 = .ok (.if_icmp .ge 7, 3) := by decide +kernel
theorem dX7_leastCovers_47 : decode cX7_leastCovers 47 = .ok (.iconst 1, 1) := by decide +kernel
theorem dX7_leastCovers_48 : decode cX7_leastCovers 48 = .ok (.goto 16, 3) := by decide +kernel
theorem dX7_leastCovers_51 : decode cX7_leastCovers 51 = .ok (.iload 5, 2) := by decide +kernel
theorem dX7_leastCovers_53 : decode cX7_leastCovers 53 = .ok (.iload_n 3, 1) := by decide +kernel
theorem dX7_leastCovers_54 : decode cX7_leastCovers 54 = .ok (.if_icmp .ne 9, 3) := by decide +kernel
theorem dX7_leastCovers_57 : decode cX7_leastCovers 57 = .ok (.iload_n 2, 1) := by decide +kernel
theorem dX7_leastCovers_58 : decode cX7_leastCovers 58 = .ok (.iconst 1, 1) := by decide +kernel
theorem dX7_leastCovers_59 : decode cX7_leastCovers 59 = .ok (.iadd, 1) := by decide +kernel
theorem dX7_leastCovers_60 : decode cX7_leastCovers 60 = .ok (.goto 4, 3) := by decide +kernel
theorem dX7_leastCovers_63 : decode cX7_leastCovers 63 = .ok (.iload_n 2, 1) := by decide +kernel
theorem dX7_leastCovers_64 : decode cX7_leastCovers 64 = .ok (.istore_n 2, 1) := by decide +kernel
theorem dX7_leastCovers_65 : decode cX7_leastCovers 65 = .ok (.iload 5, 2) := by decide +kernel
theorem dX7_leastCovers_67 : decode cX7_leastCovers 67 = .ok (.iload_n 3, 1) := by decide +kernel
theorem dX7_leastCovers_68 : decode cX7_leastCovers 68 = .ok (.if_icmp .ge 8, 3) := by decide +kernel
theorem dX7_leastCovers_71 : decode cX7_leastCovers 71 = .ok (.iload 5, 2) := by decide +kernel
theorem dX7_leastCovers_73 : decode cX7_leastCovers 73 = .ok (.goto 4, 3) := by decide +kernel
theorem dX7_leastCovers_76 : decode cX7_leastCovers 76 = .ok (.iload_n 3, 1) := by decide +kernel
theorem dX7_leastCovers_77 : decode cX7_leastCovers 77 = .ok (.istore_n 3, 1) := by decide +kernel
theorem dX7_leastCovers_78 : decode cX7_leastCovers 78 = .ok (.iinc 4 1, 3) := by decide +kernel
theorem dX7_leastCovers_81 : decode cX7_leastCovers 81 = .ok (.goto (-64), 3) := by decide +kernel
theorem dX7_leastCovers_84 : decode cX7_leastCovers 84 = .ok (.aload_n 0, 1) := by decide +kernel
theorem dX7_leastCovers_85 : decode cX7_leastCovers 85 = .ok (.iload_n 2, 1) := by decide +kernel
theorem dX7_leastCovers_86 : decode cX7_leastCovers 86 = .ok (.invokevirtual 77, 3) := by decide +kernel
theorem dX7_leastCovers_89 : decode cX7_leastCovers 89 = .ok (.ireturn, 1) := by decide +kernel
set_option maxRecDepth 20000 in
theorem ggX7_greatestExcess_X7_bits : GoodIn wsX7_greatestExcess wsX7_bits := goodIn_r _ [5] (by decide +kernel) (by decide +kernel)
set_option maxRecDepth 20000 in
theorem gX7_greatestExcess_X7_bits : GoodIn wsX7_greatestExcess (va_wsS RX7 132 yX7_bits wsX7_bits) := goodIn_app (goodIn_of _ (by decide +kernel)) ggX7_greatestExcess_X7_bits
set_option maxRecDepth 20000 in
theorem ggX7_greatestExcess_X7_neighbours : GoodIn wsX7_greatestExcess wsX7_neighbours := goodIn_r _ [9, 10, 1, 11, 12, 13, 4, 14, 15, 21, 22, 23, 24, 25, 26, 27, 28, 29, 30, 31, 32, 33, 34, 35, 36, 37, 38, 39, 40] (by decide +kernel) (by decide +kernel)
set_option maxRecDepth 20000 in
theorem gX7_greatestExcess_X7_neighbours : GoodIn wsX7_greatestExcess (wsV RX7 142 RX7 yX7_neighbours wsX7_neighbours) := goodIn_app (goodIn_of _ (by decide +kernel)) ggX7_greatestExcess_X7_neighbours
set_option maxRecDepth 20000 in
theorem ggX7_greatestExcess_X7_fine : GoodIn wsX7_greatestExcess wsX7_fine := goodIn_r _ [19, 20, 21, 22, 23, 24, 25, 26, 27, 28, 29, 30, 31, 32, 33, 34, 35, 36, 37, 38, 39, 40] (by decide +kernel) (by decide +kernel)
set_option maxRecDepth 20000 in
theorem gX7_greatestExcess_X7_fine : GoodIn wsX7_greatestExcess (wsV RX7 77 RX7 yX7_fine wsX7_fine) := goodIn_app (goodIn_of _ (by decide +kernel)) ggX7_greatestExcess_X7_fine
theorem dX7_greatestExcess_0 : decode cX7_greatestExcess 0 = .ok (.iconst 0, 1) := by decide +kernel
theorem dX7_greatestExcess_1 : decode cX7_greatestExcess 1 = .ok (.istore_n 1, 1) := by decide +kernel
theorem dX7_greatestExcess_2 : decode cX7_greatestExcess 2 = .ok (.iconst 0, 1) := by decide +kernel
theorem dX7_greatestExcess_3 : decode cX7_greatestExcess 3 = .ok (.istore_n 2, 1) := by decide +kernel
theorem dX7_greatestExcess_4 : decode cX7_greatestExcess 4 = .ok (.iload_n 2, 1) := by decide +kernel
theorem dX7_greatestExcess_5 : decode cX7_greatestExcess 5 = .ok (.iconst 1, 1) := by decide +kernel
theorem dX7_greatestExcess_6 : decode cX7_greatestExcess 6 = .ok (.aload_n 0, 1) := by decide +kernel
theorem dX7_greatestExcess_7 : decode cX7_greatestExcess 7 = .ok (.getfield 67, 3) := by decide +kernel
theorem dX7_greatestExcess_10 : decode cX7_greatestExcess 10 = .ok (.ishl, 1) := by decide +kernel
theorem dX7_greatestExcess_11 : decode cX7_greatestExcess 11 = .ok (.if_icmp .ge 31, 3) := by decide +kernel
theorem dX7_greatestExcess_14 : decode cX7_greatestExcess 14 = .ok (.iload_n 2, 1) := by decide +kernel
theorem dX7_greatestExcess_15 : decode cX7_greatestExcess 15 = .ok (.invokestatic 132, 3) := by decide +kernel
theorem dX7_greatestExcess_18 : decode cX7_greatestExcess 18 = .ok (.aload_n 0, 1) := by decide +kernel
theorem dX7_greatestExcess_19 : decode cX7_greatestExcess 19 = .ok (.iload_n 2, 1) := by decide +kernel
theorem dX7_greatestExcess_20 : decode cX7_greatestExcess 20 = .ok (.invokevirtual 142, 3) := by decide +kernel
theorem dX7_greatestExcess_23 : decode cX7_greatestExcess 23 = .ok (.isub, 1) := by decide +kernel
theorem dX7_greatestExcess_24 : decode cX7_greatestExcess 24 = .ok (.istore_n 3, 1) := by decide +kernel
theorem dX7_greatestExcess_25 : decode cX7_greatestExcess 25 = .ok (.iload_n 3, 1) := by decide +kernel
theorem dX7_greatestExcess_26 : decode cX7_greatestExcess 26 = .ok (.iload_n 1, 1) := by decide +kernel
theorem dX7_greatestExcess_27 : decode cX7_greatestExcess 27 = .ok (.if_icmp .le 7, 3) := by decide +kernel
theorem dX7_greatestExcess_30 : decode cX7_greatestExcess 30 = .ok (.iload_n 3, 1) := by decide +kernel
theorem dX7_greatestExcess_31 : decode cX7_greatestExcess 31 = .ok (.goto 4, 3) := by decide +kernel
theorem dX7_greatestExcess_34 : decode cX7_greatestExcess 34 = .ok (.iload_n 1, 1) := by decide +kernel
theorem dX7_greatestExcess_35 : decode cX7_greatestExcess 35 = .ok (.istore_n 1, 1) := by decide +kernel
theorem dX7_greatestExcess_36 : decode cX7_greatestExcess 36 = .ok (.iinc 2 1, 3) := by decide +kernel
theorem dX7_greatestExcess_39 : decode cX7_greatestExcess 39 = .ok (.goto (-35), 3) := by decide +kernel
theorem dX7_greatestExcess_42 : decode cX7_greatestExcess 42 = .ok (.aload_n 0, 1) := by decide +kernel
theorem dX7_greatestExcess_43 : decode cX7_greatestExcess 43 = .ok (.iload_n 1, 1) := by decide +kernel
theorem dX7_greatestExcess_44 : decode cX7_greatestExcess 44 = .ok (.invokevirtual 77, 3) := by decide +kernel
theorem dX7_greatestExcess_47 : decode cX7_greatestExcess 47 = .ok (.ireturn, 1) := by decide +kernel
theorem dJ6_bitCount_0f7a4_0 : decode cJ6_bitCount_0f7a4 0 = .ok (.iload_n 0, 1) := by decide +kernel
theorem dJ6_bitCount_0f7a4_1 : decode cJ6_bitCount_0f7a4 1 = .ok (.iload_n 0, 1) := by decide +kernel
theorem dJ6_bitCount_0f7a4_2 : decode cJ6_bitCount_0f7a4 2 = .ok (.iconst 1, 1) := by decide +kernel
theorem dJ6_bitCount_0f7a4_3 : decode cJ6_bitCount_0f7a4 3 = .ok (.iushr, 1) := by decide +kernel
theorem dJ6_bitCount_0f7a4_4 : decode cJ6_bitCount_0f7a4 4 = .ok (.ldc_w 265, 3) := by decide +kernel
theorem dJ6_bitCount_0f7a4_7 : decode cJ6_bitCount_0f7a4 7 = .ok (.iand, 1) := by decide +kernel
theorem dJ6_bitCount_0f7a4_8 : decode cJ6_bitCount_0f7a4 8 = .ok (.isub, 1) := by decide +kernel
theorem dJ6_bitCount_0f7a4_9 : decode cJ6_bitCount_0f7a4 9 = .ok (.istore_n 0, 1) := by decide +kernel
theorem dJ6_bitCount_0f7a4_10 : decode cJ6_bitCount_0f7a4 10 = .ok (.iload_n 0, 1) := by decide +kernel
theorem dJ6_bitCount_0f7a4_11 : decode cJ6_bitCount_0f7a4 11 = .ok (.ldc_w 266, 3) := by decide +kernel
theorem dJ6_bitCount_0f7a4_14 : decode cJ6_bitCount_0f7a4 14 = .ok (.iand, 1) := by decide +kernel
theorem dJ6_bitCount_0f7a4_15 : decode cJ6_bitCount_0f7a4 15 = .ok (.iload_n 0, 1) := by decide +kernel
theorem dJ6_bitCount_0f7a4_16 : decode cJ6_bitCount_0f7a4 16 = .ok (.iconst 2, 1) := by decide +kernel
theorem dJ6_bitCount_0f7a4_17 : decode cJ6_bitCount_0f7a4 17 = .ok (.iushr, 1) := by decide +kernel
theorem dJ6_bitCount_0f7a4_18 : decode cJ6_bitCount_0f7a4 18 = .ok (.ldc_w 266, 3) := by decide +kernel
theorem dJ6_bitCount_0f7a4_21 : decode cJ6_bitCount_0f7a4 21 = .ok (.iand, 1) := by decide +kernel
theorem dJ6_bitCount_0f7a4_22 : decode cJ6_bitCount_0f7a4 22 = .ok (.iadd, 1) := by decide +kernel
theorem dJ6_bitCount_0f7a4_23 : decode cJ6_bitCount_0f7a4 23 = .ok (.istore_n 0, 1) := by decide +kernel
theorem dJ6_bitCount_0f7a4_24 : decode cJ6_bitCount_0f7a4 24 = .ok (.iload_n 0, 1) := by decide +kernel
theorem dJ6_bitCount_0f7a4_25 : decode cJ6_bitCount_0f7a4 25 = .ok (.iload_n 0, 1) := by decide +kernel
theorem dJ6_bitCount_0f7a4_26 : decode cJ6_bitCount_0f7a4 26 = .ok (.iconst 4, 1) := by decide +kernel
theorem dJ6_bitCount_0f7a4_27 : decode cJ6_bitCount_0f7a4 27 = .ok (.iushr, 1) := by decide +kernel
theorem dJ6_bitCount_0f7a4_28 : decode cJ6_bitCount_0f7a4 28 = .ok (.iadd, 1) := by decide +kernel
theorem dJ6_bitCount_0f7a4_29 : decode cJ6_bitCount_0f7a4 29 = .ok (.ldc_w 267, 3) := by decide +kernel
theorem dJ6_bitCount_0f7a4_32 : decode cJ6_bitCount_0f7a4 32 = .ok (.iand, 1) := by decide +kernel
theorem dJ6_bitCount_0f7a4_33 : decode cJ6_bitCount_0f7a4 33 = .ok (.istore_n 0, 1) := by decide +kernel
theorem dJ6_bitCount_0f7a4_34 : decode cJ6_bitCount_0f7a4 34 = .ok (.iload_n 0, 1) := by decide +kernel
theorem dJ6_bitCount_0f7a4_35 : decode cJ6_bitCount_0f7a4 35 = .ok (.iload_n 0, 1) := by decide +kernel
theorem dJ6_bitCount_0f7a4_36 : decode cJ6_bitCount_0f7a4 36 = .ok (.bipush 8, 2) := by decide +kernel
theorem dJ6_bitCount_0f7a4_38 : decode cJ6_bitCount_0f7a4 38 = .ok (.iushr, 1) := by decide +kernel
theorem dJ6_bitCount_0f7a4_39 : decode cJ6_bitCount_0f7a4 39 = .ok (.iadd, 1) := by decide +kernel
theorem dJ6_bitCount_0f7a4_40 : decode cJ6_bitCount_0f7a4 40 = .ok (.istore_n 0, 1) := by decide +kernel
theorem dJ6_bitCount_0f7a4_41 : decode cJ6_bitCount_0f7a4 41 = .ok (.iload_n 0, 1) := by decide +kernel
theorem dJ6_bitCount_0f7a4_42 : decode cJ6_bitCount_0f7a4 42 = .ok (.iload_n 0, 1) := by decide +kernel
theorem dJ6_bitCount_0f7a4_43 : decode cJ6_bitCount_0f7a4 43 = .ok (.bipush 16, 2) := by decide +kernel
theorem dJ6_bitCount_0f7a4_45 : decode cJ6_bitCount_0f7a4 45 = .ok (.iushr, 1) := by decide +kernel
theorem dJ6_bitCount_0f7a4_46 : decode cJ6_bitCount_0f7a4 46 = .ok (.iadd, 1) := by decide +kernel
theorem dJ6_bitCount_0f7a4_47 : decode cJ6_bitCount_0f7a4 47 = .ok (.istore_n 0, 1) := by decide +kernel
theorem dJ6_bitCount_0f7a4_48 : decode cJ6_bitCount_0f7a4 48 = .ok (.iload_n 0, 1) := by decide +kernel
theorem dJ6_bitCount_0f7a4_49 : decode cJ6_bitCount_0f7a4 49 = .ok (.bipush 63, 2) := by decide +kernel
theorem dJ6_bitCount_0f7a4_51 : decode cJ6_bitCount_0f7a4 51 = .ok (.iand, 1) := by decide +kernel
theorem dJ6_bitCount_0f7a4_52 : decode cJ6_bitCount_0f7a4 52 = .ok (.ireturn, 1) := by decide +kernel
theorem dJ7_fill_d0a16_0 : decode cJ7_fill_d0a16 0 = .ok (.iconst 0, 1) := by decide +kernel
theorem dJ7_fill_d0a16_1 : decode cJ7_fill_d0a16 1 = .ok (.istore_n 3, 1) := by decide +kernel
theorem dJ7_fill_d0a16_2 : decode cJ7_fill_d0a16 2 = .ok (.aload_n 0, 1) := by decide +kernel
theorem dJ7_fill_d0a16_3 : decode cJ7_fill_d0a16 3 = .ok (.arraylength, 1) := by decide +kernel
theorem dJ7_fill_d0a16_4 : decode cJ7_fill_d0a16 4 = .ok (.istore 4, 2) := by decide +kernel
theorem dJ7_fill_d0a16_6 : decode cJ7_fill_d0a16 6 = .ok (.iload_n 3, 1) := by decide +kernel
theorem dJ7_fill_d0a16_7 : decode cJ7_fill_d0a16 7 = .ok (.iload 4, 2) := by decide +kernel
theorem dJ7_fill_d0a16_9 : decode cJ7_fill_d0a16 9 = .ok (.if_icmp .ge 13, 3) := by decide +kernel
theorem dJ7_fill_d0a16_12 : decode cJ7_fill_d0a16 12 = .ok (.aload_n 0, 1) := by decide +kernel
theorem dJ7_fill_d0a16_13 : decode cJ7_fill_d0a16 13 = .ok (.iload_n 3, 1) := by decide +kernel
theorem dJ7_fill_d0a16_14 : decode cJ7_fill_d0a16 14 = .ok (.lload_n 1, 1) := by decide +kernel
theorem dJ7_fill_d0a16_15 : decode cJ7_fill_d0a16 15 = .ok (.lastore, 1) := by decide +kernel
theorem dJ7_fill_d0a16_16 : decode cJ7_fill_d0a16 16 = .ok (.iinc 3 1, 3) := by decide +kernel
theorem dJ7_fill_d0a16_19 : decode cJ7_fill_d0a16 19 = .ok (.goto (-13), 3) := by decide +kernel
theorem dJ7_fill_d0a16_22 : decode cJ7_fill_d0a16 22 = .ok (.return_, 1) := by decide +kernel
theorem dJ7_fill_53178_0 : decode cJ7_fill_53178 0 = .ok (.iconst 0, 1) := by decide +kernel
theorem dJ7_fill_53178_1 : decode cJ7_fill_53178 1 = .ok (.istore_n 2, 1) := by decide +kernel
theorem dJ7_fill_53178_2 : decode cJ7_fill_53178 2 = .ok (.aload_n 0, 1) := by decide +kernel
theorem dJ7_fill_53178_3 : decode cJ7_fill_53178 3 = .ok (.arraylength, 1) := by decide +kernel
theorem dJ7_fill_53178_4 : decode cJ7_fill_53178 4 = .ok (.istore_n 3, 1) := by decide +kernel
theorem dJ7_fill_53178_5 : decode cJ7_fill_53178 5 = .ok (.iload_n 2, 1) := by decide +kernel
theorem dJ7_fill_53178_6 : decode cJ7_fill_53178 6 = .ok (.iload_n 3, 1) := by decide +kernel
theorem dJ7_fill_53178_7 : decode cJ7_fill_53178 7 = .ok (.if_icmp .ge 13, 3) := by decide +kernel
theorem dJ7_fill_53178_10 : decode cJ7_fill_53178 10 = .ok (.aload_n 0, 1) := by decide +kernel
theorem dJ7_fill_53178_11 : decode cJ7_fill_53178 11 = .ok (.iload_n 2, 1) := by decide +kernel
theorem dJ7_fill_53178_12 : decode cJ7_fill_53178 12 = .ok (.iload_n 1, 1) := by decide +kernel
theorem dJ7_fill_53178_13 : decode cJ7_fill_53178 13 = .ok (.iastore, 1) := by decide +kernel
theorem dJ7_fill_53178_14 : decode cJ7_fill_53178 14 = .ok (.iinc 2 1, 3) := by decide +kernel
theorem dJ7_fill_53178_17 : decode cJ7_fill_53178 17 = .ok (.goto (-12), 3) := by decide +kernel
theorem dJ7_fill_53178_20 : decode cJ7_fill_53178 20 = .ok (.return_, 1) := by decide +kernel
set_option maxRecDepth 20000 in
theorem ggL_addLeft_X6_addLeft : GoodIn wsL_addLeft wsX6_addLeft := goodIn_ca (goodIn_r _ [6, 7, 8, 9, 10, 11, 12, 13, 14, 15, 16, 17, 18, 19, 20, 21] (by decide +kernel) (by decide +kernel)) (goodIn_sub (fun _ h => List.mem_cons_of_mem _ (List.mem_append_right _ h)) (by decide +kernel))
set_option maxRecDepth 20000 in
theorem gL_addLeft_X6_addLeft : GoodIn wsL_addLeft (wsV RL 7 RX6 yX6_addLeft wsX6_addLeft) := goodIn_app (goodIn_of _ (by decide +kernel)) ggL_addLeft_X6_addLeft
