theorem dX7_init_0 : decode cX7_init 0 = .ok (.aload_n 0, 1) := by decide +kernel
theorem dX7_init_1 : decode cX7_init 1 = .ok (.invokespecial 1, 3) := by decide +kernel
theorem dX7_init_4 : decode cX7_init 4 = .ok (.aload_n 0, 1) := by decide +kernel
theorem dX7_init_5 : decode cX7_init 5 = .ok (.bipush 12, 2) := by decide +kernel
theorem dX7_init_7 : decode cX7_init 7 = .ok (.newarray .int, 2) := by decide +kernel
theorem dX7_init_9 : decode cX7_init 9 = .ok (.putfield 7, 3) := by decide +kernel
theorem dX7_init_12 : decode cX7_init 12 = .ok (.aload_n 0, 1) := by decide +kernel
theorem dX7_init_13 : decode cX7_init 13 = .ok (.bipush 20, 2) := by decide +kernel
theorem dX7_init_15 : decode cX7_init 15 = .ok (.newarray .int, 2) := by decide +kernel
theorem dX7_init_17 : decode cX7_init 17 = .ok (.putfield 13, 3) := by decide +kernel
theorem dX7_init_20 : decode cX7_init 20 = .ok (.aload_n 0, 1) := by decide +kernel
theorem dX7_init_21 : decode cX7_init 21 = .ok (.bipush 20, 2) := by decide +kernel
theorem dX7_init_23 : decode cX7_init 23 = .ok (.newarray .int, 2) := by decide +kernel
theorem dX7_init_25 : decode cX7_init 25 = .ok (.putfield 16, 3) := by decide +kernel
theorem dX7_init_28 : decode cX7_init 28 = .ok (.aload_n 0, 1) := by decide +kernel
theorem dX7_init_29 : decode cX7_init 29 = .ok (.bipush 20, 2) := by decide +kernel
theorem dX7_init_31 : decode cX7_init 31 = .ok (.newarray .int, 2) := by decide +kernel
theorem dX7_init_33 : decode cX7_init 33 = .ok (.putfield 19, 3) := by decide +kernel
theorem dX7_init_36 : decode cX7_init 36 = .ok (.aload_n 0, 1) := by decide +kernel
theorem dX7_init_37 : decode cX7_init 37 = .ok (.bipush 20, 2) := by decide +kernel
theorem dX7_init_39 : decode cX7_init 39 = .ok (.newarray .int, 2) := by decide +kernel
theorem dX7_init_41 : decode cX7_init 41 = .ok (.putfield 22, 3) := by decide +kernel
theorem dX7_init_44 : decode cX7_init 44 = .ok (.aload_n 0, 1) := by decide +kernel
theorem dX7_init_45 : decode cX7_init 45 = .ok (.bipush 6, 2) := by decide +kernel
theorem dX7_init_47 : decode cX7_init 47 = .ok (.newarray .int, 2) := by decide +kernel
theorem dX7_init_49 : decode cX7_init 49 = .ok (.putfield 25, 3) := by decide +kernel
theorem dX7_init_52 : decode cX7_init 52 = .ok (.aload_n 0, 1) := by decide +kernel
theorem dX7_init_53 : decode cX7_init 53 = .ok (.bipush 7, 2) := by decide +kernel
theorem dX7_init_55 : decode cX7_init 55 = .ok (.putfield 28, 3) := by decide +kernel
theorem dX7_init_58 : decode cX7_init 58 = .ok (.aload_n 0, 1) := by decide +kernel
theorem dX7_init_59 : decode cX7_init 59 = .ok (.bipush 10, 2) := by decide +kernel
theorem dX7_init_61 : decode cX7_init 61 = .ok (.newarray .int, 2) := by decide +kernel
theorem dX7_init_63 : decode cX7_init 63 = .ok (.putfield 32, 3) := by decide +kernel
theorem dX7_init_66 : decode cX7_init 66 = .ok (.aload_n 0, 1) := by decide +kernel
theorem dX7_init_67 : decode cX7_init 67 = .ok (.bipush 10, 2) := by decide +kernel
theorem dX7_init_69 : decode cX7_init 69 = .ok (.newarray .int, 2) := by decide +kernel
theorem dX7_init_71 : decode cX7_init 71 = .ok (.putfield 35, 3) := by decide +kernel
theorem dX7_init_74 : decode cX7_init 74 = .ok (.aload_n 0, 1) := by decide +kernel
theorem dX7_init_75 : decode cX7_init 75 = .ok (.bipush 10, 2) := by decide +kernel
theorem dX7_init_77 : decode cX7_init 77 = .ok (.newarray .int, 2) := by decide +kernel
theorem dX7_init_79 : decode cX7_init 79 = .ok (.putfield 38, 3) := by decide +kernel
theorem dX7_init_82 : decode cX7_init 82 = .ok (.aload_n 0, 1) := by decide +kernel
theorem dX7_init_83 : decode cX7_init 83 = .ok (.bipush 40, 2) := by decide +kernel
theorem dX7_init_85 : decode cX7_init 85 = .ok (.newarray .int, 2) := by decide +kernel
theorem dX7_init_87 : decode cX7_init 87 = .ok (.putfield 41, 3) := by decide +kernel
theorem dX7_init_90 : decode cX7_init 90 = .ok (.aload_n 0, 1) := by decide +kernel
theorem dX7_init_91 : decode cX7_init 91 = .ok (.bipush 40, 2) := by decide +kernel
theorem dX7_init_93 : decode cX7_init 93 = .ok (.newarray .int, 2) := by decide +kernel
theorem dX7_init_95 : decode cX7_init 95 = .ok (.putfield 44, 3) := by decide +kernel
theorem dX7_init_98 : decode cX7_init 98 = .ok (.aload_n 0, 1) := by decide +kernel
theorem dX7_init_99 : decode cX7_init 99 = .ok (.bipush 40, 2) := by decide +kernel
theorem dX7_init_101 : decode cX7_init 101 = .ok (.newarray .int, 2) := by decide +kernel
theorem dX7_init_103 : decode cX7_init 103 = .ok (.putfield 47, 3) := by decide +kernel
theorem dX7_init_106 : decode cX7_init 106 = .ok (.aload_n 0, 1) := by decide +kernel
theorem dX7_init_107 : decode cX7_init 107 = .ok (.bipush 40, 2) := by decide +kernel
theorem dX7_init_109 : decode cX7_init 109 = .ok (.newarray .int, 2) := by decide +kernel
theorem dX7_init_111 : decode cX7_init 111 = .ok (.putfield 50, 3) := by decide +kernel
theorem dX7_init_114 : decode cX7_init 114 = .ok (.aload_n 0, 1) := by decide +kernel
theorem dX7_init_115 : decode cX7_init 115 = .ok (.bipush 40, 2) := by decide +kernel
theorem dX7_init_117 : decode cX7_init 117 = .ok (.newarray .int, 2) := by decide +kernel
theorem dX7_init_119 : decode cX7_init 119 = .ok (.putfield 53, 3) := by decide +kernel
theorem dX7_init_122 : decode cX7_init 122 = .ok (.aload_n 0, 1) := by decide +kernel
theorem dX7_init_123 : decode cX7_init 123 = .ok (.bipush 40, 2) := by decide +kernel
theorem dX7_init_125 : decode cX7_init 125 = .ok (.newarray .int, 2) := by decide +kernel
theorem dX7_init_127 : decode cX7_init 127 = .ok (.putfield 56, 3) := by decide +kernel
theorem dX7_init_130 : decode cX7_init 130 = .ok (.aload_n 0, 1) := by decide +kernel
theorem dX7_init_131 : decode cX7_init 131 = .ok (.bipush 40, 2) := by decide +kernel
theorem dX7_init_133 : decode cX7_init 133 = .ok (.newarray .int, 2) := by decide +kernel
theorem dX7_init_135 : decode cX7_init 135 = .ok (.putfield 59, 3) := by decide +kernel
theorem dX7_init_138 : decode cX7_init 138 = .ok (.aload_n 0, 1) := by decide +kernel
theorem dX7_init_139 : decode cX7_init 139 = .ok (.bipush 40, 2) := by decide +kernel
theorem dX7_init_141 : decode cX7_init 141 = .ok (.newarray .boolean, 2) := by decide +kernel
theorem dX7_init_143 : decode cX7_init 143 = .ok (.putfield 62, 3) := by decide +kernel
theorem dX7_init_146 : decode cX7_init 146 = .ok (.aload_n 0, 1) := by decide +kernel
theorem dX7_init_147 : decode cX7_init 147 = .ok (.bipush 12, 2) := by decide +kernel
theorem dX7_init_149 : decode cX7_init 149 = .ok (.newarray .int, 2) := by decide +kernel
theorem dX7_init_151 : decode cX7_init 151 = .ok (.putfield 66, 3) := by decide +kernel
theorem dX7_init_154 : decode cX7_init 154 = .ok (.iconst 0, 1) := by decide +kernel
theorem dX7_init_155 : decode cX7_init 155 = .ok (.istore_n 1, 1) := by decide +kernel
theorem dX7_init_156 : decode cX7_init 156 = .ok (.iload_n 1, 1) := by decide +kernel
theorem dX7_init_157 : decode cX7_init 157 = .ok (.bipush 6, 2) := by decide +kernel
theorem dX7_init_159 : decode cX7_init 159 = .ok (.if_icmp .ge 16, 3) := by decide +kernel
theorem dX7_init_162 : decode cX7_init 162 = .ok (.aload_n 0, 1) := by decide +kernel
theorem dX7_init_163 : decode cX7_init 163 = .ok (.getfield 25, 3) := by decide +kernel
theorem dX7_init_166 : decode cX7_init 166 = .ok (.iload_n 1, 1) := by decide +kernel
theorem dX7_init_167 : decode cX7_init 167 = .ok (.iconst 5, 1) := by decide +kernel
theorem dX7_init_168 : decode cX7_init 168 = .ok (.iastore, 1) := by decide +kernel
theorem dX7_init_169 : decode cX7_init 169 = .ok (.iinc 1 1, 3) := by decide +kernel
theorem dX7_init_172 : decode cX7_init 172 = .ok (.goto (-16), 3) := by decide +kernel
theorem dX7_init_175 : decode cX7_init 175 = .ok (.return_, 1) := by decide +kernel
theorem dX7_thrown_0 : decode cX7_thrown 0 = .ok (.aload_n 0, 1) := by decide +kernel
theorem dX7_thrown_1 : decode cX7_thrown 1 = .ok (.getfield 69, 3) := by decide +kernel
theorem dX7_thrown_4 : decode cX7_thrown 4 = .ok (.ireturn, 1) := by decide +kernel
theorem dX7_in_0 : decode cX7_in 0 = .ok (.iload_n 0, 1) := by decide +kernel
theorem dX7_in_1 : decode cX7_in 1 = .ok (.iload_n 1, 1) := by decide +kernel
theorem dX7_in_2 : decode cX7_in 2 = .ok (.if_icmp .lt 12, 3) := by decide +kernel
theorem dX7_in_5 : decode cX7_in 5 = .ok (.iload_n 0, 1) := by decide +kernel
theorem dX7_in_6 : decode cX7_in 6 = .ok (.iload_n 2, 1) := by decide +kernel
theorem dX7_in_7 : decode cX7_in 7 = .ok (.if_icmp .gt 7, 3) := by decide +kernel
theorem dX7_in_10 : decode cX7_in 10 = .ok (.iconst 1, 1) := by decide +kernel
theorem dX7_in_11 : decode cX7_in 11 = .ok (.goto 4, 3) := by decide +kernel
theorem dX7_in_14 : decode cX7_in 14 = .ok (.iconst 0, 1) := by decide +kernel
theorem dX7_in_15 : decode cX7_in 15 = .ok (.ireturn, 1) := by decide +kernel
theorem dX7_refused_0 : decode cX7_refused 0 = .ok (.aload_n 0, 1) := by decide +kernel
theorem dX7_refused_1 : decode cX7_refused 1 = .ok (.iload_n 1, 1) := by decide +kernel
theorem dX7_refused_2 : decode cX7_refused 2 = .ok (.putfield 69, 3) := by decide +kernel
theorem dX7_refused_5 : decode cX7_refused 5 = .ok (.iload_n 1, 1) := by decide +kernel
theorem dX7_refused_6 : decode cX7_refused 6 = .ok (.ifCond .eq 7, 3) := by decide +kernel
theorem dX7_refused_9 : decode cX7_refused 9 = .ok (.iconst 1, 1) := by decide +kernel
theorem dX7_refused_10 : decode cX7_refused 10 = .ok (.goto 4, 3) := by decide +kernel
theorem dX7_refused_13 : decode cX7_refused 13 = .ok (.iconst 0, 1) := by decide +kernel
theorem dX7_refused_14 : decode cX7_refused 14 = .ok (.ireturn, 1) := by decide +kernel
set_option maxRecDepth 20000 in
theorem ggX7_isPack_X7_in : GoodIn wsX7_isPack wsX7_in := goodIn_r _ [5] (by decide +kernel) (by decide +kernel)
set_option maxRecDepth 20000 in
theorem gX7_isPack_X7_in : GoodIn wsX7_isPack (va_wsS RX7 75 yX7_in wsX7_in) := goodIn_app (goodIn_of _ (by decide +kernel)) ggX7_isPack_X7_in
theorem dX7_isPack_0 : decode cX7_isPack 0 = .ok (.iload_n 1, 1) := by decide +kernel
theorem dX7_isPack_1 : decode cX7_isPack 1 = .ok (.iconst 0, 1) := by decide +kernel
theorem dX7_isPack_2 : decode cX7_isPack 2 = .ok (.aload_n 0, 1) := by decide +kernel
theorem dX7_isPack_3 : decode cX7_isPack 3 = .ok (.getfield 72, 3) := by decide +kernel
theorem dX7_isPack_6 : decode cX7_isPack 6 = .ok (.iconst 1, 1) := by decide +kernel
theorem dX7_isPack_7 : decode cX7_isPack 7 = .ok (.isub, 1) := by decide +kernel
theorem dX7_isPack_8 : decode cX7_isPack 8 = .ok (.invokestatic 75, 3) := by decide +kernel
theorem dX7_isPack_11 : decode cX7_isPack 11 = .ok (.ireturn, 1) := by decide +kernel
set_option maxRecDepth 20000 in
theorem ggX7_isRaise_X7_in : GoodIn wsX7_isRaise wsX7_in := goodIn_r _ [5] (by decide +kernel) (by decide +kernel)
set_option maxRecDepth 20000 in
theorem gX7_isRaise_X7_in : GoodIn wsX7_isRaise (va_wsS RX7 75 yX7_in wsX7_in) := goodIn_app (goodIn_of _ (by decide +kernel)) ggX7_isRaise_X7_in
theorem dX7_isRaise_0 : decode cX7_isRaise 0 = .ok (.iload_n 1, 1) := by decide +kernel
theorem dX7_isRaise_1 : decode cX7_isRaise 1 = .ok (.iconst 0, 1) := by decide +kernel
theorem dX7_isRaise_2 : decode cX7_isRaise 2 = .ok (.aload_n 0, 1) := by decide +kernel
theorem dX7_isRaise_3 : decode cX7_isRaise 3 = .ok (.getfield 79, 3) := by decide +kernel
theorem dX7_isRaise_6 : decode cX7_isRaise 6 = .ok (.iconst 1, 1) := by decide +kernel
theorem dX7_isRaise_7 : decode cX7_isRaise 7 = .ok (.isub, 1) := by decide +kernel
theorem dX7_isRaise_8 : decode cX7_isRaise 8 = .ok (.invokestatic 75, 3) := by decide +kernel
theorem dX7_isRaise_11 : decode cX7_isRaise 11 = .ok (.ireturn, 1) := by decide +kernel
set_option maxRecDepth 20000 in
theorem ggX7_isReviewer_X7_in : GoodIn wsX7_isReviewer wsX7_in := goodIn_r _ [4] (by decide +kernel) (by decide +kernel)
set_option maxRecDepth 20000 in
theorem gX7_isReviewer_X7_in : GoodIn wsX7_isReviewer (va_wsS RX7 75 yX7_in wsX7_in) := goodIn_app (goodIn_of _ (by decide +kernel)) ggX7_isReviewer_X7_in
theorem dX7_isReviewer_0 : decode cX7_isReviewer 0 = .ok (.iload_n 0, 1) := by decide +kernel
theorem dX7_isReviewer_1 : decode cX7_isReviewer 1 = .ok (.iconst 0, 1) := by decide +kernel
theorem dX7_isReviewer_2 : decode cX7_isReviewer 2 = .ok (.iconst 5, 1) := by decide +kernel
theorem dX7_isReviewer_3 : decode cX7_isReviewer 3 = .ok (.invokestatic 75, 3) := by decide +kernel
theorem dX7_isReviewer_6 : decode cX7_isReviewer 6 = .ok (.ireturn, 1) := by decide +kernel
set_option maxRecDepth 20000 in
theorem ggX7_pack_X7_in : GoodIn wsX7_pack wsX7_in := goodIn_r _ [6] (by decide +kernel) (by decide +kernel)
set_option maxRecDepth 20000 in
theorem gX7_pack_X7_in : GoodIn wsX7_pack (va_wsS RX7 75 yX7_in wsX7_in) := goodIn_app (goodIn_of _ (by decide +kernel)) ggX7_pack_X7_in
set_option maxRecDepth 20000 in
theorem ggX7_pack_X7_refused : GoodIn wsX7_pack wsX7_refused := goodIn_r _ [10, 11, 12, 13, 14, 15, 16, 17, 18, 19, 20, 21, 22, 23, 24, 25, 26, 27, 28, 29, 30, 31, 32, 33, 34, 35, 36] (by decide +kernel) (by decide +kernel)
set_option maxRecDepth 20000 in
theorem gX7_pack_X7_refused : GoodIn wsX7_pack (wsV RX7 86 RX7 yX7_refused wsX7_refused) := goodIn_app (goodIn_of _ (by decide +kernel)) ggX7_pack_X7_refused
theorem dX7_pack_0 : decode cX7_pack 0 = .ok (.aload_n 0, 1) := by decide +kernel
theorem dX7_pack_1 : decode cX7_pack 1 = .ok (.iload_n 1, 1) := by decide +kernel
theorem dX7_pack_2 : decode cX7_pack 2 = .ok (.iconst 1, 1) := by decide +kernel
theorem dX7_pack_3 : decode cX7_pack 3 = .ok (.bipush 99, 2) := by decide +kernel
theorem dX7_pack_5 : decode cX7_pack 5 = .ok (.invokestatic 75, 3) := by decide +kernel
theorem dX7_pack_8 : decode cX7_pack 8 = .ok (.ifCond .ne 7, 3) := by decide +kernel
theorem dX7_pack_11 : decode cX7_pack 11 = .ok (.iconst 1, 1) := by decide +kernel
theorem dX7_pack_12 : decode cX7_pack 12 = .ok (.goto 17, 3) := by decide +kernel
theorem dX7_pack_15 : decode cX7_pack 15 = .ok (.aload_n 0, 1) := by decide +kernel
theorem dX7_pack_16 : decode cX7_pack 16 = .ok (.getfield 72, 3) := by decide +kernel
theorem dX7_pack_19 : decode cX7_pack 19 = .ok (.bipush 12, 2) := by decide +kernel
theorem dX7_pack_21 : decode cX7_pack 21 = .ok (.if_icmp .ne 7, 3) := by decide +kernel
theorem dX7_pack_24 : decode cX7_pack 24 = .ok (.iconst 2, 1) := by decide +kernel
theorem dX7_pack_25 : decode cX7_pack 25 = .ok (.goto 4, 3) := by decide +kernel
theorem dX7_pack_28 : decode cX7_pack 28 = .ok (.iconst 0, 1) := by decide +kernel
theorem dX7_pack_29 : decode cX7_pack 29 = .ok (.invokevirtual 86, 3) := by decide +kernel
theorem dX7_pack_32 : decode cX7_pack 32 = .ok (.ifCond .eq 5, 3) := by decide +kernel
theorem dX7_pack_35 : decode cX7_pack 35 = .ok (.iconst 0, 1) := by decide +kernel
theorem dX7_pack_36 : decode cX7_pack 36 = .ok (.ireturn, 1) := by decide +kernel
theorem dX7_pack_37 : decode cX7_pack 37 = .ok (.aload_n 0, 1) := by decide +kernel
theorem dX7_pack_38 : decode cX7_pack 38 = .ok (.getfield 7, 3) := by decide +kernel
theorem dX7_pack_41 : decode cX7_pack 41 = .ok (.aload_n 0, 1) := by decide +kernel
theorem dX7_pack_42 : decode cX7_pack 42 = .ok (.getfield 72, 3) := by decide +kernel
theorem dX7_pack_45 : decode cX7_pack 45 = .ok (.iload_n 1, 1) := by decide +kernel
theorem dX7_pack_46 : decode cX7_pack 46 = .ok (.iastore, 1) := by decide +kernel
theorem dX7_pack_47 : decode cX7_pack 47 = .ok (.aload_n 0, 1) := by decide +kernel
theorem dX7_pack_48 : decode cX7_pack 48 = .ok (.dup, 1) := by decide +kernel
theorem dX7_pack_49 : decode cX7_pack 49 = .ok (.getfield 72, 3) := by decide +kernel
theorem dX7_pack_52 : decode cX7_pack 52 = .ok (.iconst 1, 1) := by decide +kernel
theorem dX7_pack_53 : decode cX7_pack 53 = .ok (.iadd, 1) := by decide +kernel
theorem dX7_pack_54 : decode cX7_pack 54 = .ok (.putfield 72, 3) := by decide +kernel
theorem dX7_pack_57 : decode cX7_pack 57 = .ok (.aload_n 0, 1) := by decide +kernel
theorem dX7_pack_58 : decode cX7_pack 58 = .ok (.getfield 72, 3) := by decide +kernel
theorem dX7_pack_61 : decode cX7_pack 61 = .ok (.iconst 1, 1) := by decide +kernel
theorem dX7_pack_62 : decode cX7_pack 62 = .ok (.isub, 1) := by decide +kernel
theorem dX7_pack_63 : decode cX7_pack 63 = .ok (.ireturn, 1) := by decide +kernel
set_option maxRecDepth 20000 in
theorem ggX7_need_X7_isPack : GoodIn wsX7_need wsX7_isPack := goodIn_r _ [11, 12, 13, 14, 10, 15, 21, 22, 23, 24, 25, 26, 27, 28, 29, 30, 31, 32, 33, 34, 35, 36, 37, 38, 39, 40, 41, 42, 43, 44, 45] (by decide +kernel) (by decide +kernel)
set_option maxRecDepth 20000 in
theorem gX7_need_X7_isPack : GoodIn wsX7_need (wsV RX7 89 RX7 yX7_isPack wsX7_isPack) := goodIn_app (goodIn_of _ (by decide +kernel)) ggX7_need_X7_isPack
set_option maxRecDepth 20000 in
theorem ggX7_need_X7_in : GoodIn wsX7_need wsX7_in := goodIn_r _ [15] (by decide +kernel) (by decide +kernel)
set_option maxRecDepth 20000 in
theorem gX7_need_X7_in : GoodIn wsX7_need (va_wsS RX7 75 yX7_in wsX7_in) := goodIn_app (goodIn_of _ (by decide +kernel)) ggX7_need_X7_in
set_option maxRecDepth 20000 in
theorem ggX7_need_X7_refused : GoodIn wsX7_need wsX7_refused := goodIn_r _ [19, 20, 21, 22, 23, 24, 25, 26, 27, 28, 29, 30, 31, 32, 33, 34, 35, 36, 37, 38, 39, 40, 41, 42, 43, 44, 45] (by decide +kernel) (by decide +kernel)
set_option maxRecDepth 20000 in
theorem gX7_need_X7_refused : GoodIn wsX7_need (wsV RX7 86 RX7 yX7_refused wsX7_refused) := goodIn_app (goodIn_of _ (by decide +kernel)) ggX7_need_X7_refused
theorem dX7_need_0 : decode cX7_need 0 = .ok (.aload_n 0, 1) := by decide +kernel
theorem dX7_need_1 : decode cX7_need 1 = .ok (.iload_n 1, 1) := by decide +kernel
theorem dX7_need_2 : decode cX7_need 2 = .ok (.invokevirtual 89, 3) := by decide +kernel
theorem dX7_need_5 : decode cX7_need 5 = .ok (.ifCond .eq 15, 3) := by decide +kernel
theorem dX7_need_8 : decode cX7_need 8 = .ok (.aload_n 0, 1) := by decide +kernel
theorem dX7_need_9 : decode cX7_need 9 = .ok (.iload_n 2, 1) := by decide +kernel
theorem dX7_need_10 : decode cX7_need 10 = .ok (.invokevirtual 89, 3) := by decide +kernel
theorem dX7_need_13 : decode cX7_need 13 = .ok (.ifCond .eq 7, 3) := by decide +kernel
theorem dX7_need_16 : decode cX7_need 16 = .ok (.iconst 1, 1) := by decide +kernel
theorem dX7_need_17 : decode cX7_need 17 = .ok (.goto 4, 3) := by decide +kernel
theorem dX7_need_20 : decode cX7_need 20 = .ok (.iconst 0, 1) := by decide +kernel
theorem dX7_need_21 : decode cX7_need 21 = .ok (.istore 5, 2) := by decide +kernel
theorem dX7_need_23 : decode cX7_need 23 = .ok (.iload_n 1, 1) := by decide +kernel
theorem dX7_need_24 : decode cX7_need 24 = .ok (.iload_n 2, 1) := by decide +kernel
theorem dX7_need_25 : decode cX7_need 25 = .ok (.if_icmp .eq 29, 3) := by decide +kernel
theorem dX7_need_28 : decode cX7_need 28 = .ok (.iload_n 3, 1) := by decide +kernel
theorem dX7_need_29 : decode cX7_need 29 = .ok (.bipush (-98), 2) := by decide +kernel
theorem dX7_need_31 : decode cX7_need 31 = .ok (.bipush 98, 2) := by decide +kernel
theorem dX7_need_33 : decode cX7_need 33 = .ok (.invokestatic 75, 3) := by decide +kernel
theorem dX7_need_36 : decode cX7_need 36 = .ok (.ifCond .eq 18, 3) := by decide +kernel
theorem dX7_need_39 : decode cX7_need 39 = .ok (.iload 4, 2) := by decide +kernel
theorem dX7_need_41 : decode cX7_need 41 = .ok (.iload_n 3, 1) := by decide +kernel
theorem dX7_need_42 : decode cX7_need 42 = .ok (.bipush 98, 2) := by decide +kernel
theorem dX7_need_44 : decode cX7_need 44 = .ok (.invokestatic 75, 3) := by decide +kernel
theorem dX7_need_47 : decode cX7_need 47 = .ok (.ifCond .eq 7, 3) := by decide +kernel
theorem dX7_need_50 : decode cX7_need 50 = .ok (.iconst 1, 1) := by decide +kernel
theorem dX7_need_51 : decode cX7_need 51 = .ok (.goto 4, 3) := by decide +kernel
theorem dX7_need_54 : decode cX7_need 54 = .ok (.iconst 0, 1) := by decide +kernel
theorem dX7_need_55 : decode cX7_need 55 = .ok (.istore 6, 2) := by decide +kernel
theorem dX7_need_57 : decode cX7_need 57 = .ok (.aload_n 0, 1) := by decide +kernel
theorem dX7_need_58 : decode cX7_need 58 = .ok (.iload 5, 2) := by decide +kernel
theorem dX7_need_60 : decode cX7_need 60 = .ok (.ifCond .ne 7, 3) := by decide +kernel
theorem dX7_need_63 : decode cX7_need 63 = .ok (.iconst 1, 1) := by decide +kernel
theorem dX7_need_64 : decode cX7_need 64 = .ok (.goto 48, 3) := by decide +kernel
theorem dX7_need_67 : decode cX7_need 67 = .ok (.iload 6, 2) := by decide +kernel
theorem dX7_need_69 : decode cX7_need 69 = .ok (.ifCond .ne 7, 3) := by decide +kernel
theorem dX7_need_72 : decode cX7_need 72 = .ok (.iconst 2, 1) := by decide +kernel
theorem dX7_need_73 : decode cX7_need 73 = .ok (.goto 39, 3) := by decide +kernel
theorem dX7_need_76 : decode cX7_need 76 = .ok (.aload_n 0, 1) := by decide +kernel
theorem dX7_need_77 : decode cX7_need 77 = .ok (.getfield 7, 3) := by decide +kernel
theorem dX7_need_80 : decode cX7_need 80 = .ok (.iload_n 2, 1) := by decide +kernel
theorem dX7_need_81 : decode cX7_need 81 = .ok (.iaload, 1) := by decide +kernel
theorem dX7_need_82 : decode cX7_need 82 = .ok (.aload_n 0, 1) := by decide +kernel
theorem dX7_need_83 : decode cX7_need 83 = .ok (.getfield 7, 3) := by decide +kernel
theorem dX7_need_86 : decode cX7_need 86 = .ok (.iload_n 1, 1) := by decide +kernel
theorem dX7_need_87 : decode cX7_need 87 = .ok (.iaload, 1) := by decide +kernel
theorem dX7_need_88 : decode cX7_need 88 = .ok (.isub, 1) := by decide +kernel
theorem dX7_need_89 : decode cX7_need 89 = .ok (.iload_n 3, 1) := by decide +kernel
theorem dX7_need_90 : decode cX7_need 90 = .ok (.iload 4, 2) := by decide +kernel
theorem dX7_need_92 : decode cX7_need 92 = .ok (.invokestatic 75, 3) := by decide +kernel
theorem dX7_need_95 : decode cX7_need 95 = .ok (.ifCond .eq 12, 3) := by decide +kernel
theorem dX7_need_98 : decode cX7_need 98 = .ok (.aload_n 0, 1) := by decide +kernel
theorem dX7_need_99 : decode cX7_need 99 = .ok (.getfield 92, 3) := by decide +kernel
theorem dX7_need_102 : decode cX7_need 102 = .ok (.bipush 20, 2) := by decide +kernel
theorem dX7_need_104 : decode cX7_need 104 = .ok (.if_icmp .ne 7, 3) := by decide +kernel
theorem dX7_need_107 : decode cX7_need 107 = .ok (.iconst 3, 1) := by decide +kernel
theorem dX7_need_108 : decode cX7_need 108 = .ok (.goto 4, 3) := by decide +kernel
theorem dX7_need_111 : decode cX7_need 111 = .ok (.iconst 0, 1) := by decide +kernel
theorem dX7_need_112 : decode cX7_need 112 = .ok (.invokevirtual 86, 3) := by decide +kernel
theorem dX7_need_115 : decode cX7_need 115 = .ok (.ifCond .eq 5, 3) := by decide +kernel
theorem dX7_need_118 : decode cX7_need 118 = .ok (.iconst 0, 1) := by decide +kernel
theorem dX7_need_119 : decode cX7_need 119 = .ok (.ireturn, 1) := by decide +kernel
theorem dX7_need_120 : decode cX7_need 120 = .ok (.aload_n 0, 1) := by decide +kernel
theorem dX7_need_121 : decode cX7_need 121 = .ok (.getfield 13, 3) := by decide +kernel
theorem dX7_need_124 : decode cX7_need 124 = .ok (.aload_n 0, 1) := by decide +kernel
theorem dX7_need_125 : decode cX7_need 125 = .ok (.getfield 92, 3) := by decide +kernel
theorem dX7_need_128 : decode cX7_need 128 = .ok (.iload_n 1, 1) := by decide +kernel
theorem dX7_need_129 : decode cX7_need 129 = .ok (.iastore, 1) := by decide +kernel
theorem dX7_need_130 : decode cX7_need 130 = .ok (.aload_n 0, 1) := by decide +kernel
theorem dX7_need_131 : decode cX7_need 131 = .ok (.getfield 16, 3) := by decide +kernel
theorem dX7_need_134 : decode cX7_need 134 = .ok (.aload_n 0, 1) := by decide +kernel
theorem dX7_need_135 : decode cX7_need 135 = .ok (.getfield 92, 3) := by decide +kernel
theorem dX7_need_138 : decode cX7_need 138 = .ok (.iload_n 2, 1) := by decide +kernel
theorem dX7_need_139 : decode cX7_need 139 = .ok (.iastore, 1) := by decide +kernel
theorem dX7_need_140 : decode cX7_need 140 = .ok (.aload_n 0, 1) := by decide +kernel
theorem dX7_need_141 : decode cX7_need 141 = .ok (.getfield 19, 3) := by decide +kernel
theorem dX7_need_144 : decode cX7_need 144 = .ok (.aload_n 0, 1) := by decide +kernel
theorem dX7_need_145 : decode cX7_need 145 = .ok (.getfield 92, 3) := by decide +kernel
theorem dX7_need_148 : decode cX7_need 148 = .ok (.iload_n 3, 1) := by decide +kernel
theorem dX7_need_149 : decode cX7_need 149 = .ok (.iastore, 1) := by decide +kernel
theorem dX7_need_150 : decode cX7_need 150 = .ok (.aload_n 0, 1) := by decide +kernel
theorem dX7_need_151 : decode cX7_need 151 = .ok (.getfield 22, 3) := by decide +kernel
theorem dX7_need_154 : decode cX7_need 154 = .ok (.aload_n 0, 1) := by decide +kernel
theorem dX7_need_155 : decode cX7_need 155 = .ok (.getfield 92, 3) := by decide +kernel
theorem dX7_need_158 : decode cX7_need 158 = .ok (.iload 4, 2) := by decide +kernel
theorem dX7_need_160 : decode cX7_need 160 = .ok (.iastore, 1) := by decide +kernel
theorem dX7_need_161 : decode cX7_need 161 = .ok (.aload_n 0, 1) := by decide +kernel
theorem dX7_need_162 : decode cX7_need 162 = .ok (.dup, 1) := by decide +kernel
theorem dX7_need_163 : decode cX7_need 163 = .ok (.getfield 92, 3) := by decide +kernel
theorem dX7_need_166 : decode cX7_need 166 = .ok (.iconst 1, 1) := by decide +kernel
theorem dX7_need_167 : decode cX7_need 167 = .ok (.iadd, 1) := by decide +kernel
theorem dX7_need_168 : decode cX7_need 168 = .ok (.putfield 92, 3) := by decide +kernel
theorem dX7_need_171 : decode cX7_need 171 = .ok (.aload_n 0, 1) := by decide +kernel
theorem dX7_need_172 : decode cX7_need 172 = .ok (.getfield 92, 3) := by decide +kernel
theorem dX7_need_175 : decode cX7_need 175 = .ok (.ireturn, 1) := by decide +kernel
set_option maxRecDepth 20000 in
theorem ggX7_trust_X7_isReviewer : GoodIn wsX7_trust wsX7_isReviewer := goodIn_r _ [5, 6, 7, 4, 8] (by decide +kernel) (by decide +kernel)
set_option maxRecDepth 20000 in
theorem gX7_trust_X7_isReviewer : GoodIn wsX7_trust (va_wsS RX7 95 yX7_isReviewer wsX7_isReviewer) := goodIn_app (goodIn_of _ (by decide +kernel)) ggX7_trust_X7_isReviewer
set_option maxRecDepth 20000 in
theorem ggX7_trust_X7_in : GoodIn wsX7_trust wsX7_in := goodIn_r _ [8] (by decide +kernel) (by decide +kernel)
set_option maxRecDepth 20000 in
theorem gX7_trust_X7_in : GoodIn wsX7_trust (va_wsS RX7 75 yX7_in wsX7_in) := goodIn_app (goodIn_of _ (by decide +kernel)) ggX7_trust_X7_in
set_option maxRecDepth 20000 in
theorem ggX7_trust_X7_refused : GoodIn wsX7_trust wsX7_refused := goodIn_r _ [12, 13, 14, 15, 16, 17, 18, 19, 20, 21, 22, 23, 24, 25, 26, 27, 28, 29, 30, 31, 32, 33, 34, 35, 36, 37, 38] (by decide +kernel) (by decide +kernel)
set_option maxRecDepth 20000 in
theorem gX7_trust_X7_refused : GoodIn wsX7_trust (wsV RX7 86 RX7 yX7_refused wsX7_refused) := goodIn_app (goodIn_of _ (by decide +kernel)) ggX7_trust_X7_refused
theorem dX7_trust_0 : decode cX7_trust 0 = .ok (.aload_n 0, 1) := by decide +kernel
theorem dX7_trust_1 : decode cX7_trust 1 = .ok (.iload_n 1, 1) := by decide +kernel
theorem dX7_trust_2 : decode cX7_trust 2 = .ok (.invokestatic 95, 3) := by decide +kernel
theorem dX7_trust_5 : decode cX7_trust 5 = .ok (.ifCond .ne 7, 3) := by decide +kernel
theorem dX7_trust_8 : decode cX7_trust 8 = .ok (.iconst 1, 1) := by decide +kernel
theorem dX7_trust_9 : decode cX7_trust 9 = .ok (.goto 18, 3) := by decide +kernel
theorem dX7_trust_12 : decode cX7_trust 12 = .ok (.iload_n 2, 1) := by decide +kernel
theorem dX7_trust_13 : decode cX7_trust 13 = .ok (.iconst 0, 1) := by decide +kernel
theorem dX7_trust_14 : decode cX7_trust 14 = .ok (.bipush 9, 2) := by decide +kernel
theorem dX7_trust_16 : decode cX7_trust 16 = .ok (.invokestatic 75, 3) := by decide +kernel
theorem dX7_trust_19 : decode cX7_trust 19 = .ok (.ifCond .ne 7, 3) := by decide +kernel
theorem dX7_trust_22 : decode cX7_trust 22 = .ok (.iconst 2, 1) := by decide +kernel
theorem dX7_trust_23 : decode cX7_trust 23 = .ok (.goto 4, 3) := by decide +kernel
theorem dX7_trust_26 : decode cX7_trust 26 = .ok (.iconst 0, 1) := by decide +kernel
theorem dX7_trust_27 : decode cX7_trust 27 = .ok (.invokevirtual 86, 3) := by decide +kernel
theorem dX7_trust_30 : decode cX7_trust 30 = .ok (.ifCond .eq 5, 3) := by decide +kernel
theorem dX7_trust_33 : decode cX7_trust 33 = .ok (.iconst 0, 1) := by decide +kernel
theorem dX7_trust_34 : decode cX7_trust 34 = .ok (.ireturn, 1) := by decide +kernel
theorem dX7_trust_35 : decode cX7_trust 35 = .ok (.aload_n 0, 1) := by decide +kernel
theorem dX7_trust_36 : decode cX7_trust 36 = .ok (.getfield 25, 3) := by decide +kernel
theorem dX7_trust_39 : decode cX7_trust 39 = .ok (.iload_n 1, 1) := by decide +kernel
theorem dX7_trust_40 : decode cX7_trust 40 = .ok (.iaload, 1) := by decide +kernel
theorem dX7_trust_41 : decode cX7_trust 41 = .ok (.istore_n 3, 1) := by decide +kernel
theorem dX7_trust_42 : decode cX7_trust 42 = .ok (.aload_n 0, 1) := by decide +kernel
theorem dX7_trust_43 : decode cX7_trust 43 = .ok (.getfield 25, 3) := by decide +kernel
theorem dX7_trust_46 : decode cX7_trust 46 = .ok (.iload_n 1, 1) := by decide +kernel
theorem dX7_trust_47 : decode cX7_trust 47 = .ok (.iload_n 2, 1) := by decide +kernel
theorem dX7_trust_48 : decode cX7_trust 48 = .ok (.iastore, 1) := by decide +kernel
theorem dX7_trust_49 : decode cX7_trust 49 = .ok (.iload_n 3, 1) := by decide +kernel
theorem dX7_trust_50 : decode cX7_trust 50 = .ok (.ireturn, 1) := by decide +kernel
set_option maxRecDepth 20000 in
theorem ggX7_patience_X7_in : GoodIn wsX7_patience wsX7_in := goodIn_r _ [5] (by decide +kernel) (by decide +kernel)
set_option maxRecDepth 20000 in
theorem gX7_patience_X7_in : GoodIn wsX7_patience (va_wsS RX7 75 yX7_in wsX7_in) := goodIn_app (goodIn_of _ (by decide +kernel)) ggX7_patience_X7_in
set_option maxRecDepth 20000 in
theorem ggX7_patience_X7_refused : GoodIn wsX7_patience wsX7_refused := goodIn_r _ [9, 10, 11, 12, 13, 14, 15, 16, 17, 18, 19, 20, 21, 22, 23, 24, 25, 26, 27, 28, 29, 30, 31, 32, 33, 34, 35] (by decide +kernel) (by decide +kernel)
set_option maxRecDepth 20000 in
theorem gX7_patience_X7_refused : GoodIn wsX7_patience (wsV RX7 86 RX7 yX7_refused wsX7_refused) := goodIn_app (goodIn_of _ (by decide +kernel)) ggX7_patience_X7_refused
theorem dX7_patience_0 : decode cX7_patience 0 = .ok (.aload_n 0, 1) := by decide +kernel
theorem dX7_patience_1 : decode cX7_patience 1 = .ok (.iload_n 1, 1) := by decide +kernel
theorem dX7_patience_2 : decode cX7_patience 2 = .ok (.iconst 1, 1) := by decide +kernel
theorem dX7_patience_3 : decode cX7_patience 3 = .ok (.bipush 100, 2) := by decide +kernel
theorem dX7_patience_5 : decode cX7_patience 5 = .ok (.invokestatic 75, 3) := by decide +kernel
theorem dX7_patience_8 : decode cX7_patience 8 = .ok (.ifCond .eq 7, 3) := by decide +kernel
theorem dX7_patience_11 : decode cX7_patience 11 = .ok (.iconst 0, 1) := by decide +kernel
theorem dX7_patience_12 : decode cX7_patience 12 = .ok (.goto 4, 3) := by decide +kernel
theorem dX7_patience_15 : decode cX7_patience 15 = .ok (.iconst 1, 1) := by decide +kernel
theorem dX7_patience_16 : decode cX7_patience 16 = .ok (.invokevirtual 86, 3) := by decide +kernel
theorem dX7_patience_19 : decode cX7_patience 19 = .ok (.ifCond .eq 5, 3) := by decide +kernel
theorem dX7_patience_22 : decode cX7_patience 22 = .ok (.iconst 0, 1) := by decide +kernel
theorem dX7_patience_23 : decode cX7_patience 23 = .ok (.ireturn, 1) := by decide +kernel
theorem dX7_patience_24 : decode cX7_patience 24 = .ok (.aload_n 0, 1) := by decide +kernel
theorem dX7_patience_25 : decode cX7_patience 25 = .ok (.getfield 28, 3) := by decide +kernel
theorem dX7_patience_28 : decode cX7_patience 28 = .ok (.istore_n 2, 1) := by decide +kernel
theorem dX7_patience_29 : decode cX7_patience 29 = .ok (.aload_n 0, 1) := by decide +kernel
theorem dX7_patience_30 : decode cX7_patience 30 = .ok (.iload_n 1, 1) := by decide +kernel
theorem dX7_patience_31 : decode cX7_patience 31 = .ok (.putfield 28, 3) := by decide +kernel
theorem dX7_patience_34 : decode cX7_patience 34 = .ok (.iload_n 2, 1) := by decide +kernel
theorem dX7_patience_35 : decode cX7_patience 35 = .ok (.ireturn, 1) := by decide +kernel
set_option maxRecDepth 20000 in
theorem ggX7_freeze_X7_in : GoodIn wsX7_freeze wsX7_in := goodIn_r _ [8] (by decide +kernel) (by decide +kernel)
set_option maxRecDepth 20000 in
theorem gX7_freeze_X7_in : GoodIn wsX7_freeze (va_wsS RX7 75 yX7_in wsX7_in) := goodIn_app (goodIn_of _ (by decide +kernel)) ggX7_freeze_X7_in
set_option maxRecDepth 20000 in
theorem ggX7_freeze_X7_refused : GoodIn wsX7_freeze wsX7_refused := goodIn_r _ [12, 13, 14, 15, 16, 17, 18, 19, 20, 21, 22, 23, 24, 25, 26, 27, 28, 29, 30, 31, 32, 33, 34, 35, 36, 37, 38] (by decide +kernel) (by decide +kernel)
set_option maxRecDepth 20000 in
theorem gX7_freeze_X7_refused : GoodIn wsX7_freeze (wsV RX7 86 RX7 yX7_refused wsX7_refused) := goodIn_app (goodIn_of _ (by decide +kernel)) ggX7_freeze_X7_refused
theorem dX7_freeze_0 : decode cX7_freeze 0 = .ok (.iload_n 1, 1) := by decide +kernel
theorem dX7_freeze_1 : decode cX7_freeze 1 = .ok (.iconst 1, 1) := by decide +kernel
theorem dX7_freeze_2 : decode cX7_freeze 2 = .ok (.sipush 4095, 3) := by decide +kernel
theorem dX7_freeze_5 : decode cX7_freeze 5 = .ok (.invokestatic 75, 3) := by decide +kernel
theorem dX7_freeze_8 : decode cX7_freeze 8 = .ok (.ifCond .eq 29, 3) := by decide +kernel
theorem dX7_freeze_11 : decode cX7_freeze 11 = .ok (.iload_n 2, 1) := by decide +kernel
theorem dX7_freeze_12 : decode cX7_freeze 12 = .ok (.iconst 0, 1) := by decide +kernel
theorem dX7_freeze_13 : decode cX7_freeze 13 = .ok (.sipush 1000, 3) := by decide +kernel
theorem dX7_freeze_16 : decode cX7_freeze 16 = .ok (.invokestatic 75, 3) := by decide +kernel
theorem dX7_freeze_19 : decode cX7_freeze 19 = .ok (.ifCond .eq 18, 3) := by decide +kernel
theorem dX7_freeze_22 : decode cX7_freeze 22 = .ok (.iload_n 3, 1) := by decide +kernel
theorem dX7_freeze_23 : decode cX7_freeze 23 = .ok (.iload_n 2, 1) := by decide +kernel
theorem dX7_freeze_24 : decode cX7_freeze 24 = .ok (.sipush 1000, 3) := by decide +kernel
theorem dX7_freeze_27 : decode cX7_freeze 27 = .ok (.invokestatic 75, 3) := by decide +kernel
theorem dX7_freeze_30 : decode cX7_freeze 30 = .ok (.ifCond .eq 7, 3) := by decide +kernel
theorem dX7_freeze_33 : decode cX7_freeze 33 = .ok (.iconst 1, 1) := by decide +kernel
theorem dX7_freeze_34 : decode cX7_freeze 34 = .ok (.goto 4, 3) := by decide +kernel
theorem dX7_freeze_37 : decode cX7_freeze 37 = .ok (.iconst 0, 1) := by decide +kernel
theorem dX7_freeze_38 : decode cX7_freeze 38 = .ok (.istore 4, 2) := by decide +kernel
theorem dX7_freeze_40 : decode cX7_freeze 40 = .ok (.aload_n 0, 1) := by decide +kernel
theorem dX7_freeze_41 : decode cX7_freeze 41 = .ok (.iload 4, 2) := by decide +kernel
theorem dX7_freeze_43 : decode cX7_freeze 43 = .ok (.ifCond .ne 7, 3) := by decide +kernel
theorem dX7_freeze_46 : decode cX7_freeze 46 = .ok (.iconst 1, 1) := by decide +kernel
theorem dX7_freeze_47 : decode cX7_freeze 47 = .ok (.goto 17, 3) := by decide +kernel
theorem dX7_freeze_50 : decode cX7_freeze 50 = .ok (.aload_n 0, 1) := by decide +kernel
theorem dX7_freeze_51 : decode cX7_freeze 51 = .ok (.getfield 98, 3) := by decide +kernel
theorem dX7_freeze_54 : decode cX7_freeze 54 = .ok (.bipush 10, 2) := by decide +kernel
theorem dX7_freeze_56 : decode cX7_freeze 56 = .ok (.if_icmp .ne 7, 3) := by decide +kernel
theorem dX7_freeze_59 : decode cX7_freeze 59 = .ok (.iconst 2, 1) := by decide +kernel
theorem dX7_freeze_60 : decode cX7_freeze 60 = .ok (.goto 4, 3) := by decide +kernel
theorem dX7_freeze_63 : decode cX7_freeze 63 = .ok (.iconst 0, 1) := by decide +kernel
theorem dX7_freeze_64 : decode cX7_freeze 64 = .ok (.invokevirtual 86, 3) := by decide +kernel
theorem dX7_freeze_67 : decode cX7_freeze 67 = .ok (.ifCond .eq 5, 3) := by decide +kernel
theorem dX7_freeze_70 : decode cX7_freeze 70 = .ok (.iconst 0, 1) := by decide +kernel
theorem dX7_freeze_71 : decode cX7_freeze 71 = .ok (.ireturn, 1) := by decide +kernel
theorem dX7_freeze_72 : decode cX7_freeze 72 = .ok (.aload_n 0, 1) := by decide +kernel
theorem dX7_freeze_73 : decode cX7_freeze 73 = .ok (.getfield 32, 3) := by decide +kernel
theorem dX7_freeze_76 : decode cX7_freeze 76 = .ok (.aload_n 0, 1) := by decide +kernel
theorem dX7_freeze_77 : decode cX7_freeze 77 = .ok (.getfield 98, 3) := by decide +kernel
theorem dX7_freeze_80 : decode cX7_freeze 80 = .ok (.iload_n 1, 1) := by decide +kernel
theorem dX7_freeze_81 : decode cX7_freeze 81 = .ok (.iastore, 1) := by decide +kernel
theorem dX7_freeze_82 : decode cX7_freeze 82 = .ok (.aload_n 0, 1) := by decide +kernel
theorem dX7_freeze_83 : decode cX7_freeze 83 = .ok (.getfield 35, 3) := by decide +kernel
theorem dX7_freeze_86 : decode cX7_freeze 86 = .ok (.aload_n 0, 1) := by decide +kernel
theorem dX7_freeze_87 : decode cX7_freeze 87 = .ok (.getfield 98, 3) := by decide +kernel
theorem dX7_freeze_90 : decode cX7_freeze 90 = .ok (.iload_n 2, 1) := by decide +kernel
theorem dX7_freeze_91 : decode cX7_freeze 91 = .ok (.iastore, 1) := by decide +kernel
theorem dX7_freeze_92 : decode cX7_freeze 92 = .ok (.aload_n 0, 1) := by decide +kernel
theorem dX7_freeze_93 : decode cX7_freeze 93 = .ok (.getfield 38, 3) := by decide +kernel
theorem dX7_freeze_96 : decode cX7_freeze 96 = .ok (.aload_n 0, 1) := by decide +kernel
theorem dX7_freeze_97 : decode cX7_freeze 97 = .ok (.getfield 98, 3) := by decide +kernel
theorem dX7_freeze_100 : decode cX7_freeze 100 = .ok (.iload_n 3, 1) := by decide +kernel
theorem dX7_freeze_101 : decode cX7_freeze 101 = .ok (.iastore, 1) := by decide +kernel
theorem dX7_freeze_102 : decode cX7_freeze 102 = .ok (.aload_n 0, 1) := by decide +kernel
theorem dX7_freeze_103 : decode cX7_freeze 103 = .ok (.dup, 1) := by decide +kernel
theorem dX7_freeze_104 : decode cX7_freeze 104 = .ok (.getfield 98, 3) := by decide +kernel
theorem dX7_freeze_107 : decode cX7_freeze 107 = .ok (.iconst 1, 1) := by decide +kernel
theorem dX7_freeze_108 : decode cX7_freeze 108 = .ok (.iadd, 1) := by decide +kernel
theorem dX7_freeze_109 : decode cX7_freeze 109 = .ok (.putfield 98, 3) := by decide +kernel
theorem dX7_freeze_112 : decode cX7_freeze 112 = .ok (.aload_n 0, 1) := by decide +kernel
theorem dX7_freeze_113 : decode cX7_freeze 113 = .ok (.getfield 98, 3) := by decide +kernel
theorem dX7_freeze_116 : decode cX7_freeze 116 = .ok (.ireturn, 1) := by decide +kernel
set_option maxRecDepth 20000 in
theorem ggX7_failing_X7_in : GoodIn wsX7_failing wsX7_in := goodIn_r _ [10] (by decide +kernel) (by decide +kernel)
set_option maxRecDepth 20000 in
theorem gX7_failing_X7_in : GoodIn wsX7_failing (va_wsS RX7 75 yX7_in wsX7_in) := goodIn_app (goodIn_of _ (by decide +kernel)) ggX7_failing_X7_in
theorem dX7_failing_0 : decode cX7_failing 0 = .ok (.iconst 0, 1) := by decide +kernel
theorem dX7_failing_1 : decode cX7_failing 1 = .ok (.istore_n 1, 1) := by decide +kernel
theorem dX7_failing_2 : decode cX7_failing 2 = .ok (.iconst 0, 1) := by decide +kernel
theorem dX7_failing_3 : decode cX7_failing 3 = .ok (.istore_n 2, 1) := by decide +kernel
theorem dX7_failing_4 : decode cX7_failing 4 = .ok (.iload_n 2, 1) := by decide +kernel
theorem dX7_failing_5 : decode cX7_failing 5 = .ok (.aload_n 0, 1) := by decide +kernel
theorem dX7_failing_6 : decode cX7_failing 6 = .ok (.getfield 92, 3) := by decide +kernel
theorem dX7_failing_9 : decode cX7_failing 9 = .ok (.if_icmp .ge 58, 3) := by decide +kernel
theorem dX7_failing_12 : decode cX7_failing 12 = .ok (.iload_n 1, 1) := by decide +kernel
theorem dX7_failing_13 : decode cX7_failing 13 = .ok (.aload_n 0, 1) := by decide +kernel
theorem dX7_failing_14 : decode cX7_failing 14 = .ok (.getfield 66, 3) := by decide +kernel
theorem dX7_failing_17 : decode cX7_failing 17 = .ok (.aload_n 0, 1) := by decide +kernel
theorem dX7_failing_18 : decode cX7_failing 18 = .ok (.getfield 16, 3) := by decide +kernel
theorem dX7_failing_21 : decode cX7_failing 21 = .ok (.iload_n 2, 1) := by decide +kernel
theorem dX7_failing_22 : decode cX7_failing 22 = .ok (.iaload, 1) := by decide +kernel
theorem dX7_failing_23 : decode cX7_failing 23 = .ok (.iaload, 1) := by decide +kernel
theorem dX7_failing_24 : decode cX7_failing 24 = .ok (.aload_n 0, 1) := by decide +kernel
theorem dX7_failing_25 : decode cX7_failing 25 = .ok (.getfield 66, 3) := by decide +kernel
theorem dX7_failing_28 : decode cX7_failing 28 = .ok (.aload_n 0, 1) := by decide +kernel
theorem dX7_failing_29 : decode cX7_failing 29 = .ok (.getfield 13, 3) := by decide +kernel
theorem dX7_failing_32 : decode cX7_failing 32 = .ok (.iload_n 2, 1) := by decide +kernel
theorem dX7_failing_33 : decode cX7_failing 33 = .ok (.iaload, 1) := by decide +kernel
theorem dX7_failing_34 : decode cX7_failing 34 = .ok (.iaload, 1) := by decide +kernel
theorem dX7_failing_35 : decode cX7_failing 35 = .ok (.isub, 1) := by decide +kernel
theorem dX7_failing_36 : decode cX7_failing 36 = .ok (.aload_n 0, 1) := by decide +kernel
theorem dX7_failing_37 : decode cX7_failing 37 = .ok (.getfield 19, 3) := by decide +kernel
theorem dX7_failing_40 : decode cX7_failing 40 = .ok (.iload_n 2, 1) := by decide +kernel
theorem dX7_failing_41 : decode cX7_failing 41 = .ok (.iaload, 1) := by decide +kernel
theorem dX7_failing_42 : decode cX7_failing 42 = .ok (.aload_n 0, 1) := by decide +kernel
theorem dX7_failing_43 : decode cX7_failing 43 = .ok (.getfield 22, 3) := by decide +kernel
theorem dX7_failing_46 : decode cX7_failing 46 = .ok (.iload_n 2, 1) := by decide +kernel
theorem dX7_failing_47 : decode cX7_failing 47 = .ok (.iaload, 1) := by decide +kernel
theorem dX7_failing_48 : decode cX7_failing 48 = .ok (.invokestatic 75, 3) := by decide +kernel
theorem dX7_failing_51 : decode cX7_failing 51 = .ok (.ifCond .eq 7, 3) := by decide +kernel
theorem dX7_failing_54 : decode cX7_failing 54 = .ok (.iconst 0, 1) := by decide +kernel
theorem dX7_failing_55 : decode cX7_failing 55 = .ok (.goto 4, 3) := by decide +kernel
theorem dX7_failing_58 : decode cX7_failing 58 = .ok (.iconst 1, 1) := by decide +kernel
theorem dX7_failing_59 : decode cX7_failing 59 = .ok (.iadd, 1) := by decide +kernel
theorem dX7_failing_60 : decode cX7_failing 60 = .ok (.istore_n 1, 1) := by decide +kernel
theorem dX7_failing_61 : decode cX7_failing 61 = .ok (.iinc 2 1, 3) := by decide +kernel
theorem dX7_failing_64 : decode cX7_failing 64 = .ok (.goto (-60), 3) := by decide +kernel
theorem dX7_failing_67 : decode cX7_failing 67 = .ok (.iload_n 1, 1) := by decide +kernel
theorem dX7_failing_68 : decode cX7_failing 68 = .ok (.ireturn, 1) := by decide +kernel
theorem dX7_asNow_0 : decode cX7_asNow 0 = .ok (.iconst 0, 1) := by decide +kernel
theorem dX7_asNow_1 : decode cX7_asNow 1 = .ok (.istore_n 1, 1) := by decide +kernel
theorem dX7_asNow_2 : decode cX7_asNow 2 = .ok (.iload_n 1, 1) := by decide +kernel
theorem dX7_asNow_3 : decode cX7_asNow 3 = .ok (.aload_n 0, 1) := by decide +kernel
theorem dX7_asNow_4 : decode cX7_asNow 4 = .ok (.getfield 72, 3) := by decide +kernel
theorem dX7_asNow_7 : decode cX7_asNow 7 = .ok (.if_icmp .ge 21, 3) := by decide +kernel
theorem dX7_asNow_10 : decode cX7_asNow 10 = .ok (.aload_n 0, 1) := by decide +kernel
theorem dX7_asNow_11 : decode cX7_asNow 11 = .ok (.getfield 66, 3) := by decide +kernel
theorem dX7_asNow_14 : decode cX7_asNow 14 = .ok (.iload_n 1, 1) := by decide +kernel
theorem dX7_asNow_15 : decode cX7_asNow 15 = .ok (.aload_n 0, 1) := by decide +kernel
theorem dX7_asNow_16 : decode cX7_asNow 16 = .ok (.getfield 7, 3) := by decide +kernel
theorem dX7_asNow_19 : decode cX7_asNow 19 = .ok (.iload_n 1, 1) := by decide +kernel
theorem dX7_asNow_20 : decode cX7_asNow 20 = .ok (.iaload, 1) := by decide +kernel
theorem dX7_asNow_21 : decode cX7_asNow 21 = .ok (.iastore, 1) := by decide +kernel
theorem dX7_asNow_22 : decode cX7_asNow 22 = .ok (.iinc 1 1, 3) := by decide +kernel
theorem dX7_asNow_25 : decode cX7_asNow 25 = .ok (.goto (-23), 3) := by decide +kernel
theorem dX7_asNow_28 : decode cX7_asNow 28 = .ok (.return_, 1) := by decide +kernel
set_option maxRecDepth 20000 in
theorem ggX7_failsWith_X7_asNow : GoodIn wsX7_failsWith wsX7_asNow := goodIn_r _ [11, 12, 4, 13, 26, 27, 28, 29, 30, 31, 32, 33, 34, 35, 36, 37, 38, 39, 40, 41, 42, 43, 44, 45, 46, 47, 48, 49, 50] (by decide +kernel) (by decide +kernel)
set_option maxRecDepth 20000 in
theorem gX7_failsWith_X7_asNow : GoodIn wsX7_failsWith (wsV RX7 101 RX7 yX7_asNow wsX7_asNow) := goodIn_app (goodIn_of _ (by decide +kernel)) ggX7_failsWith_X7_asNow
set_option maxRecDepth 20000 in
theorem ggX7_failsWith_X7_failing : GoodIn wsX7_failsWith wsX7_failing := goodIn_r _ [17, 18, 4, 19, 20, 21, 22, 23, 24, 10, 25, 26, 27, 28, 29, 30, 31, 32, 33, 34, 35, 36, 37, 38, 39, 40, 41, 42, 43, 44, 45, 46, 47, 48, 49, 50] (by decide +kernel) (by decide +kernel)
set_option maxRecDepth 20000 in
theorem gX7_failsWith_X7_failing : GoodIn wsX7_failsWith (wsV RX7 104 RX7 yX7_failing wsX7_failing) := goodIn_app (goodIn_of _ (by decide +kernel)) ggX7_failsWith_X7_failing
theorem dX7_failsWith_0 : decode cX7_failsWith 0 = .ok (.aload_n 0, 1) := by decide +kernel
theorem dX7_failsWith_1 : decode cX7_failsWith 1 = .ok (.invokevirtual 101, 3) := by decide +kernel
theorem dX7_failsWith_4 : decode cX7_failsWith 4 = .ok (.iconst 0, 1) := by decide +kernel
theorem dX7_failsWith_5 : decode cX7_failsWith 5 = .ok (.istore_n 3, 1) := by decide +kernel
theorem dX7_failsWith_6 : decode cX7_failsWith 6 = .ok (.iload_n 3, 1) := by decide +kernel
theorem dX7_failsWith_7 : decode cX7_failsWith 7 = .ok (.aload_n 0, 1) := by decide +kernel
theorem dX7_failsWith_8 : decode cX7_failsWith 8 = .ok (.getfield 79, 3) := by decide +kernel
theorem dX7_failsWith_11 : decode cX7_failsWith 11 = .ok (.if_icmp .ge 55, 3) := by decide +kernel
theorem dX7_failsWith_14 : decode cX7_failsWith 14 = .ok (.aload_n 0, 1) := by decide +kernel
theorem dX7_failsWith_15 : decode cX7_failsWith 15 = .ok (.getfield 41, 3) := by decide +kernel
theorem dX7_failsWith_18 : decode cX7_failsWith 18 = .ok (.iload_n 3, 1) := by decide +kernel
theorem dX7_failsWith_19 : decode cX7_failsWith 19 = .ok (.iaload, 1) := by decide +kernel
theorem dX7_failsWith_20 : decode cX7_failsWith 20 = .ok (.ifCond .ne 40, 3) := by decide +kernel
theorem dX7_failsWith_23 : decode cX7_failsWith 23 = .ok (.aload_n 0, 1) := by decide +kernel
theorem dX7_failsWith_24 : decode cX7_failsWith 24 = .ok (.getfield 56, 3) := by decide +kernel
theorem dX7_failsWith_27 : decode cX7_failsWith 27 = .ok (.iload_n 3, 1) := by decide +kernel
theorem dX7_failsWith_28 : decode cX7_failsWith 28 = .ok (.iaload, 1) := by decide +kernel
theorem dX7_failsWith_29 : decode cX7_failsWith 29 = .ok (.iload_n 1, 1) := by decide +kernel
theorem dX7_failsWith_30 : decode cX7_failsWith 30 = .ok (.if_icmp .eq 13, 3) := by decide +kernel
theorem dX7_failsWith_33 : decode cX7_failsWith 33 = .ok (.aload_n 0, 1) := by decide +kernel
theorem dX7_failsWith_34 : decode cX7_failsWith 34 = .ok (.getfield 56, 3) := by decide +kernel
theorem dX7_failsWith_37 : decode cX7_failsWith 37 = .ok (.iload_n 3, 1) := by decide +kernel
theorem dX7_failsWith_38 : decode cX7_failsWith 38 = .ok (.iaload, 1) := by decide +kernel
theorem dX7_failsWith_39 : decode cX7_failsWith 39 = .ok (.iload_n 2, 1) := by decide +kernel
theorem dX7_failsWith_40 : decode cX7_failsWith 40 = .ok (.if_icmp .ne 20, 3) := by decide +kernel
theorem dX7_failsWith_43 : decode cX7_failsWith 43 = .ok (.aload_n 0, 1) := by decide +kernel
theorem dX7_failsWith_44 : decode cX7_failsWith 44 = .ok (.getfield 66, 3) := by decide +kernel
theorem dX7_failsWith_47 : decode cX7_failsWith 47 = .ok (.aload_n 0, 1) := by decide +kernel
theorem dX7_failsWith_48 : decode cX7_failsWith 48 = .ok (.getfield 44, 3) := by decide +kernel
theorem dX7_failsWith_51 : decode cX7_failsWith 51 = .ok (.iload_n 3, 1) := by decide +kernel
theorem dX7_failsWith_52 : decode cX7_failsWith 52 = .ok (.iaload, 1) := by decide +kernel
theorem dX7_failsWith_53 : decode cX7_failsWith 53 = .ok (.aload_n 0, 1) := by decide +kernel
theorem dX7_failsWith_54 : decode cX7_failsWith 54 = .ok (.getfield 47, 3) := by decide +kernel
theorem dX7_failsWith_57 : decode cX7_failsWith 57 = .ok (.iload_n 3, 1) := by decide +kernel
theorem dX7_failsWith_58 : decode cX7_failsWith 58 = .ok (.iaload, 1) := by decide +kernel
theorem dX7_failsWith_59 : decode cX7_failsWith 59 = .ok (.iastore, 1) := by decide +kernel
theorem dX7_failsWith_60 : decode cX7_failsWith 60 = .ok (.iinc 3 1, 3) := by decide +kernel
theorem dX7_failsWith_63 : decode cX7_failsWith 63 = .ok (.goto (-57), 3) := by decide +kernel
theorem dX7_failsWith_66 : decode cX7_failsWith 66 = .ok (.aload_n 0, 1) := by decide +kernel
theorem dX7_failsWith_67 : decode cX7_failsWith 67 = .ok (.invokevirtual 104, 3) := by decide +kernel
theorem dX7_failsWith_70 : decode cX7_failsWith 70 = .ok (.ireturn, 1) := by decide +kernel
theorem dX7_sizeOf_0 : decode cX7_sizeOf 0 = .ok (.iconst 0, 1) := by decide +kernel
theorem dX7_sizeOf_1 : decode cX7_sizeOf 1 = .ok (.istore_n 2, 1) := by decide +kernel
theorem dX7_sizeOf_2 : decode cX7_sizeOf 2 = .ok (.iconst 0, 1) := by decide +kernel
theorem dX7_sizeOf_3 : decode cX7_sizeOf 3 = .ok (.istore_n 3, 1) := by decide +kernel
theorem dX7_sizeOf_4 : decode cX7_sizeOf 4 = .ok (.iload_n 3, 1) := by decide +kernel
theorem dX7_sizeOf_5 : decode cX7_sizeOf 5 = .ok (.aload_n 0, 1) := by decide +kernel
theorem dX7_sizeOf_6 : decode cX7_sizeOf 6 = .ok (.getfield 79, 3) := by decide +kernel
theorem dX7_sizeOf_9 : decode cX7_sizeOf 9 = .ok (.if_icmp .ge 36, 3) := by decide +kernel
theorem dX7_sizeOf_12 : decode cX7_sizeOf 12 = .ok (.iload_n 2, 1) := by decide +kernel
theorem dX7_sizeOf_13 : decode cX7_sizeOf 13 = .ok (.aload_n 0, 1) := by decide +kernel
theorem dX7_sizeOf_14 : decode cX7_sizeOf 14 = .ok (.getfield 41, 3) := by decide +kernel
theorem dX7_sizeOf_17 : decode cX7_sizeOf 17 = .ok (.iload_n 3, 1) := by decide +kernel
theorem dX7_sizeOf_18 : decode cX7_sizeOf 18 = .ok (.iaload, 1) := by decide +kernel
theorem dX7_sizeOf_19 : decode cX7_sizeOf 19 = .ok (.ifCond .ne 17, 3) := by decide +kernel
theorem dX7_sizeOf_22 : decode cX7_sizeOf 22 = .ok (.aload_n 0, 1) := by decide +kernel
theorem dX7_sizeOf_23 : decode cX7_sizeOf 23 = .ok (.getfield 56, 3) := by decide +kernel
theorem dX7_sizeOf_26 : decode cX7_sizeOf 26 = .ok (.iload_n 3, 1) := by decide +kernel
theorem dX7_sizeOf_27 : decode cX7_sizeOf 27 = .ok (.iaload, 1) := by decide +kernel
theorem dX7_sizeOf_28 : decode cX7_sizeOf 28 = .ok (.iload_n 1, 1) := by decide +kernel
theorem dX7_sizeOf_29 : decode cX7_sizeOf 29 = .ok (.if_icmp .ne 7, 3) := by decide +kernel
theorem dX7_sizeOf_32 : decode cX7_sizeOf 32 = .ok (.iconst 1, 1) := by decide +kernel
theorem dX7_sizeOf_33 : decode cX7_sizeOf 33 = .ok (.goto 4, 3) := by decide +kernel
theorem dX7_sizeOf_36 : decode cX7_sizeOf 36 = .ok (.iconst 0, 1) := by decide +kernel
theorem dX7_sizeOf_37 : decode cX7_sizeOf 37 = .ok (.iadd, 1) := by decide +kernel
theorem dX7_sizeOf_38 : decode cX7_sizeOf 38 = .ok (.istore_n 2, 1) := by decide +kernel
theorem dX7_sizeOf_39 : decode cX7_sizeOf 39 = .ok (.iinc 3 1, 3) := by decide +kernel
theorem dX7_sizeOf_42 : decode cX7_sizeOf 42 = .ok (.goto (-38), 3) := by decide +kernel
theorem dX7_sizeOf_45 : decode cX7_sizeOf 45 = .ok (.iload_n 2, 1) := by decide +kernel
theorem dX7_sizeOf_46 : decode cX7_sizeOf 46 = .ok (.ireturn, 1) := by decide +kernel
theorem dX7_loadOf_0 : decode cX7_loadOf 0 = .ok (.iconst 0, 1) := by decide +kernel
theorem dX7_loadOf_1 : decode cX7_loadOf 1 = .ok (.istore_n 3, 1) := by decide +kernel
theorem dX7_loadOf_2 : decode cX7_loadOf 2 = .ok (.iconst 0, 1) := by decide +kernel
theorem dX7_loadOf_3 : decode cX7_loadOf 3 = .ok (.istore 4, 2) := by decide +kernel
theorem dX7_loadOf_5 : decode cX7_loadOf 5 = .ok (.iload 4, 2) := by decide +kernel
theorem dX7_loadOf_7 : decode cX7_loadOf 7 = .ok (.aload_n 0, 1) := by decide +kernel
theorem dX7_loadOf_8 : decode cX7_loadOf 8 = .ok (.getfield 79, 3) := by decide +kernel
theorem dX7_loadOf_11 : decode cX7_loadOf 11 = .ok (.if_icmp .ge 44, 3) := by decide +kernel
theorem dX7_loadOf_14 : decode cX7_loadOf 14 = .ok (.iload_n 3, 1) := by decide +kernel
theorem dX7_loadOf_15 : decode cX7_loadOf 15 = .ok (.iload 4, 2) := by decide +kernel
theorem dX7_loadOf_17 : decode cX7_loadOf 17 = .ok (.iload_n 2, 1) := by decide +kernel
theorem dX7_loadOf_18 : decode cX7_loadOf 18 = .ok (.if_icmp .eq 28, 3) := by decide +kernel
theorem dX7_loadOf_21 : decode cX7_loadOf 21 = .ok (.aload_n 0, 1) := by decide +kernel
theorem dX7_loadOf_22 : decode cX7_loadOf 22 = .ok (.getfield 41, 3) := by decide +kernel
theorem dX7_loadOf_25 : decode cX7_loadOf 25 = .ok (.iload 4, 2) := by decide +kernel
theorem dX7_loadOf_27 : decode cX7_loadOf 27 = .ok (.iaload, 1) := by decide +kernel
theorem dX7_loadOf_28 : decode cX7_loadOf 28 = .ok (.ifCond .ne 18, 3) := by decide +kernel
theorem dX7_loadOf_31 : decode cX7_loadOf 31 = .ok (.aload_n 0, 1) := by decide +kernel
theorem dX7_loadOf_32 : decode cX7_loadOf 32 = .ok (.getfield 59, 3) := by decide +kernel
theorem dX7_loadOf_35 : decode cX7_loadOf 35 = .ok (.iload 4, 2) := by decide +kernel
theorem dX7_loadOf_37 : decode cX7_loadOf 37 = .ok (.iaload, 1) := by decide +kernel
theorem dX7_loadOf_38 : decode cX7_loadOf 38 = .ok (.iload_n 1, 1) := by decide +kernel
theorem dX7_loadOf_39 : decode cX7_loadOf 39 = .ok (.if_icmp .ne 7, 3) := by decide +kernel
theorem dX7_loadOf_42 : decode cX7_loadOf 42 = .ok (.iconst 1, 1) := by decide +kernel
theorem dX7_loadOf_43 : decode cX7_loadOf 43 = .ok (.goto 4, 3) := by decide +kernel
theorem dX7_loadOf_46 : decode cX7_loadOf 46 = .ok (.iconst 0, 1) := by decide +kernel
theorem dX7_loadOf_47 : decode cX7_loadOf 47 = .ok (.iadd, 1) := by decide +kernel
theorem dX7_loadOf_48 : decode cX7_loadOf 48 = .ok (.istore_n 3, 1) := by decide +kernel
theorem dX7_loadOf_49 : decode cX7_loadOf 49 = .ok (.iinc 4 1, 3) := by decide +kernel
theorem dX7_loadOf_52 : decode cX7_loadOf 52 = .ok (.goto (-47), 3) := by decide +kernel
theorem dX7_loadOf_55 : decode cX7_loadOf 55 = .ok (.iload_n 3, 1) := by decide +kernel
theorem dX7_loadOf_56 : decode cX7_loadOf 56 = .ok (.ireturn, 1) := by decide +kernel
theorem dX7_has_0 : decode cX7_has 0 = .ok (.iconst 0, 1) := by decide +kernel
theorem dX7_has_1 : decode cX7_has 1 = .ok (.istore 5, 2) := by decide +kernel
theorem dX7_has_3 : decode cX7_has 3 = .ok (.iconst 0, 1) := by decide +kernel
theorem dX7_has_4 : decode cX7_has 4 = .ok (.istore 6, 2) := by decide +kernel
theorem dX7_has_6 : decode cX7_has 6 = .ok (.iload 6, 2) := by decide +kernel
theorem dX7_has_8 : decode cX7_has 8 = .ok (.iload 4, 2) := by decide +kernel
theorem dX7_has_10 : decode cX7_has 10 = .ok (.if_icmp .ge 59, 3) := by decide +kernel
theorem dX7_has_13 : decode cX7_has 13 = .ok (.iload 5, 2) := by decide +kernel
theorem dX7_has_15 : decode cX7_has 15 = .ok (.ifCond .ne 41, 3) := by decide +kernel
theorem dX7_has_18 : decode cX7_has 18 = .ok (.iload 6, 2) := by decide +kernel
theorem dX7_has_20 : decode cX7_has 20 = .ok (.iload_n 3, 1) := by decide +kernel
theorem dX7_has_21 : decode cX7_has 21 = .ok (.if_icmp .eq 39, 3) := by decide +kernel
theorem dX7_has_24 : decode cX7_has 24 = .ok (.aload_n 0, 1) := by decide +kernel
theorem dX7_has_25 : decode cX7_has 25 = .ok (.getfield 41, 3) := by decide +kernel
theorem dX7_has_28 : decode cX7_has 28 = .ok (.iload 6, 2) := by decide +kernel
theorem dX7_has_30 : decode cX7_has 30 = .ok (.iaload, 1) := by decide +kernel
theorem dX7_has_31 : decode cX7_has 31 = .ok (.ifCond .ne 29, 3) := by decide +kernel
theorem dX7_has_34 : decode cX7_has 34 = .ok (.aload_n 0, 1) := by decide +kernel
theorem dX7_has_35 : decode cX7_has 35 = .ok (.getfield 56, 3) := by decide +kernel
theorem dX7_has_38 : decode cX7_has 38 = .ok (.iload 6, 2) := by decide +kernel
theorem dX7_has_40 : decode cX7_has 40 = .ok (.iaload, 1) := by decide +kernel
theorem dX7_has_41 : decode cX7_has 41 = .ok (.iload_n 2, 1) := by decide +kernel
theorem dX7_has_42 : decode cX7_has 42 = .ok (.if_icmp .ne 18, 3) := by decide +kernel
theorem dX7_has_45 : decode cX7_has 45 = .ok (.aload_n 0, 1) := by decide +kernel
theorem dX7_has_46 : decode cX7_has 46 = .ok (.getfield 59, 3) := by decide +kernel
theorem dX7_has_49 : decode cX7_has 49 = .ok (.iload 6, 2) := by decide +kernel
theorem dX7_has_51 : decode cX7_has 51 = .ok (.iaload, 1) := by decide +kernel
theorem dX7_has_52 : decode cX7_has 52 = .ok (.iload_n 1, 1) := by decide +kernel
theorem dX7_has_53 : decode cX7_has 53 = .ok (.if_icmp .ne 7, 3) := by decide +kernel
theorem dX7_has_56 : decode cX7_has 56 = .ok (.iconst 1, 1) := by decide +kernel
theorem dX7_has_57 : decode cX7_has 57 = .ok (.goto 4, 3) := by decide +kernel
theorem dX7_has_60 : decode cX7_has 60 = .ok (.iconst 0, 1) := by decide +kernel
theorem dX7_has_61 : decode cX7_has 61 = .ok (.istore 5, 2) := by decide +kernel
theorem dX7_has_63 : decode cX7_has 63 = .ok (.iinc 6 1, 3) := by decide +kernel
theorem dX7_has_66 : decode cX7_has 66 = .ok (.goto (-60), 3) := by decide +kernel
theorem dX7_has_69 : decode cX7_has 69 = .ok (.iload 5, 2) := by decide +kernel
theorem dX7_has_71 : decode cX7_has 71 = .ok (.ireturn, 1) := by decide +kernel
set_option maxRecDepth 20000 in
theorem ggX7_give_X7_has : GoodIn wsX7_give wsX7_has := goodIn_r _ [12, 2, 3, 4, 17, 18, 19, 20, 21, 22, 23, 24, 25, 26, 27, 28, 29, 30, 31, 32, 33, 34, 35, 36, 37, 38, 39, 40, 41] (by decide +kernel) (by decide +kernel)
set_option maxRecDepth 20000 in
theorem gX7_give_X7_has : GoodIn wsX7_give (wsV RX7 108 RX7 yX7_has wsX7_has) := goodIn_app (goodIn_of _ (by decide +kernel)) ggX7_give_X7_has
set_option maxRecDepth 20000 in
theorem ggX7_give_X7_loadOf : GoodIn wsX7_give wsX7_loadOf := goodIn_r _ [16, 1, 2, 4, 17, 18, 19, 20, 21, 22, 23, 24, 25, 26, 27, 28, 29, 30, 31, 32, 33, 34, 35, 36, 37, 38, 39, 40, 41] (by decide +kernel) (by decide +kernel)
set_option maxRecDepth 20000 in
theorem gX7_give_X7_loadOf : GoodIn wsX7_give (wsV RX7 112 RX7 yX7_loadOf wsX7_loadOf) := goodIn_app (goodIn_of _ (by decide +kernel)) ggX7_give_X7_loadOf
theorem dX7_give_0 : decode cX7_give 0 = .ok (.iconst 0, 1) := by decide +kernel
theorem dX7_give_1 : decode cX7_give 1 = .ok (.istore_n 2, 1) := by decide +kernel
theorem dX7_give_2 : decode cX7_give 2 = .ok (.iload_n 2, 1) := by decide +kernel
theorem dX7_give_3 : decode cX7_give 3 = .ok (.aload_n 0, 1) := by decide +kernel
theorem dX7_give_4 : decode cX7_give 4 = .ok (.getfield 79, 3) := by decide +kernel
theorem dX7_give_7 : decode cX7_give 7 = .ok (.if_icmp .ge 180, 3) := by decide +kernel
theorem dX7_give_10 : decode cX7_give 10 = .ok (.aload_n 0, 1) := by decide +kernel
theorem dX7_give_11 : decode cX7_give 11 = .ok (.getfield 41, 3) := by decide +kernel
theorem dX7_give_14 : decode cX7_give 14 = .ok (.iload_n 2, 1) := by decide +kernel
theorem dX7_give_15 : decode cX7_give 15 = .ok (.iaload, 1) := by decide +kernel
theorem dX7_give_16 : decode cX7_give 16 = .ok (.ifCond .ne 165, 3) := by decide +kernel
theorem dX7_give_19 : decode cX7_give 19 = .ok (.aload_n 0, 1) := by decide +kernel
theorem dX7_give_20 : decode cX7_give 20 = .ok (.getfield 56, 3) := by decide +kernel
theorem dX7_give_23 : decode cX7_give 23 = .ok (.iload_n 2, 1) := by decide +kernel
theorem dX7_give_24 : decode cX7_give 24 = .ok (.iaload, 1) := by decide +kernel
theorem dX7_give_25 : decode cX7_give 25 = .ok (.iload_n 1, 1) := by decide +kernel
theorem dX7_give_26 : decode cX7_give 26 = .ok (.if_icmp .ne 155, 3) := by decide +kernel
theorem dX7_give_29 : decode cX7_give 29 = .ok (.aload_n 0, 1) := by decide +kernel
theorem dX7_give_30 : decode cX7_give 30 = .ok (.getfield 59, 3) := by decide +kernel
theorem dX7_give_33 : decode cX7_give 33 = .ok (.iload_n 2, 1) := by decide +kernel
theorem dX7_give_34 : decode cX7_give 34 = .ok (.iaload, 1) := by decide +kernel
theorem dX7_give_35 : decode cX7_give 35 = .ok (.iconst (-1), 1) := by decide +kernel
theorem dX7_give_36 : decode cX7_give 36 = .ok (.if_icmp .eq 19, 3) := by decide +kernel
theorem dX7_give_39 : decode cX7_give 39 = .ok (.aload_n 0, 1) := by decide +kernel
theorem dX7_give_40 : decode cX7_give 40 = .ok (.aload_n 0, 1) := by decide +kernel
theorem dX7_give_41 : decode cX7_give 41 = .ok (.getfield 59, 3) := by decide +kernel
theorem dX7_give_44 : decode cX7_give 44 = .ok (.iload_n 2, 1) := by decide +kernel
theorem dX7_give_45 : decode cX7_give 45 = .ok (.iaload, 1) := by decide +kernel
theorem dX7_give_46 : decode cX7_give 46 = .ok (.iload_n 1, 1) := by decide +kernel
theorem dX7_give_47 : decode cX7_give 47 = .ok (.iload_n 2, 1) := by decide +kernel
theorem dX7_give_48 : decode cX7_give 48 = .ok (.iload_n 2, 1) := by decide +kernel
theorem dX7_give_49 : decode cX7_give 49 = .ok (.invokevirtual 108, 3) := by decide +kernel
theorem dX7_give_52 : decode cX7_give 52 = .ok (.ifCond .eq 129, 3) := by decide +kernel
theorem dX7_give_55 : decode cX7_give 55 = .ok (.iconst (-1), 1) := by decide +kernel
theorem dX7_give_56 : decode cX7_give 56 = .ok (.istore_n 3, 1) := by decide +kernel
theorem dX7_give_57 : decode cX7_give 57 = .ok (.iconst 0, 1) := by decide +kernel
theorem dX7_give_58 : decode cX7_give 58 = .ok (.istore 4, 2) := by decide +kernel
theorem dX7_give_60 : decode cX7_give 60 = .ok (.iload 4, 2) := by decide +kernel
theorem dX7_give_62 : decode cX7_give 62 = .ok (.bipush 6, 2) := by decide +kernel
theorem dX7_give_64 : decode cX7_give 64 = .ok (.if_icmp .ge 80, 3) := by decide +kernel
theorem dX7_give_67 : decode cX7_give 67 = .ok (.aload_n 0, 1) := by decide +kernel
theorem dX7_give_68 : decode cX7_give 68 = .ok (.getfield 25, 3) := by decide +kernel
theorem dX7_give_71 : decode cX7_give 71 = .ok (.iload 4, 2) := by decide +kernel
theorem dX7_give_73 : decode cX7_give 73 = .ok (.iaload, 1) := by decide +kernel
theorem dX7_give_74 : decode cX7_give 74 = .ok (.aload_n 0, 1) := by decide +kernel
theorem dX7_give_75 : decode cX7_give 75 = .ok (.getfield 50, 3) := by decide +kernel
theorem dX7_give_78 : decode cX7_give 78 = .ok (.iload_n 2, 1) := by decide +kernel
theorem dX7_give_79 : decode cX7_give 79 = .ok (.iaload, 1) := by decide +kernel
theorem dX7_give_80 : decode cX7_give 80 = .ok (.if_icmp .lt 22, 3) := by decide +kernel
theorem dX7_give_83 : decode cX7_give 83 = .ok (.aload_n 0, 1) := by decide +kernel
theorem dX7_give_84 : decode cX7_give 84 = .ok (.iload 4, 2) := by decide +kernel
theorem dX7_give_86 : decode cX7_give 86 = .ok (.iload_n 1, 1) := by decide +kernel
theorem dX7_give_87 : decode cX7_give 87 = .ok (.iload_n 2, 1) := by decide +kernel
theorem dX7_give_88 : decode cX7_give 88 = .ok (.aload_n 0, 1) := by decide +kernel
theorem dX7_give_89 : decode cX7_give 89 = .ok (.getfield 79, 3) := by decide +kernel
theorem dX7_give_92 : decode cX7_give 92 = .ok (.invokevirtual 108, 3) := by decide +kernel
theorem dX7_give_95 : decode cX7_give 95 = .ok (.ifCond .ne 7, 3) := by decide +kernel
theorem dX7_give_98 : decode cX7_give 98 = .ok (.iconst 1, 1) := by decide +kernel
theorem dX7_give_99 : decode cX7_give 99 = .ok (.goto 4, 3) := by decide +kernel
theorem dX7_give_102 : decode cX7_give 102 = .ok (.iconst 0, 1) := by decide +kernel
theorem dX7_give_103 : decode cX7_give 103 = .ok (.istore 5, 2) := by decide +kernel
theorem dX7_give_105 : decode cX7_give 105 = .ok (.iload 5, 2) := by decide +kernel
theorem dX7_give_107 : decode cX7_give 107 = .ok (.ifCond .eq 29, 3) := by decide +kernel
theorem dX7_give_110 : decode cX7_give 110 = .ok (.iload_n 3, 1) := by decide +kernel
theorem dX7_give_111 : decode cX7_give 111 = .ok (.iconst (-1), 1) := by decide +kernel
theorem dX7_give_112 : decode cX7_give 112 = .ok (.if_icmp .eq 19, 3) := by decide +kernel
theorem dX7_give_115 : decode cX7_give 115 = .ok (.aload_n 0, 1) := by decide +kernel
theorem dX7_give_116 : decode cX7_give 116 = .ok (.iload 4, 2) := by decide +kernel
theorem dX7_give_118 : decode cX7_give 118 = .ok (.iload_n 2, 1) := by decide +kernel
theorem dX7_give_119 : decode cX7_give 119 = .ok (.invokevirtual 112, 3) := by decide +kernel
theorem dX7_give_122 : decode cX7_give 122 = .ok (.aload_n 0, 1) := by decide +kernel
theorem dX7_give_123 : decode cX7_give 123 = .ok (.iload_n 3, 1) := by decide +kernel
theorem dX7_give_124 : decode cX7_give 124 = .ok (.iload_n 2, 1) := by decide +kernel
theorem dX7_give_125 : decode cX7_give 125 = .ok (.invokevirtual 112, 3) := by decide +kernel
theorem dX7_give_128 : decode cX7_give 128 = .ok (.if_icmp .ge 8, 3) := by decide +kernel
theorem dX7_give_131 : decode cX7_give 131 = .ok (.iload 4, 2) := by decide +kernel
theorem dX7_give_133 : decode cX7_give 133 = .ok (.goto 4, 3) := by decide +kernel
theorem dX7_give_136 : decode cX7_give 136 = .ok (.iload_n 3, 1) := by decide +kernel
theorem dX7_give_137 : decode cX7_give 137 = .ok (.istore_n 3, 1) := by decide +kernel
theorem dX7_give_138 : decode cX7_give 138 = .ok (.iinc 4 1, 3) := by decide +kernel
theorem dX7_give_141 : decode cX7_give 141 = .ok (.goto (-81), 3) := by decide +kernel
theorem dX7_give_144 : decode cX7_give 144 = .ok (.aload_n 0, 1) := by decide +kernel
theorem dX7_give_145 : decode cX7_give 145 = .ok (.getfield 62, 3) := by decide +kernel
theorem dX7_give_148 : decode cX7_give 148 = .ok (.iload_n 2, 1) := by decide +kernel
theorem dX7_give_149 : decode cX7_give 149 = .ok (.aload_n 0, 1) := by decide +kernel
theorem dX7_give_150 : decode cX7_give 150 = .ok (.getfield 62, 3) := by decide +kernel
theorem dX7_give_153 : decode cX7_give 153 = .ok (.iload_n 2, 1) := by decide +kernel
theorem dX7_give_154 : decode cX7_give 154 = .ok (.baload, 1) := by decide +kernel
theorem dX7_give_155 : decode cX7_give 155 = .ok (.ifCond .eq 17, 3) := by decide +kernel
theorem dX7_give_158 : decode cX7_give 158 = .ok (.aload_n 0, 1) := by decide +kernel
theorem dX7_give_159 : decode cX7_give 159 = .ok (.getfield 59, 3) := by decide +kernel
theorem dX7_give_162 : decode cX7_give 162 = .ok (.iload_n 2, 1) := by decide +kernel
theorem dX7_give_163 : decode cX7_give 163 = .ok (.iaload, 1) := by decide +kernel
theorem dX7_give_164 : decode cX7_give 164 = .ok (.iload_n 3, 1) := by decide +kernel
theorem dX7_give_165 : decode cX7_give 165 = .ok (.if_icmp .ne 7, 3) := by decide +kernel
theorem dX7_give_168 : decode cX7_give 168 = .ok (.iconst 1, 1) := by decide +kernel
theorem dX7_give_169 : decode cX7_give 169 = .ok (.goto 4, 3) := by decide +kernel
theorem dX7_give_172 : decode cX7_give 172 = .ok (.iconst 0, 1) := by decide +kernel
theorem dX7_give_173 : decode cX7_give 173 = .ok (.bastore, 1) := by decide +kernel
theorem dX7_give_174 : decode cX7_give 174 = .ok (.aload_n 0, 1) := by decide +kernel
theorem dX7_give_175 : decode cX7_give 175 = .ok (.getfield 59, 3) := by decide +kernel
theorem dX7_give_178 : decode cX7_give 178 = .ok (.iload_n 2, 1) := by decide +kernel
theorem dX7_give_179 : decode cX7_give 179 = .ok (.iload_n 3, 1) := by decide +kernel
theorem dX7_give_180 : decode cX7_give 180 = .ok (.iastore, 1) := by decide +kernel
theorem dX7_give_181 : decode cX7_give 181 = .ok (.iinc 2 1, 3) := by decide +kernel
theorem dX7_give_184 : decode cX7_give 184 = .ok (.goto (-182), 3) := by decide +kernel
theorem dX7_give_187 : decode cX7_give 187 = .ok (.return_, 1) := by decide +kernel
set_option maxRecDepth 20000 in
theorem ggX7_settle_X7_give : GoodIn wsX7_settle wsX7_give := goodIn_r _ [8, 1, 2, 3, 9, 10, 11, 12, 13, 14, 15, 7, 16, 17, 18, 19, 20, 21, 22, 23, 24, 25, 26, 27, 28, 29, 30, 31, 32, 33, 34, 35, 36, 37, 38, 39, 40, 41, 42, 43, 44, 45] (by decide +kernel) (by decide +kernel)
set_option maxRecDepth 20000 in
theorem gX7_settle_X7_give : GoodIn wsX7_settle (wsV RX7 116 RX7 yX7_give wsX7_give) := goodIn_app (goodIn_of _ (by decide +kernel)) ggX7_settle_X7_give
theorem dX7_settle_0 : decode cX7_settle 0 = .ok (.iconst (-1), 1) := by decide +kernel
theorem dX7_settle_1 : decode cX7_settle 1 = .ok (.istore_n 2, 1) := by decide +kernel
theorem dX7_settle_2 : decode cX7_settle 2 = .ok (.aload_n 0, 1) := by decide +kernel
theorem dX7_settle_3 : decode cX7_settle 3 = .ok (.getfield 79, 3) := by decide +kernel
theorem dX7_settle_6 : decode cX7_settle 6 = .ok (.iconst 1, 1) := by decide +kernel
theorem dX7_settle_7 : decode cX7_settle 7 = .ok (.isub, 1) := by decide +kernel
theorem dX7_settle_8 : decode cX7_settle 8 = .ok (.istore_n 3, 1) := by decide +kernel
theorem dX7_settle_9 : decode cX7_settle 9 = .ok (.iload_n 3, 1) := by decide +kernel
theorem dX7_settle_10 : decode cX7_settle 10 = .ok (.ifCond .lt 34, 3) := by decide +kernel
theorem dX7_settle_13 : decode cX7_settle 13 = .ok (.aload_n 0, 1) := by decide +kernel
theorem dX7_settle_14 : decode cX7_settle 14 = .ok (.getfield 41, 3) := by decide +kernel
theorem dX7_settle_17 : decode cX7_settle 17 = .ok (.iload_n 3, 1) := by decide +kernel
theorem dX7_settle_18 : decode cX7_settle 18 = .ok (.iaload, 1) := by decide +kernel
theorem dX7_settle_19 : decode cX7_settle 19 = .ok (.ifCond .ne 17, 3) := by decide +kernel
theorem dX7_settle_22 : decode cX7_settle 22 = .ok (.aload_n 0, 1) := by decide +kernel
theorem dX7_settle_23 : decode cX7_settle 23 = .ok (.getfield 56, 3) := by decide +kernel
theorem dX7_settle_26 : decode cX7_settle 26 = .ok (.iload_n 3, 1) := by decide +kernel
theorem dX7_settle_27 : decode cX7_settle 27 = .ok (.iaload, 1) := by decide +kernel
theorem dX7_settle_28 : decode cX7_settle 28 = .ok (.iload_n 1, 1) := by decide +kernel
theorem dX7_settle_29 : decode cX7_settle 29 = .ok (.if_icmp .ne 7, 3) := by decide +kernel
theorem dX7_settle_32 : decode cX7_settle 32 = .ok (.iload_n 3, 1) := by decide +kernel
theorem dX7_settle_33 : decode cX7_settle 33 = .ok (.goto 4, 3) := by decide +kernel
theorem dX7_settle_36 : decode cX7_settle 36 = .ok (.iload_n 2, 1) := by decide +kernel
theorem dX7_settle_37 : decode cX7_settle 37 = .ok (.istore_n 2, 1) := by decide +kernel
theorem dX7_settle_38 : decode cX7_settle 38 = .ok (.iinc 3 (-1), 3) := by decide +kernel
theorem dX7_settle_41 : decode cX7_settle 41 = .ok (.goto (-32), 3) := by decide +kernel
theorem dX7_settle_44 : decode cX7_settle 44 = .ok (.iconst 0, 1) := by decide +kernel
theorem dX7_settle_45 : decode cX7_settle 45 = .ok (.istore_n 3, 1) := by decide +kernel
theorem dX7_settle_46 : decode cX7_settle 46 = .ok (.iload_n 3, 1) := by decide +kernel
theorem dX7_settle_47 : decode cX7_settle 47 = .ok (.aload_n 0, 1) := by decide +kernel
theorem dX7_settle_48 : decode cX7_settle 48 = .ok (.getfield 79, 3) := by decide +kernel
theorem dX7_settle_51 : decode cX7_settle 51 = .ok (.if_icmp .ge 44, 3) := by decide +kernel
theorem dX7_settle_54 : decode cX7_settle 54 = .ok (.aload_n 0, 1) := by decide +kernel
theorem dX7_settle_55 : decode cX7_settle 55 = .ok (.getfield 56, 3) := by decide +kernel
theorem dX7_settle_58 : decode cX7_settle 58 = .ok (.iload_n 3, 1) := by decide +kernel
theorem dX7_settle_59 : decode cX7_settle 59 = .ok (.aload_n 0, 1) := by decide +kernel
theorem dX7_settle_60 : decode cX7_settle 60 = .ok (.getfield 41, 3) := by decide +kernel
theorem dX7_settle_63 : decode cX7_settle 63 = .ok (.iload_n 3, 1) := by decide +kernel
theorem dX7_settle_64 : decode cX7_settle 64 = .ok (.iaload, 1) := by decide +kernel
theorem dX7_settle_65 : decode cX7_settle 65 = .ok (.ifCond .ne 17, 3) := by decide +kernel
theorem dX7_settle_68 : decode cX7_settle 68 = .ok (.aload_n 0, 1) := by decide +kernel
theorem dX7_settle_69 : decode cX7_settle 69 = .ok (.getfield 56, 3) := by decide +kernel
theorem dX7_settle_72 : decode cX7_settle 72 = .ok (.iload_n 3, 1) := by decide +kernel
theorem dX7_settle_73 : decode cX7_settle 73 = .ok (.iaload, 1) := by decide +kernel
theorem dX7_settle_74 : decode cX7_settle 74 = .ok (.iload_n 1, 1) := by decide +kernel
theorem dX7_settle_75 : decode cX7_settle 75 = .ok (.if_icmp .ne 7, 3) := by decide +kernel
theorem dX7_settle_78 : decode cX7_settle 78 = .ok (.iload_n 2, 1) := by decide +kernel
theorem dX7_settle_79 : decode cX7_settle 79 = .ok (.goto 9, 3) := by decide +kernel
theorem dX7_settle_82 : decode cX7_settle 82 = .ok (.aload_n 0, 1) := by decide +kernel
theorem dX7_settle_83 : decode cX7_settle 83 = .ok (.getfield 56, 3) := by decide +kernel
theorem dX7_settle_86 : decode cX7_settle 86 = .ok (.iload_n 3, 1) := by decide +kernel
theorem dX7_settle_87 : decode cX7_settle 87 = .ok (.iaload, 1) := by decide +kernel
theorem dX7_settle_88 : decode cX7_settle 88 = .ok (.iastore, 1) := by decide +kernel
theorem dX7_settle_89 : decode cX7_settle 89 = .ok (.iinc 3 1, 3) := by decide +kernel
theorem dX7_settle_92 : decode cX7_settle 92 = .ok (.goto (-46), 3) := by decide +kernel
theorem dX7_settle_95 : decode cX7_settle 95 = .ok (.iload_n 2, 1) := by decide +kernel
theorem dX7_settle_96 : decode cX7_settle 96 = .ok (.iconst (-1), 1) := by decide +kernel
theorem dX7_settle_97 : decode cX7_settle 97 = .ok (.if_icmp .eq 8, 3) := by decide +kernel
theorem dX7_settle_100 : decode cX7_settle 100 = .ok (.aload_n 0, 1) := by decide +kernel
theorem dX7_settle_101 : decode cX7_settle 101 = .ok (.iload_n 2, 1) := by decide +kernel
theorem dX7_settle_102 : decode cX7_settle 102 = .ok (.invokevirtual 116, 3) := by decide +kernel
theorem dX7_settle_105 : decode cX7_settle 105 = .ok (.return_, 1) := by decide +kernel
theorem dX7_open_0 : decode cX7_open 0 = .ok (.iconst 0, 1) := by decide +kernel
theorem dX7_open_1 : decode cX7_open 1 = .ok (.istore_n 1, 1) := by decide +kernel
theorem dX7_open_2 : decode cX7_open 2 = .ok (.iconst 0, 1) := by decide +kernel
theorem dX7_open_3 : decode cX7_open 3 = .ok (.istore_n 2, 1) := by decide +kernel
theorem dX7_open_4 : decode cX7_open 4 = .ok (.iload_n 2, 1) := by decide +kernel
theorem dX7_open_5 : decode cX7_open 5 = .ok (.aload_n 0, 1) := by decide +kernel
theorem dX7_open_6 : decode cX7_open 6 = .ok (.getfield 79, 3) := by decide +kernel
theorem dX7_open_9 : decode cX7_open 9 = .ok (.if_icmp .ge 26, 3) := by decide +kernel
theorem dX7_open_12 : decode cX7_open 12 = .ok (.iload_n 1, 1) := by decide +kernel
theorem dX7_open_13 : decode cX7_open 13 = .ok (.aload_n 0, 1) := by decide +kernel
theorem dX7_open_14 : decode cX7_open 14 = .ok (.getfield 41, 3) := by decide +kernel
theorem dX7_open_17 : decode cX7_open 17 = .ok (.iload_n 2, 1) := by decide +kernel
theorem dX7_open_18 : decode cX7_open 18 = .ok (.iaload, 1) := by decide +kernel
theorem dX7_open_19 : decode cX7_open 19 = .ok (.ifCond .ne 7, 3) := by decide +kernel
theorem dX7_open_22 : decode cX7_open 22 = .ok (.iconst 1, 1) := by decide +kernel
theorem dX7_open_23 : decode cX7_open 23 = .ok (.goto 4, 3) := by decide +kernel
theorem dX7_open_26 : decode cX7_open 26 = .ok (.iconst 0, 1) := by decide +kernel
theorem dX7_open_27 : decode cX7_open 27 = .ok (.iadd, 1) := by decide +kernel
theorem dX7_open_28 : decode cX7_open 28 = .ok (.istore_n 1, 1) := by decide +kernel
theorem dX7_open_29 : decode cX7_open 29 = .ok (.iinc 2 1, 3) := by decide +kernel
theorem dX7_open_32 : decode cX7_open 32 = .ok (.goto (-28), 3) := by decide +kernel
theorem dX7_open_35 : decode cX7_open 35 = .ok (.iload_n 1, 1) := by decide +kernel
theorem dX7_open_36 : decode cX7_open 36 = .ok (.ireturn, 1) := by decide +kernel
set_option maxRecDepth 20000 in
theorem ggX7_raise_X7_isPack : GoodIn wsX7_raise wsX7_isPack := goodIn_r _ [15, 16, 17, 18, 14, 19, 43, 44, 45, 46, 47, 48, 49, 50, 51, 52, 53, 54, 55, 56, 57, 58, 59, 60, 61, 62, 63, 64, 65, 66, 67] (by decide +kernel) (by decide +kernel)
set_option maxRecDepth 20000 in
theorem gX7_raise_X7_isPack : GoodIn wsX7_raise (wsV RX7 89 RX7 yX7_isPack wsX7_isPack) := goodIn_app (goodIn_of _ (by decide +kernel)) ggX7_raise_X7_isPack
set_option maxRecDepth 20000 in
theorem ggX7_raise_X7_in : GoodIn wsX7_raise wsX7_in := goodIn_r _ [19] (by decide +kernel) (by decide +kernel)
set_option maxRecDepth 20000 in
theorem gX7_raise_X7_in : GoodIn wsX7_raise (va_wsS RX7 75 yX7_in wsX7_in) := goodIn_app (goodIn_of _ (by decide +kernel)) ggX7_raise_X7_in
set_option maxRecDepth 20000 in
theorem ggX7_raise_X7_open : GoodIn wsX7_raise wsX7_open := goodIn_r _ [23, 2, 3, 43, 44, 45, 46, 47, 48, 49, 50, 51, 52, 53, 54, 55, 56, 57, 58, 59, 60, 61, 62, 63, 64, 65, 66, 67] (by decide +kernel) (by decide +kernel)
set_option maxRecDepth 20000 in
theorem gX7_raise_X7_open : GoodIn wsX7_raise (wsV RX7 120 RX7 yX7_open wsX7_open) := goodIn_app (goodIn_of _ (by decide +kernel)) ggX7_raise_X7_open
set_option maxRecDepth 20000 in
theorem ggX7_raise_X7_refused : GoodIn wsX7_raise wsX7_refused := goodIn_r _ [27, 28, 43, 44, 45, 46, 47, 48, 49, 50, 51, 52, 53, 54, 55, 56, 57, 58, 59, 60, 61, 62, 63, 64, 65, 66, 67] (by decide +kernel) (by decide +kernel)
set_option maxRecDepth 20000 in
theorem gX7_raise_X7_refused : GoodIn wsX7_raise (wsV RX7 86 RX7 yX7_refused wsX7_refused) := goodIn_app (goodIn_of _ (by decide +kernel)) ggX7_raise_X7_refused
set_option maxRecDepth 20000 in
theorem ggX7_raise_X7_give : GoodIn wsX7_raise wsX7_give := goodIn_r _ [32, 2, 3, 9, 10, 33, 6, 34, 35, 36, 37, 14, 38, 39, 40, 41, 42, 43, 44, 45, 46, 47, 48, 49, 50, 51, 52, 53, 54, 55, 56, 57, 58, 59, 60, 61, 62, 63, 64, 65, 66, 67] (by decide +kernel) (by decide +kernel)
set_option maxRecDepth 20000 in
theorem gX7_raise_X7_give : GoodIn wsX7_raise (wsV RX7 116 RX7 yX7_give wsX7_give) := goodIn_app (goodIn_of _ (by decide +kernel)) ggX7_raise_X7_give
theorem dX7_raise_0 : decode cX7_raise 0 = .ok (.aload_n 0, 1) := by decide +kernel
theorem dX7_raise_1 : decode cX7_raise 1 = .ok (.iload_n 1, 1) := by decide +kernel
theorem dX7_raise_2 : decode cX7_raise 2 = .ok (.invokevirtual 89, 3) := by decide +kernel
theorem dX7_raise_5 : decode cX7_raise 5 = .ok (.istore 4, 2) := by decide +kernel
theorem dX7_raise_7 : decode cX7_raise 7 = .ok (.iload 4, 2) := by decide +kernel
theorem dX7_raise_9 : decode cX7_raise 9 = .ok (.ifCond .eq 34, 3) := by decide +kernel
theorem dX7_raise_12 : decode cX7_raise 12 = .ok (.iload_n 2, 1) := by decide +kernel
theorem dX7_raise_13 : decode cX7_raise 13 = .ok (.aload_n 0, 1) := by decide +kernel
theorem dX7_raise_14 : decode cX7_raise 14 = .ok (.getfield 7, 3) := by decide +kernel
theorem dX7_raise_17 : decode cX7_raise 17 = .ok (.iload_n 1, 1) := by decide +kernel
theorem dX7_raise_18 : decode cX7_raise 18 = .ok (.iaload, 1) := by decide +kernel
theorem dX7_raise_19 : decode cX7_raise 19 = .ok (.iconst 1, 1) := by decide +kernel
theorem dX7_raise_20 : decode cX7_raise 20 = .ok (.iadd, 1) := by decide +kernel
theorem dX7_raise_21 : decode cX7_raise 21 = .ok (.bipush 99, 2) := by decide +kernel
theorem dX7_raise_23 : decode cX7_raise 23 = .ok (.invokestatic 75, 3) := by decide +kernel
theorem dX7_raise_26 : decode cX7_raise 26 = .ok (.ifCond .eq 17, 3) := by decide +kernel
theorem dX7_raise_29 : decode cX7_raise 29 = .ok (.iload_n 3, 1) := by decide +kernel
theorem dX7_raise_30 : decode cX7_raise 30 = .ok (.iconst 0, 1) := by decide +kernel
theorem dX7_raise_31 : decode cX7_raise 31 = .ok (.bipush 9, 2) := by decide +kernel
theorem dX7_raise_33 : decode cX7_raise 33 = .ok (.invokestatic 75, 3) := by decide +kernel
theorem dX7_raise_36 : decode cX7_raise 36 = .ok (.ifCond .eq 7, 3) := by decide +kernel
theorem dX7_raise_39 : decode cX7_raise 39 = .ok (.iconst 1, 1) := by decide +kernel
theorem dX7_raise_40 : decode cX7_raise 40 = .ok (.goto 4, 3) := by decide +kernel
theorem dX7_raise_43 : decode cX7_raise 43 = .ok (.iconst 0, 1) := by decide +kernel
theorem dX7_raise_44 : decode cX7_raise 44 = .ok (.istore 5, 2) := by decide +kernel
theorem dX7_raise_46 : decode cX7_raise 46 = .ok (.iconst 0, 1) := by decide +kernel
theorem dX7_raise_47 : decode cX7_raise 47 = .ok (.istore 6, 2) := by decide +kernel
theorem dX7_raise_49 : decode cX7_raise 49 = .ok (.iconst 0, 1) := by decide +kernel
theorem dX7_raise_50 : decode cX7_raise 50 = .ok (.istore 7, 2) := by decide +kernel
theorem dX7_raise_52 : decode cX7_raise 52 = .ok (.iload 7, 2) := by decide +kernel
theorem dX7_raise_54 : decode cX7_raise 54 = .ok (.aload_n 0, 1) := by decide +kernel
theorem dX7_raise_55 : decode cX7_raise 55 = .ok (.getfield 79, 3) := by decide +kernel
theorem dX7_raise_58 : decode cX7_raise 58 = .ok (.if_icmp .ge 42, 3) := by decide +kernel
theorem dX7_raise_61 : decode cX7_raise 61 = .ok (.iload 6, 2) := by decide +kernel
theorem dX7_raise_63 : decode cX7_raise 63 = .ok (.ifCond .ne 24, 3) := by decide +kernel
theorem dX7_raise_66 : decode cX7_raise 66 = .ok (.aload_n 0, 1) := by decide +kernel
theorem dX7_raise_67 : decode cX7_raise 67 = .ok (.getfield 41, 3) := by decide +kernel
theorem dX7_raise_70 : decode cX7_raise 70 = .ok (.iload 7, 2) := by decide +kernel
theorem dX7_raise_72 : decode cX7_raise 72 = .ok (.iaload, 1) := by decide +kernel
theorem dX7_raise_73 : decode cX7_raise 73 = .ok (.ifCond .ne 18, 3) := by decide +kernel
theorem dX7_raise_76 : decode cX7_raise 76 = .ok (.aload_n 0, 1) := by decide +kernel
theorem dX7_raise_77 : decode cX7_raise 77 = .ok (.getfield 44, 3) := by decide +kernel
theorem dX7_raise_80 : decode cX7_raise 80 = .ok (.iload 7, 2) := by decide +kernel
theorem dX7_raise_82 : decode cX7_raise 82 = .ok (.iaload, 1) := by decide +kernel
theorem dX7_raise_83 : decode cX7_raise 83 = .ok (.iload_n 1, 1) := by decide +kernel
theorem dX7_raise_84 : decode cX7_raise 84 = .ok (.if_icmp .ne 7, 3) := by decide +kernel
theorem dX7_raise_87 : decode cX7_raise 87 = .ok (.iconst 1, 1) := by decide +kernel
theorem dX7_raise_88 : decode cX7_raise 88 = .ok (.goto 4, 3) := by decide +kernel
theorem dX7_raise_91 : decode cX7_raise 91 = .ok (.iconst 0, 1) := by decide +kernel
theorem dX7_raise_92 : decode cX7_raise 92 = .ok (.istore 6, 2) := by decide +kernel
theorem dX7_raise_94 : decode cX7_raise 94 = .ok (.iinc 7 1, 3) := by decide +kernel
theorem dX7_raise_97 : decode cX7_raise 97 = .ok (.goto (-45), 3) := by decide +kernel
theorem dX7_raise_100 : decode cX7_raise 100 = .ok (.aload_n 0, 1) := by decide +kernel
theorem dX7_raise_101 : decode cX7_raise 101 = .ok (.iload 4, 2) := by decide +kernel
theorem dX7_raise_103 : decode cX7_raise 103 = .ok (.ifCond .ne 7, 3) := by decide +kernel
theorem dX7_raise_106 : decode cX7_raise 106 = .ok (.iconst 1, 1) := by decide +kernel
theorem dX7_raise_107 : decode cX7_raise 107 = .ok (.goto 40, 3) := by decide +kernel
theorem dX7_raise_110 : decode cX7_raise 110 = .ok (.iload 5, 2) := by decide +kernel
theorem dX7_raise_112 : decode cX7_raise 112 = .ok (.ifCond .ne 7, 3) := by decide +kernel
theorem dX7_raise_115 : decode cX7_raise 115 = .ok (.iconst 2, 1) := by decide +kernel
theorem dX7_raise_116 : decode cX7_raise 116 = .ok (.goto 31, 3) := by decide +kernel
theorem dX7_raise_119 : decode cX7_raise 119 = .ok (.iload 6, 2) := by decide +kernel
theorem dX7_raise_121 : decode cX7_raise 121 = .ok (.ifCond .ne 21, 3) := by decide +kernel
theorem dX7_raise_124 : decode cX7_raise 124 = .ok (.aload_n 0, 1) := by decide +kernel
theorem dX7_raise_125 : decode cX7_raise 125 = .ok (.invokevirtual 120, 3) := by decide +kernel
theorem dX7_raise_128 : decode cX7_raise 128 = .ok (.bipush 10, 2) := by decide +kernel
theorem dX7_raise_130 : decode cX7_raise 130 = .ok (.if_icmp .eq 12, 3) := by decide +kernel
theorem dX7_raise_133 : decode cX7_raise 133 = .ok (.aload_n 0, 1) := by decide +kernel
theorem dX7_raise_134 : decode cX7_raise 134 = .ok (.getfield 79, 3) := by decide +kernel
theorem dX7_raise_137 : decode cX7_raise 137 = .ok (.bipush 40, 2) := by decide +kernel
theorem dX7_raise_139 : decode cX7_raise 139 = .ok (.if_icmp .ne 7, 3) := by decide +kernel
theorem dX7_raise_142 : decode cX7_raise 142 = .ok (.iconst 3, 1) := by decide +kernel
theorem dX7_raise_143 : decode cX7_raise 143 = .ok (.goto 4, 3) := by decide +kernel
theorem dX7_raise_146 : decode cX7_raise 146 = .ok (.iconst 0, 1) := by decide +kernel
theorem dX7_raise_147 : decode cX7_raise 147 = .ok (.invokevirtual 86, 3) := by decide +kernel
theorem dX7_raise_150 : decode cX7_raise 150 = .ok (.ifCond .eq 5, 3) := by decide +kernel
theorem dX7_raise_153 : decode cX7_raise 153 = .ok (.iconst 0, 1) := by decide +kernel
theorem dX7_raise_154 : decode cX7_raise 154 = .ok (.ireturn, 1) := by decide +kernel
theorem dX7_raise_155 : decode cX7_raise 155 = .ok (.aload_n 0, 1) := by decide +kernel
theorem dX7_raise_156 : decode cX7_raise 156 = .ok (.getfield 44, 3) := by decide +kernel
theorem dX7_raise_159 : decode cX7_raise 159 = .ok (.aload_n 0, 1) := by decide +kernel
theorem dX7_raise_160 : decode cX7_raise 160 = .ok (.getfield 79, 3) := by decide +kernel
theorem dX7_raise_163 : decode cX7_raise 163 = .ok (.iload_n 1, 1) := by decide +kernel
theorem dX7_raise_164 : decode cX7_raise 164 = .ok (.iastore, 1) := by decide +kernel
theorem dX7_raise_165 : decode cX7_raise 165 = .ok (.aload_n 0, 1) := by decide +kernel
theorem dX7_raise_166 : decode cX7_raise 166 = .ok (.getfield 47, 3) := by decide +kernel
theorem dX7_raise_169 : decode cX7_raise 169 = .ok (.aload_n 0, 1) := by decide +kernel
theorem dX7_raise_170 : decode cX7_raise 170 = .ok (.getfield 79, 3) := by decide +kernel
theorem dX7_raise_173 : decode cX7_raise 173 = .ok (.iload_n 2, 1) := by decide +kernel
theorem dX7_raise_174 : decode cX7_raise 174 = .ok (.iastore, 1) := by decide +kernel
theorem dX7_raise_175 : decode cX7_raise 175 = .ok (.aload_n 0, 1) := by decide +kernel
theorem dX7_raise_176 : decode cX7_raise 176 = .ok (.getfield 50, 3) := by decide +kernel
theorem dX7_raise_179 : decode cX7_raise 179 = .ok (.aload_n 0, 1) := by decide +kernel
theorem dX7_raise_180 : decode cX7_raise 180 = .ok (.getfield 79, 3) := by decide +kernel
theorem dX7_raise_183 : decode cX7_raise 183 = .ok (.iload_n 3, 1) := by decide +kernel
theorem dX7_raise_184 : decode cX7_raise 184 = .ok (.iastore, 1) := by decide +kernel
theorem dX7_raise_185 : decode cX7_raise 185 = .ok (.aload_n 0, 1) := by decide +kernel
theorem dX7_raise_186 : decode cX7_raise 186 = .ok (.getfield 53, 3) := by decide +kernel
theorem dX7_raise_189 : decode cX7_raise 189 = .ok (.aload_n 0, 1) := by decide +kernel
theorem dX7_raise_190 : decode cX7_raise 190 = .ok (.getfield 79, 3) := by decide +kernel
theorem dX7_raise_193 : decode cX7_raise 193 = .ok (.aload_n 0, 1) := by decide +kernel
theorem dX7_raise_194 : decode cX7_raise 194 = .ok (.getfield 123, 3) := by decide +kernel
theorem dX7_raise_197 : decode cX7_raise 197 = .ok (.iastore, 1) := by decide +kernel
theorem dX7_raise_198 : decode cX7_raise 198 = .ok (.aload_n 0, 1) := by decide +kernel
theorem dX7_raise_199 : decode cX7_raise 199 = .ok (.getfield 56, 3) := by decide +kernel
theorem dX7_raise_202 : decode cX7_raise 202 = .ok (.aload_n 0, 1) := by decide +kernel
theorem dX7_raise_203 : decode cX7_raise 203 = .ok (.getfield 79, 3) := by decide +kernel
theorem dX7_raise_206 : decode cX7_raise 206 = .ok (.aload_n 0, 1) := by decide +kernel
theorem dX7_raise_207 : decode cX7_raise 207 = .ok (.getfield 79, 3) := by decide +kernel
theorem dX7_raise_210 : decode cX7_raise 210 = .ok (.iastore, 1) := by decide +kernel
theorem dX7_raise_211 : decode cX7_raise 211 = .ok (.aload_n 0, 1) := by decide +kernel
theorem dX7_raise_212 : decode cX7_raise 212 = .ok (.getfield 59, 3) := by decide +kernel
theorem dX7_raise_215 : decode cX7_raise 215 = .ok (.aload_n 0, 1) := by decide +kernel
theorem dX7_raise_216 : decode cX7_raise 216 = .ok (.getfield 79, 3) := by decide +kernel
theorem dX7_raise_219 : decode cX7_raise 219 = .ok (.iconst (-1), 1) := by decide +kernel
theorem dX7_raise_220 : decode cX7_raise 220 = .ok (.iastore, 1) := by decide +kernel
theorem dX7_raise_221 : decode cX7_raise 221 = .ok (.aload_n 0, 1) := by decide +kernel
theorem dX7_raise_222 : decode cX7_raise 222 = .ok (.dup, 1) := by decide +kernel
theorem dX7_raise_223 : decode cX7_raise 223 = .ok (.getfield 79, 3) := by decide +kernel
theorem dX7_raise_226 : decode cX7_raise 226 = .ok (.iconst 1, 1) := by decide +kernel
theorem dX7_raise_227 : decode cX7_raise 227 = .ok (.iadd, 1) := by decide +kernel
theorem dX7_raise_228 : decode cX7_raise 228 = .ok (.putfield 79, 3) := by decide +kernel
theorem dX7_raise_231 : decode cX7_raise 231 = .ok (.aload_n 0, 1) := by decide +kernel
theorem dX7_raise_232 : decode cX7_raise 232 = .ok (.aload_n 0, 1) := by decide +kernel
theorem dX7_raise_233 : decode cX7_raise 233 = .ok (.getfield 79, 3) := by decide +kernel
theorem dX7_raise_236 : decode cX7_raise 236 = .ok (.iconst 1, 1) := by decide +kernel
theorem dX7_raise_237 : decode cX7_raise 237 = .ok (.isub, 1) := by decide +kernel
theorem dX7_raise_238 : decode cX7_raise 238 = .ok (.invokevirtual 116, 3) := by decide +kernel
theorem dX7_raise_241 : decode cX7_raise 241 = .ok (.aload_n 0, 1) := by decide +kernel
theorem dX7_raise_242 : decode cX7_raise 242 = .ok (.getfield 79, 3) := by decide +kernel
theorem dX7_raise_245 : decode cX7_raise 245 = .ok (.iconst 1, 1) := by decide +kernel
theorem dX7_raise_246 : decode cX7_raise 246 = .ok (.isub, 1) := by decide +kernel
theorem dX7_raise_247 : decode cX7_raise 247 = .ok (.ireturn, 1) := by decide +kernel
set_option maxRecDepth 20000 in
theorem ggX7_approve_X7_isRaise : GoodIn wsX7_approve wsX7_isRaise := goodIn_r _ [8, 9, 10, 11, 7, 12, 18, 19, 20, 21, 22, 23, 24, 25, 26, 27, 28, 29, 30, 31, 32, 33, 34, 35, 36, 37, 38, 39, 40, 41, 42] (by decide +kernel) (by decide +kernel)
set_option maxRecDepth 20000 in
theorem gX7_approve_X7_isRaise : GoodIn wsX7_approve (wsV RX7 82 RX7 yX7_isRaise wsX7_isRaise) := goodIn_app (goodIn_of _ (by decide +kernel)) ggX7_approve_X7_isRaise
set_option maxRecDepth 20000 in
theorem ggX7_approve_X7_refused : GoodIn wsX7_approve wsX7_refused := goodIn_r _ [16, 17, 18, 19, 20, 21, 22, 23, 24, 25, 26, 27, 28, 29, 30, 31, 32, 33, 34, 35, 36, 37, 38, 39, 40, 41, 42] (by decide +kernel) (by decide +kernel)
set_option maxRecDepth 20000 in
theorem gX7_approve_X7_refused : GoodIn wsX7_approve (wsV RX7 86 RX7 yX7_refused wsX7_refused) := goodIn_app (goodIn_of _ (by decide +kernel)) ggX7_approve_X7_refused
theorem dX7_approve_0 : decode cX7_approve 0 = .ok (.aload_n 0, 1) := by decide +kernel
theorem dX7_approve_1 : decode cX7_approve 1 = .ok (.iload_n 1, 1) := by decide +kernel
theorem dX7_approve_2 : decode cX7_approve 2 = .ok (.invokevirtual 82, 3) := by decide +kernel
theorem dX7_approve_5 : decode cX7_approve 5 = .ok (.istore_n 2, 1) := by decide +kernel
theorem dX7_approve_6 : decode cX7_approve 6 = .ok (.aload_n 0, 1) := by decide +kernel
theorem dX7_approve_7 : decode cX7_approve 7 = .ok (.iload_n 2, 1) := by decide +kernel
theorem dX7_approve_8 : decode cX7_approve 8 = .ok (.ifCond .ne 7, 3) := by decide +kernel
theorem dX7_approve_11 : decode cX7_approve 11 = .ok (.iconst 1, 1) := by decide +kernel
theorem dX7_approve_12 : decode cX7_approve 12 = .ok (.goto 27, 3) := by decide +kernel
theorem dX7_approve_15 : decode cX7_approve 15 = .ok (.aload_n 0, 1) := by decide +kernel
theorem dX7_approve_16 : decode cX7_approve 16 = .ok (.getfield 41, 3) := by decide +kernel
theorem dX7_approve_19 : decode cX7_approve 19 = .ok (.iload_n 1, 1) := by decide +kernel
theorem dX7_approve_20 : decode cX7_approve 20 = .ok (.iaload, 1) := by decide +kernel
theorem dX7_approve_21 : decode cX7_approve 21 = .ok (.ifCond .ne 13, 3) := by decide +kernel
theorem dX7_approve_24 : decode cX7_approve 24 = .ok (.aload_n 0, 1) := by decide +kernel
theorem dX7_approve_25 : decode cX7_approve 25 = .ok (.getfield 59, 3) := by decide +kernel
theorem dX7_approve_28 : decode cX7_approve 28 = .ok (.iload_n 1, 1) := by decide +kernel
theorem dX7_approve_29 : decode cX7_approve 29 = .ok (.iaload, 1) := by decide +kernel
theorem dX7_approve_30 : decode cX7_approve 30 = .ok (.iconst (-1), 1) := by decide +kernel
theorem dX7_approve_31 : decode cX7_approve 31 = .ok (.if_icmp .ne 7, 3) := by decide +kernel
theorem dX7_approve_34 : decode cX7_approve 34 = .ok (.iconst 2, 1) := by decide +kernel
theorem dX7_approve_35 : decode cX7_approve 35 = .ok (.goto 4, 3) := by decide +kernel
theorem dX7_approve_38 : decode cX7_approve 38 = .ok (.iconst 0, 1) := by decide +kernel
theorem dX7_approve_39 : decode cX7_approve 39 = .ok (.invokevirtual 86, 3) := by decide +kernel
theorem dX7_approve_42 : decode cX7_approve 42 = .ok (.ifCond .eq 5, 3) := by decide +kernel
theorem dX7_approve_45 : decode cX7_approve 45 = .ok (.iconst 0, 1) := by decide +kernel
theorem dX7_approve_46 : decode cX7_approve 46 = .ok (.ireturn, 1) := by decide +kernel
theorem dX7_approve_47 : decode cX7_approve 47 = .ok (.aload_n 0, 1) := by decide +kernel
theorem dX7_approve_48 : decode cX7_approve 48 = .ok (.getfield 62, 3) := by decide +kernel
theorem dX7_approve_51 : decode cX7_approve 51 = .ok (.iload_n 1, 1) := by decide +kernel
theorem dX7_approve_52 : decode cX7_approve 52 = .ok (.baload, 1) := by decide +kernel
theorem dX7_approve_53 : decode cX7_approve 53 = .ok (.istore_n 3, 1) := by decide +kernel
theorem dX7_approve_54 : decode cX7_approve 54 = .ok (.aload_n 0, 1) := by decide +kernel
theorem dX7_approve_55 : decode cX7_approve 55 = .ok (.getfield 62, 3) := by decide +kernel
theorem dX7_approve_58 : decode cX7_approve 58 = .ok (.iload_n 1, 1) := by decide +kernel
theorem dX7_approve_59 : decode cX7_approve 59 = .ok (.iconst 1, 1) := by decide +kernel
theorem dX7_approve_60 : decode cX7_approve 60 = .ok (.bastore, 1) := by decide +kernel
theorem dX7_approve_61 : decode cX7_approve 61 = .ok (.iload_n 3, 1) := by decide +kernel
theorem dX7_approve_62 : decode cX7_approve 62 = .ok (.ireturn, 1) := by decide +kernel
set_option maxRecDepth 20000 in
theorem ggX7_landable_X7_failsWith : GoodIn wsX7_landable wsX7_failsWith := goodIn_r _ [15, 1, 2, 3, 16, 10, 17, 18, 19, 20, 14, 21, 22, 23, 24, 25, 26, 27, 28, 29, 30, 31, 32, 33, 34, 35, 36, 37, 38, 39, 40, 41, 42, 43, 44, 45, 46, 47, 48, 49, 50, 51, 52, 53, 54, 55, 56, 57, 58, 59, 60] (by decide +kernel) (by decide +kernel)
set_option maxRecDepth 20000 in
theorem gX7_landable_X7_failsWith : GoodIn wsX7_landable (wsV RX7 126 RX7 yX7_failsWith wsX7_failsWith) := goodIn_app (goodIn_of _ (by decide +kernel)) ggX7_landable_X7_failsWith
set_option maxRecDepth 20000 in
theorem ggX7_landable_X7_in : GoodIn wsX7_landable wsX7_in := goodIn_r _ [35] (by decide +kernel) (by decide +kernel)
set_option maxRecDepth 20000 in
theorem gX7_landable_X7_in : GoodIn wsX7_landable (va_wsS RX7 75 yX7_in wsX7_in) := goodIn_app (goodIn_of _ (by decide +kernel)) ggX7_landable_X7_in
theorem dX7_landable_0 : decode cX7_landable 0 = .ok (.aload_n 0, 1) := by decide +kernel
theorem dX7_landable_1 : decode cX7_landable 1 = .ok (.iload_n 1, 1) := by decide +kernel
theorem dX7_landable_2 : decode cX7_landable 2 = .ok (.iload_n 1, 1) := by decide +kernel
theorem dX7_landable_3 : decode cX7_landable 3 = .ok (.invokevirtual 126, 3) := by decide +kernel
theorem dX7_landable_6 : decode cX7_landable 6 = .ok (.ifCond .ne 7, 3) := by decide +kernel
theorem dX7_landable_9 : decode cX7_landable 9 = .ok (.iconst 1, 1) := by decide +kernel
theorem dX7_landable_10 : decode cX7_landable 10 = .ok (.goto 4, 3) := by decide +kernel
theorem dX7_landable_13 : decode cX7_landable 13 = .ok (.iconst 0, 1) := by decide +kernel
theorem dX7_landable_14 : decode cX7_landable 14 = .ok (.istore_n 2, 1) := by decide +kernel
theorem dX7_landable_15 : decode cX7_landable 15 = .ok (.iconst 0, 1) := by decide +kernel
theorem dX7_landable_16 : decode cX7_landable 16 = .ok (.istore_n 3, 1) := by decide +kernel
theorem dX7_landable_17 : decode cX7_landable 17 = .ok (.iload_n 3, 1) := by decide +kernel
theorem dX7_landable_18 : decode cX7_landable 18 = .ok (.aload_n 0, 1) := by decide +kernel
theorem dX7_landable_19 : decode cX7_landable 19 = .ok (.getfield 79, 3) := by decide +kernel
theorem dX7_landable_22 : decode cX7_landable 22 = .ok (.if_icmp .ge 119, 3) := by decide +kernel
theorem dX7_landable_25 : decode cX7_landable 25 = .ok (.aload_n 0, 1) := by decide +kernel
theorem dX7_landable_26 : decode cX7_landable 26 = .ok (.getfield 41, 3) := by decide +kernel
theorem dX7_landable_29 : decode cX7_landable 29 = .ok (.iload_n 3, 1) := by decide +kernel
theorem dX7_landable_30 : decode cX7_landable 30 = .ok (.iaload, 1) := by decide +kernel
theorem dX7_landable_31 : decode cX7_landable 31 = .ok (.ifCond .ne 104, 3) := by decide +kernel
theorem dX7_landable_34 : decode cX7_landable 34 = .ok (.aload_n 0, 1) := by decide +kernel
theorem dX7_landable_35 : decode cX7_landable 35 = .ok (.getfield 56, 3) := by decide +kernel
theorem dX7_landable_38 : decode cX7_landable 38 = .ok (.iload_n 3, 1) := by decide +kernel
theorem dX7_landable_39 : decode cX7_landable 39 = .ok (.iaload, 1) := by decide +kernel
theorem dX7_landable_40 : decode cX7_landable 40 = .ok (.iload_n 1, 1) := by decide +kernel
theorem dX7_landable_41 : decode cX7_landable 41 = .ok (.if_icmp .ne 94, 3) := by decide +kernel
theorem dX7_landable_44 : decode cX7_landable 44 = .ok (.iload_n 2, 1) := by decide +kernel
theorem dX7_landable_45 : decode cX7_landable 45 = .ok (.ifCond .eq 16, 3) := by decide +kernel
theorem dX7_landable_48 : decode cX7_landable 48 = .ok (.aload_n 0, 1) := by decide +kernel
theorem dX7_landable_49 : decode cX7_landable 49 = .ok (.getfield 62, 3) := by decide +kernel
theorem dX7_landable_52 : decode cX7_landable 52 = .ok (.iload_n 3, 1) := by decide +kernel
theorem dX7_landable_53 : decode cX7_landable 53 = .ok (.baload, 1) := by decide +kernel
theorem dX7_landable_54 : decode cX7_landable 54 = .ok (.ifCond .eq 7, 3) := by decide +kernel
theorem dX7_landable_57 : decode cX7_landable 57 = .ok (.iconst 1, 1) := by decide +kernel
theorem dX7_landable_58 : decode cX7_landable 58 = .ok (.goto 4, 3) := by decide +kernel
theorem dX7_landable_61 : decode cX7_landable 61 = .ok (.iconst 0, 1) := by decide +kernel
theorem dX7_landable_62 : decode cX7_landable 62 = .ok (.istore_n 2, 1) := by decide +kernel
theorem dX7_landable_63 : decode cX7_landable 63 = .ok (.iconst 0, 1) := by decide +kernel
theorem dX7_landable_64 : decode cX7_landable 64 = .ok (.istore 4, 2) := by decide +kernel
theorem dX7_landable_66 : decode cX7_landable 66 = .ok (.iload 4, 2) := by decide +kernel
theorem dX7_landable_68 : decode cX7_landable 68 = .ok (.aload_n 0, 1) := by decide +kernel
theorem dX7_landable_69 : decode cX7_landable 69 = .ok (.getfield 98, 3) := by decide +kernel
theorem dX7_landable_72 : decode cX7_landable 72 = .ok (.if_icmp .ge 63, 3) := by decide +kernel
theorem dX7_landable_75 : decode cX7_landable 75 = .ok (.iload_n 2, 1) := by decide +kernel
theorem dX7_landable_76 : decode cX7_landable 76 = .ok (.ifCond .eq 51, 3) := by decide +kernel
theorem dX7_landable_79 : decode cX7_landable 79 = .ok (.aload_n 0, 1) := by decide +kernel
theorem dX7_landable_80 : decode cX7_landable 80 = .ok (.getfield 123, 3) := by decide +kernel
theorem dX7_landable_83 : decode cX7_landable 83 = .ok (.aload_n 0, 1) := by decide +kernel
theorem dX7_landable_84 : decode cX7_landable 84 = .ok (.getfield 35, 3) := by decide +kernel
theorem dX7_landable_87 : decode cX7_landable 87 = .ok (.iload 4, 2) := by decide +kernel
theorem dX7_landable_89 : decode cX7_landable 89 = .ok (.iaload, 1) := by decide +kernel
theorem dX7_landable_90 : decode cX7_landable 90 = .ok (.aload_n 0, 1) := by decide +kernel
theorem dX7_landable_91 : decode cX7_landable 91 = .ok (.getfield 38, 3) := by decide +kernel
theorem dX7_landable_94 : decode cX7_landable 94 = .ok (.iload 4, 2) := by decide +kernel
theorem dX7_landable_96 : decode cX7_landable 96 = .ok (.iaload, 1) := by decide +kernel
theorem dX7_landable_97 : decode cX7_landable 97 = .ok (.invokestatic 75, 3) := by decide +kernel
theorem dX7_landable_100 : decode cX7_landable 100 = .ok (.ifCond .eq 23, 3) := by decide +kernel
theorem dX7_landable_103 : decode cX7_landable 103 = .ok (.aload_n 0, 1) := by decide +kernel
theorem dX7_landable_104 : decode cX7_landable 104 = .ok (.getfield 32, 3) := by decide +kernel
theorem dX7_landable_107 : decode cX7_landable 107 = .ok (.iload 4, 2) := by decide +kernel
theorem dX7_landable_109 : decode cX7_landable 109 = .ok (.iaload, 1) := by decide +kernel
theorem dX7_landable_110 : decode cX7_landable 110 = .ok (.aload_n 0, 1) := by decide +kernel
theorem dX7_landable_111 : decode cX7_landable 111 = .ok (.getfield 44, 3) := by decide +kernel
theorem dX7_landable_114 : decode cX7_landable 114 = .ok (.iload_n 3, 1) := by decide +kernel
theorem dX7_landable_115 : decode cX7_landable 115 = .ok (.iaload, 1) := by decide +kernel
theorem dX7_landable_116 : decode cX7_landable 116 = .ok (.ishr, 1) := by decide +kernel
theorem dX7_landable_117 : decode cX7_landable 117 = .ok (.iconst 1, 1) := by decide +kernel
theorem dX7_landable_118 : decode cX7_landable 118 = .ok (.iand, 1) := by decide +kernel
theorem dX7_landable_119 : decode cX7_landable 119 = .ok (.iconst 1, 1) := by decide +kernel
theorem dX7_landable_120 : decode cX7_landable 120 = .ok (.if_icmp .eq 7, 3) := by decide +kernel
theorem dX7_landable_123 : decode cX7_landable 123 = .ok (.iconst 1, 1) := by decide +kernel
theorem dX7_landable_124 : decode cX7_landable 124 = .ok (.goto 4, 3) := by decide +kernel
theorem dX7_landable_127 : decode cX7_landable 127 = .ok (.iconst 0, 1) := by decide +kernel
theorem dX7_landable_128 : decode cX7_landable 128 = .ok (.istore_n 2, 1) := by decide +kernel
theorem dX7_landable_129 : decode cX7_landable 129 = .ok (.iinc 4 1, 3) := by decide +kernel
theorem dX7_landable_132 : decode cX7_landable 132 = .ok (.goto (-66), 3) := by decide +kernel
theorem dX7_landable_135 : decode cX7_landable 135 = .ok (.iinc 3 1, 3) := by decide +kernel
theorem dX7_landable_138 : decode cX7_landable 138 = .ok (.goto (-121), 3) := by decide +kernel
theorem dX7_landable_141 : decode cX7_landable 141 = .ok (.iload_n 2, 1) := by decide +kernel
theorem dX7_landable_142 : decode cX7_landable 142 = .ok (.ireturn, 1) := by decide +kernel
set_option maxRecDepth 20000 in
theorem ggX7_land_X7_isRaise : GoodIn wsX7_land wsX7_isRaise := goodIn_r _ [12, 3, 13, 14, 11, 15, 68, 69, 70, 71, 72, 73, 74, 75, 76, 77, 78, 79, 80, 81, 82, 83, 84, 85, 86, 87, 88, 89, 90, 91, 92] (by decide +kernel) (by decide +kernel)
set_option maxRecDepth 20000 in
theorem gX7_land_X7_isRaise : GoodIn wsX7_land (wsV RX7 82 RX7 yX7_isRaise wsX7_isRaise) := goodIn_app (goodIn_of _ (by decide +kernel)) ggX7_land_X7_isRaise
set_option maxRecDepth 20000 in
theorem ggX7_land_X7_landable : GoodIn wsX7_land wsX7_landable := goodIn_r _ [19, 3, 1, 2, 7, 20, 21, 22, 23, 24, 5, 25, 26, 27, 11, 28, 29, 6, 30, 31, 32, 33, 34, 4, 35, 36, 37, 38, 39, 40, 41, 42, 43, 13, 14, 15, 68, 69, 70, 71, 72, 73, 74, 75, 76, 77, 78, 79, 80, 81, 82, 83, 84, 85, 86, 87, 88, 89, 90, 91, 92] (by decide +kernel) (by decide +kernel)
set_option maxRecDepth 20000 in
theorem gX7_land_X7_landable : GoodIn wsX7_land (wsV RX7 129 RX7 yX7_landable wsX7_landable) := goodIn_app (goodIn_of _ (by decide +kernel)) ggX7_land_X7_landable
set_option maxRecDepth 20000 in
theorem ggX7_land_X7_refused : GoodIn wsX7_land wsX7_refused := goodIn_r _ [47, 48, 68, 69, 70, 71, 72, 73, 74, 75, 76, 77, 78, 79, 80, 81, 82, 83, 84, 85, 86, 87, 88, 89, 90, 91, 92] (by decide +kernel) (by decide +kernel)
set_option maxRecDepth 20000 in
theorem gX7_land_X7_refused : GoodIn wsX7_land (wsV RX7 86 RX7 yX7_refused wsX7_refused) := goodIn_app (goodIn_of _ (by decide +kernel)) ggX7_land_X7_refused
set_option maxRecDepth 20000 in
theorem ggX7_land_X7_sizeOf : GoodIn wsX7_land wsX7_sizeOf := goodIn_r _ [52, 3, 1, 2, 68, 69, 70, 71, 72, 73, 74, 75, 76, 77, 78, 79, 80, 81, 82, 83, 84, 85, 86, 87, 88, 89, 90, 91, 92] (by decide +kernel) (by decide +kernel)
set_option maxRecDepth 20000 in
theorem gX7_land_X7_sizeOf : GoodIn wsX7_land (wsV RX7 132 RX7 yX7_sizeOf wsX7_sizeOf) := goodIn_app (goodIn_of _ (by decide +kernel)) ggX7_land_X7_sizeOf
set_option maxRecDepth 20000 in
theorem ggX7_land_X7_give : GoodIn wsX7_land wsX7_give := goodIn_r _ [56, 3, 1, 2, 57, 58, 59, 7, 60, 61, 62, 11, 63, 64, 65, 66, 67, 68, 69, 70, 71, 72, 73, 74, 75, 76, 77, 78, 79, 80, 81, 82, 83, 84, 85, 86, 87, 88, 89, 90, 91, 92] (by decide +kernel) (by decide +kernel)
set_option maxRecDepth 20000 in
theorem gX7_land_X7_give : GoodIn wsX7_land (wsV RX7 116 RX7 yX7_give wsX7_give) := goodIn_app (goodIn_of _ (by decide +kernel)) ggX7_land_X7_give
theorem dX7_land_0 : decode cX7_land 0 = .ok (.aload_n 0, 1) := by decide +kernel
theorem dX7_land_1 : decode cX7_land 1 = .ok (.iload_n 1, 1) := by decide +kernel
theorem dX7_land_2 : decode cX7_land 2 = .ok (.invokevirtual 82, 3) := by decide +kernel
theorem dX7_land_5 : decode cX7_land 5 = .ok (.istore_n 3, 1) := by decide +kernel
theorem dX7_land_6 : decode cX7_land 6 = .ok (.aload_n 0, 1) := by decide +kernel
theorem dX7_land_7 : decode cX7_land 7 = .ok (.iload_n 3, 1) := by decide +kernel
theorem dX7_land_8 : decode cX7_land 8 = .ok (.ifCond .ne 7, 3) := by decide +kernel
theorem dX7_land_11 : decode cX7_land 11 = .ok (.iconst 1, 1) := by decide +kernel
theorem dX7_land_12 : decode cX7_land 12 = .ok (.goto 30, 3) := by decide +kernel
theorem dX7_land_15 : decode cX7_land 15 = .ok (.aload_n 0, 1) := by decide +kernel
theorem dX7_land_16 : decode cX7_land 16 = .ok (.getfield 41, 3) := by decide +kernel
theorem dX7_land_19 : decode cX7_land 19 = .ok (.iload_n 1, 1) := by decide +kernel
theorem dX7_land_20 : decode cX7_land 20 = .ok (.iaload, 1) := by decide +kernel
theorem dX7_land_21 : decode cX7_land 21 = .ok (.ifCond .ne 16, 3) := by decide +kernel
theorem dX7_land_24 : decode cX7_land 24 = .ok (.aload_n 0, 1) := by decide +kernel
theorem dX7_land_25 : decode cX7_land 25 = .ok (.aload_n 0, 1) := by decide +kernel
theorem dX7_land_26 : decode cX7_land 26 = .ok (.getfield 56, 3) := by decide +kernel
theorem dX7_land_29 : decode cX7_land 29 = .ok (.iload_n 1, 1) := by decide +kernel
theorem dX7_land_30 : decode cX7_land 30 = .ok (.iaload, 1) := by decide +kernel
theorem dX7_land_31 : decode cX7_land 31 = .ok (.invokevirtual 129, 3) := by decide +kernel
theorem dX7_land_34 : decode cX7_land 34 = .ok (.ifCond .ne 7, 3) := by decide +kernel
theorem dX7_land_37 : decode cX7_land 37 = .ok (.iconst 2, 1) := by decide +kernel
theorem dX7_land_38 : decode cX7_land 38 = .ok (.goto 4, 3) := by decide +kernel
theorem dX7_land_41 : decode cX7_land 41 = .ok (.iconst 0, 1) := by decide +kernel
theorem dX7_land_42 : decode cX7_land 42 = .ok (.invokevirtual 86, 3) := by decide +kernel
theorem dX7_land_45 : decode cX7_land 45 = .ok (.ifCond .eq 5, 3) := by decide +kernel
theorem dX7_land_48 : decode cX7_land 48 = .ok (.iconst 0, 1) := by decide +kernel
theorem dX7_land_49 : decode cX7_land 49 = .ok (.ireturn, 1) := by decide +kernel
theorem dX7_land_50 : decode cX7_land 50 = .ok (.aload_n 0, 1) := by decide +kernel
theorem dX7_land_51 : decode cX7_land 51 = .ok (.getfield 56, 3) := by decide +kernel
theorem dX7_land_54 : decode cX7_land 54 = .ok (.iload_n 1, 1) := by decide +kernel
theorem dX7_land_55 : decode cX7_land 55 = .ok (.iaload, 1) := by decide +kernel
theorem dX7_land_56 : decode cX7_land 56 = .ok (.istore 4, 2) := by decide +kernel
theorem dX7_land_58 : decode cX7_land 58 = .ok (.aload_n 0, 1) := by decide +kernel
theorem dX7_land_59 : decode cX7_land 59 = .ok (.iload 4, 2) := by decide +kernel
theorem dX7_land_61 : decode cX7_land 61 = .ok (.invokevirtual 132, 3) := by decide +kernel
theorem dX7_land_64 : decode cX7_land 64 = .ok (.istore 5, 2) := by decide +kernel
theorem dX7_land_66 : decode cX7_land 66 = .ok (.iconst 0, 1) := by decide +kernel
theorem dX7_land_67 : decode cX7_land 67 = .ok (.istore 6, 2) := by decide +kernel
theorem dX7_land_69 : decode cX7_land 69 = .ok (.iload 6, 2) := by decide +kernel
theorem dX7_land_71 : decode cX7_land 71 = .ok (.aload_n 0, 1) := by decide +kernel
theorem dX7_land_72 : decode cX7_land 72 = .ok (.getfield 79, 3) := by decide +kernel
theorem dX7_land_75 : decode cX7_land 75 = .ok (.if_icmp .ge 134, 3) := by decide +kernel
theorem dX7_land_78 : decode cX7_land 78 = .ok (.aload_n 0, 1) := by decide +kernel
theorem dX7_land_79 : decode cX7_land 79 = .ok (.getfield 41, 3) := by decide +kernel
theorem dX7_land_82 : decode cX7_land 82 = .ok (.iload 6, 2) := by decide +kernel
theorem dX7_land_84 : decode cX7_land 84 = .ok (.iaload, 1) := by decide +kernel
theorem dX7_land_85 : decode cX7_land 85 = .ok (.ifCond .ne 49, 3) := by decide +kernel
theorem dX7_land_88 : decode cX7_land 88 = .ok (.aload_n 0, 1) := by decide +kernel
theorem dX7_land_89 : decode cX7_land 89 = .ok (.getfield 56, 3) := by decide +kernel
theorem dX7_land_92 : decode cX7_land 92 = .ok (.iload 6, 2) := by decide +kernel
theorem dX7_land_94 : decode cX7_land 94 = .ok (.iaload, 1) := by decide +kernel
theorem dX7_land_95 : decode cX7_land 95 = .ok (.iload 4, 2) := by decide +kernel
theorem dX7_land_97 : decode cX7_land 97 = .ok (.if_icmp .ne 37, 3) := by decide +kernel
theorem dX7_land_100 : decode cX7_land 100 = .ok (.iload_n 2, 1) := by decide +kernel
theorem dX7_land_101 : decode cX7_land 101 = .ok (.ifCond .eq 33, 3) := by decide +kernel
theorem dX7_land_104 : decode cX7_land 104 = .ok (.aload_n 0, 1) := by decide +kernel
theorem dX7_land_105 : decode cX7_land 105 = .ok (.getfield 7, 3) := by decide +kernel
theorem dX7_land_108 : decode cX7_land 108 = .ok (.aload_n 0, 1) := by decide +kernel
theorem dX7_land_109 : decode cX7_land 109 = .ok (.getfield 44, 3) := by decide +kernel
theorem dX7_land_112 : decode cX7_land 112 = .ok (.iload 6, 2) := by decide +kernel
theorem dX7_land_114 : decode cX7_land 114 = .ok (.iaload, 1) := by decide +kernel
theorem dX7_land_115 : decode cX7_land 115 = .ok (.aload_n 0, 1) := by decide +kernel
theorem dX7_land_116 : decode cX7_land 116 = .ok (.getfield 47, 3) := by decide +kernel
theorem dX7_land_119 : decode cX7_land 119 = .ok (.iload 6, 2) := by decide +kernel
theorem dX7_land_121 : decode cX7_land 121 = .ok (.iaload, 1) := by decide +kernel
theorem dX7_land_122 : decode cX7_land 122 = .ok (.iastore, 1) := by decide +kernel
theorem dX7_land_123 : decode cX7_land 123 = .ok (.aload_n 0, 1) := by decide +kernel
theorem dX7_land_124 : decode cX7_land 124 = .ok (.getfield 41, 3) := by decide +kernel
theorem dX7_land_127 : decode cX7_land 127 = .ok (.iload 6, 2) := by decide +kernel
theorem dX7_land_129 : decode cX7_land 129 = .ok (.iconst 1, 1) := by decide +kernel
theorem dX7_land_130 : decode cX7_land 130 = .ok (.iastore, 1) := by decide +kernel
theorem dX7_land_131 : decode cX7_land 131 = .ok (.goto 72, 3) := by decide +kernel
theorem dX7_land_134 : decode cX7_land 134 = .ok (.aload_n 0, 1) := by decide +kernel
theorem dX7_land_135 : decode cX7_land 135 = .ok (.getfield 41, 3) := by decide +kernel
theorem dX7_land_138 : decode cX7_land 138 = .ok (.iload 6, 2) := by decide +kernel
theorem dX7_land_140 : decode cX7_land 140 = .ok (.iaload, 1) := by decide +kernel
theorem dX7_land_141 : decode cX7_land 141 = .ok (.ifCond .ne 32, 3) := by decide +kernel
theorem dX7_land_144 : decode cX7_land 144 = .ok (.aload_n 0, 1) := by decide +kernel
theorem dX7_land_145 : decode cX7_land 145 = .ok (.getfield 56, 3) := by decide +kernel
theorem dX7_land_148 : decode cX7_land 148 = .ok (.iload 6, 2) := by decide +kernel
theorem dX7_land_150 : decode cX7_land 150 = .ok (.iaload, 1) := by decide +kernel
theorem dX7_land_151 : decode cX7_land 151 = .ok (.iload 4, 2) := by decide +kernel
theorem dX7_land_153 : decode cX7_land 153 = .ok (.if_icmp .ne 20, 3) := by decide +kernel
theorem dX7_land_156 : decode cX7_land 156 = .ok (.iload 5, 2) := by decide +kernel
theorem dX7_land_158 : decode cX7_land 158 = .ok (.iconst 1, 1) := by decide +kernel
theorem dX7_land_159 : decode cX7_land 159 = .ok (.if_icmp .ne 14, 3) := by decide +kernel
theorem dX7_land_162 : decode cX7_land 162 = .ok (.aload_n 0, 1) := by decide +kernel
theorem dX7_land_163 : decode cX7_land 163 = .ok (.getfield 41, 3) := by decide +kernel
theorem dX7_land_166 : decode cX7_land 166 = .ok (.iload 6, 2) := by decide +kernel
theorem dX7_land_168 : decode cX7_land 168 = .ok (.iconst 2, 1) := by decide +kernel
theorem dX7_land_169 : decode cX7_land 169 = .ok (.iastore, 1) := by decide +kernel
theorem dX7_land_170 : decode cX7_land 170 = .ok (.goto 33, 3) := by decide +kernel
theorem dX7_land_173 : decode cX7_land 173 = .ok (.aload_n 0, 1) := by decide +kernel
theorem dX7_land_174 : decode cX7_land 174 = .ok (.getfield 41, 3) := by decide +kernel
theorem dX7_land_177 : decode cX7_land 177 = .ok (.iload 6, 2) := by decide +kernel
theorem dX7_land_179 : decode cX7_land 179 = .ok (.iaload, 1) := by decide +kernel
theorem dX7_land_180 : decode cX7_land 180 = .ok (.ifCond .ne 23, 3) := by decide +kernel
theorem dX7_land_183 : decode cX7_land 183 = .ok (.aload_n 0, 1) := by decide +kernel
theorem dX7_land_184 : decode cX7_land 184 = .ok (.getfield 56, 3) := by decide +kernel
theorem dX7_land_187 : decode cX7_land 187 = .ok (.iload 6, 2) := by decide +kernel
theorem dX7_land_189 : decode cX7_land 189 = .ok (.iaload, 1) := by decide +kernel
theorem dX7_land_190 : decode cX7_land 190 = .ok (.iload 4, 2) := by decide +kernel
theorem dX7_land_192 : decode cX7_land 192 = .ok (.if_icmp .ne 11, 3) := by decide +kernel
theorem dX7_land_195 : decode cX7_land 195 = .ok (.aload_n 0, 1) := by decide +kernel
theorem dX7_land_196 : decode cX7_land 196 = .ok (.getfield 62, 3) := by decide +kernel
theorem dX7_land_199 : decode cX7_land 199 = .ok (.iload 6, 2) := by decide +kernel
theorem dX7_land_201 : decode cX7_land 201 = .ok (.iconst 0, 1) := by decide +kernel
theorem dX7_land_202 : decode cX7_land 202 = .ok (.bastore, 1) := by decide +kernel
theorem dX7_land_203 : decode cX7_land 203 = .ok (.iinc 6 1, 3) := by decide +kernel
theorem dX7_land_206 : decode cX7_land 206 = .ok (.goto (-137), 3) := by decide +kernel
theorem dX7_land_209 : decode cX7_land 209 = .ok (.lconst 0, 1) := by decide +kernel
theorem dX7_land_210 : decode cX7_land 210 = .ok (.lstore 6, 2) := by decide +kernel
theorem dX7_land_212 : decode cX7_land 212 = .ok (.aload_n 0, 1) := by decide +kernel
theorem dX7_land_213 : decode cX7_land 213 = .ok (.getfield 79, 3) := by decide +kernel
theorem dX7_land_216 : decode cX7_land 216 = .ok (.iconst 1, 1) := by decide +kernel
theorem dX7_land_217 : decode cX7_land 217 = .ok (.isub, 1) := by decide +kernel
theorem dX7_land_218 : decode cX7_land 218 = .ok (.istore 8, 2) := by decide +kernel
theorem dX7_land_220 : decode cX7_land 220 = .ok (.iload 8, 2) := by decide +kernel
theorem dX7_land_222 : decode cX7_land 222 = .ok (.ifCond .lt 49, 3) := by decide +kernel
theorem dX7_land_225 : decode cX7_land 225 = .ok (.aload_n 0, 1) := by decide +kernel
theorem dX7_land_226 : decode cX7_land 226 = .ok (.getfield 41, 3) := by decide +kernel
theorem dX7_land_229 : decode cX7_land 229 = .ok (.iload 8, 2) := by decide +kernel
theorem dX7_land_231 : decode cX7_land 231 = .ok (.iaload, 1) := by decide +kernel
theorem dX7_land_232 : decode cX7_land 232 = .ok (.ifCond .ne 33, 3) := by decide +kernel
theorem dX7_land_235 : decode cX7_land 235 = .ok (.aload_n 0, 1) := by decide +kernel
theorem dX7_land_236 : decode cX7_land 236 = .ok (.getfield 56, 3) := by decide +kernel
theorem dX7_land_239 : decode cX7_land 239 = .ok (.iload 8, 2) := by decide +kernel
theorem dX7_land_241 : decode cX7_land 241 = .ok (.iaload, 1) := by decide +kernel
theorem dX7_land_242 : decode cX7_land 242 = .ok (.iload 4, 2) := by decide +kernel
theorem dX7_land_244 : decode cX7_land 244 = .ok (.if_icmp .ne 21, 3) := by decide +kernel
theorem dX7_land_247 : decode cX7_land 247 = .ok (.aload_n 0, 1) := by decide +kernel
theorem dX7_land_248 : decode cX7_land 248 = .ok (.getfield 56, 3) := by decide +kernel
theorem dX7_land_251 : decode cX7_land 251 = .ok (.iload 8, 2) := by decide +kernel
theorem dX7_land_253 : decode cX7_land 253 = .ok (.iload 8, 2) := by decide +kernel
theorem dX7_land_255 : decode cX7_land 255 = .ok (.iastore, 1) := by decide +kernel
theorem dX7_land_256 : decode cX7_land 256 = .ok (.lload 6, 2) := by decide +kernel
theorem dX7_land_258 : decode cX7_land 258 = .ok (.lconst 1, 1) := by decide +kernel
theorem dX7_land_259 : decode cX7_land 259 = .ok (.iload 8, 2) := by decide +kernel
theorem dX7_land_261 : decode cX7_land 261 = .ok (.lshl, 1) := by decide +kernel
theorem dX7_land_262 : decode cX7_land 262 = .ok (.lor, 1) := by decide +kernel
theorem dX7_land_263 : decode cX7_land 263 = .ok (.lstore 6, 2) := by decide +kernel
theorem dX7_land_265 : decode cX7_land 265 = .ok (.iinc 8 (-1), 3) := by decide +kernel
theorem dX7_land_268 : decode cX7_land 268 = .ok (.goto (-48), 3) := by decide +kernel
theorem dX7_land_271 : decode cX7_land 271 = .ok (.iconst 0, 1) := by decide +kernel
theorem dX7_land_272 : decode cX7_land 272 = .ok (.istore 8, 2) := by decide +kernel
theorem dX7_land_274 : decode cX7_land 274 = .ok (.iload 8, 2) := by decide +kernel
theorem dX7_land_276 : decode cX7_land 276 = .ok (.aload_n 0, 1) := by decide +kernel
theorem dX7_land_277 : decode cX7_land 277 = .ok (.getfield 79, 3) := by decide +kernel
theorem dX7_land_280 : decode cX7_land 280 = .ok (.if_icmp .ge 27, 3) := by decide +kernel
theorem dX7_land_283 : decode cX7_land 283 = .ok (.lload 6, 2) := by decide +kernel
theorem dX7_land_285 : decode cX7_land 285 = .ok (.iload 8, 2) := by decide +kernel
theorem dX7_land_287 : decode cX7_land 287 = .ok (.lshr, 1) := by decide +kernel
theorem dX7_land_288 : decode cX7_land 288 = .ok (.lconst 1, 1) := by decide +kernel
theorem dX7_land_289 : decode cX7_land 289 = .ok (.land, 1) := by decide +kernel
theorem dX7_land_290 : decode cX7_land 290 = .ok (.lconst 1, 1) := by decide +kernel
theorem dX7_land_291 : decode cX7_land 291 = .ok (.lcmp, 1) := by decide +kernel
theorem dX7_land_292 : decode cX7_land 292 = .ok (.ifCond .ne 9, 3) := by decide +kernel
theorem dX7_land_295 : decode cX7_land 295 = .ok (.aload_n 0, 1) := by decide +kernel
theorem dX7_land_296 : decode cX7_land 296 = .ok (.iload 8, 2) := by decide +kernel
theorem dX7_land_298 : decode cX7_land 298 = .ok (.invokevirtual 116, 3) := by decide +kernel
theorem dX7_land_301 : decode cX7_land 301 = .ok (.iinc 8 1, 3) := by decide +kernel
theorem dX7_land_304 : decode cX7_land 304 = .ok (.goto (-30), 3) := by decide +kernel
theorem dX7_land_307 : decode cX7_land 307 = .ok (.iload 5, 2) := by decide +kernel
theorem dX7_land_309 : decode cX7_land 309 = .ok (.ireturn, 1) := by decide +kernel
set_option maxRecDepth 20000 in
theorem ggX7_close_X7_isRaise : GoodIn wsX7_close wsX7_isRaise := goodIn_r _ [7, 8, 9, 10, 6, 11, 37, 38, 39, 40, 41, 42, 43, 44, 45, 46, 47, 48, 49, 50, 51, 52, 53, 54, 55, 56, 57, 58, 59, 60, 61] (by decide +kernel) (by decide +kernel)
set_option maxRecDepth 20000 in
theorem gX7_close_X7_isRaise : GoodIn wsX7_close (wsV RX7 82 RX7 yX7_isRaise wsX7_isRaise) := goodIn_app (goodIn_of _ (by decide +kernel)) ggX7_close_X7_isRaise
set_option maxRecDepth 20000 in
theorem ggX7_close_X7_refused : GoodIn wsX7_close wsX7_refused := goodIn_r _ [15, 16, 37, 38, 39, 40, 41, 42, 43, 44, 45, 46, 47, 48, 49, 50, 51, 52, 53, 54, 55, 56, 57, 58, 59, 60, 61] (by decide +kernel) (by decide +kernel)
set_option maxRecDepth 20000 in
theorem gX7_close_X7_refused : GoodIn wsX7_close (wsV RX7 86 RX7 yX7_refused wsX7_refused) := goodIn_app (goodIn_of _ (by decide +kernel)) ggX7_close_X7_refused
set_option maxRecDepth 20000 in
theorem ggX7_close_X7_settle : GoodIn wsX7_close wsX7_settle := goodIn_r _ [20, 8, 1, 2, 21, 22, 23, 6, 24, 25, 26, 27, 28, 29, 30, 31, 32, 33, 34, 35, 36, 37, 38, 39, 40, 41, 42, 43, 44, 45, 46, 47, 48, 49, 50, 51, 52, 53, 54, 55, 56, 57, 58, 59, 60, 61] (by decide +kernel) (by decide +kernel)
set_option maxRecDepth 20000 in
theorem gX7_close_X7_settle : GoodIn wsX7_close (wsV RX7 136 RX7 yX7_settle wsX7_settle) := goodIn_app (goodIn_of _ (by decide +kernel)) ggX7_close_X7_settle
theorem dX7_close_0 : decode cX7_close 0 = .ok (.aload_n 0, 1) := by decide +kernel
theorem dX7_close_1 : decode cX7_close 1 = .ok (.iload_n 1, 1) := by decide +kernel
theorem dX7_close_2 : decode cX7_close 2 = .ok (.invokevirtual 82, 3) := by decide +kernel
theorem dX7_close_5 : decode cX7_close 5 = .ok (.istore_n 2, 1) := by decide +kernel
theorem dX7_close_6 : decode cX7_close 6 = .ok (.aload_n 0, 1) := by decide +kernel
theorem dX7_close_7 : decode cX7_close 7 = .ok (.iload_n 2, 1) := by decide +kernel
theorem dX7_close_8 : decode cX7_close 8 = .ok (.ifCond .ne 7, 3) := by decide +kernel
theorem dX7_close_11 : decode cX7_close 11 = .ok (.iconst 1, 1) := by decide +kernel
theorem dX7_close_12 : decode cX7_close 12 = .ok (.goto 17, 3) := by decide +kernel
theorem dX7_close_15 : decode cX7_close 15 = .ok (.aload_n 0, 1) := by decide +kernel
theorem dX7_close_16 : decode cX7_close 16 = .ok (.getfield 41, 3) := by decide +kernel
theorem dX7_close_19 : decode cX7_close 19 = .ok (.iload_n 1, 1) := by decide +kernel
theorem dX7_close_20 : decode cX7_close 20 = .ok (.iaload, 1) := by decide +kernel
theorem dX7_close_21 : decode cX7_close 21 = .ok (.ifCond .eq 7, 3) := by decide +kernel
theorem dX7_close_24 : decode cX7_close 24 = .ok (.iconst 2, 1) := by decide +kernel
theorem dX7_close_25 : decode cX7_close 25 = .ok (.goto 4, 3) := by decide +kernel
theorem dX7_close_28 : decode cX7_close 28 = .ok (.iconst 0, 1) := by decide +kernel
theorem dX7_close_29 : decode cX7_close 29 = .ok (.invokevirtual 86, 3) := by decide +kernel
theorem dX7_close_32 : decode cX7_close 32 = .ok (.ifCond .eq 4, 3) := by decide +kernel
theorem dX7_close_35 : decode cX7_close 35 = .ok (.return_, 1) := by decide +kernel
theorem dX7_close_36 : decode cX7_close 36 = .ok (.aload_n 0, 1) := by decide +kernel
theorem dX7_close_37 : decode cX7_close 37 = .ok (.getfield 41, 3) := by decide +kernel
theorem dX7_close_40 : decode cX7_close 40 = .ok (.iload_n 1, 1) := by decide +kernel
theorem dX7_close_41 : decode cX7_close 41 = .ok (.iconst 3, 1) := by decide +kernel
theorem dX7_close_42 : decode cX7_close 42 = .ok (.iastore, 1) := by decide +kernel
theorem dX7_close_43 : decode cX7_close 43 = .ok (.aload_n 0, 1) := by decide +kernel
theorem dX7_close_44 : decode cX7_close 44 = .ok (.aload_n 0, 1) := by decide +kernel
theorem dX7_close_45 : decode cX7_close 45 = .ok (.getfield 56, 3) := by decide +kernel
theorem dX7_close_48 : decode cX7_close 48 = .ok (.iload_n 1, 1) := by decide +kernel
theorem dX7_close_49 : decode cX7_close 49 = .ok (.iaload, 1) := by decide +kernel
theorem dX7_close_50 : decode cX7_close 50 = .ok (.invokevirtual 136, 3) := by decide +kernel
theorem dX7_close_53 : decode cX7_close 53 = .ok (.return_, 1) := by decide +kernel
theorem dX7_oldest_0 : decode cX7_oldest 0 = .ok (.sipush 1000, 3) := by decide +kernel
theorem dX7_oldest_3 : decode cX7_oldest 3 = .ok (.istore_n 2, 1) := by decide +kernel
theorem dX7_oldest_4 : decode cX7_oldest 4 = .ok (.iconst 0, 1) := by decide +kernel
theorem dX7_oldest_5 : decode cX7_oldest 5 = .ok (.istore_n 3, 1) := by decide +kernel
theorem dX7_oldest_6 : decode cX7_oldest 6 = .ok (.iload_n 3, 1) := by decide +kernel
theorem dX7_oldest_7 : decode cX7_oldest 7 = .ok (.aload_n 0, 1) := by decide +kernel
theorem dX7_oldest_8 : decode cX7_oldest 8 = .ok (.getfield 79, 3) := by decide +kernel
theorem dX7_oldest_11 : decode cX7_oldest 11 = .ok (.if_icmp .ge 49, 3) := by decide +kernel
theorem dX7_oldest_14 : decode cX7_oldest 14 = .ok (.aload_n 0, 1) := by decide +kernel
theorem dX7_oldest_15 : decode cX7_oldest 15 = .ok (.getfield 41, 3) := by decide +kernel
theorem dX7_oldest_18 : decode cX7_oldest 18 = .ok (.iload_n 3, 1) := by decide +kernel
theorem dX7_oldest_19 : decode cX7_oldest 19 = .ok (.iaload, 1) := by decide +kernel
theorem dX7_oldest_20 : decode cX7_oldest 20 = .ok (.ifCond .ne 32, 3) := by decide +kernel
theorem dX7_oldest_23 : decode cX7_oldest 23 = .ok (.aload_n 0, 1) := by decide +kernel
theorem dX7_oldest_24 : decode cX7_oldest 24 = .ok (.getfield 56, 3) := by decide +kernel
theorem dX7_oldest_27 : decode cX7_oldest 27 = .ok (.iload_n 3, 1) := by decide +kernel
theorem dX7_oldest_28 : decode cX7_oldest 28 = .ok (.iaload, 1) := by decide +kernel
theorem dX7_oldest_29 : decode cX7_oldest 29 = .ok (.iload_n 1, 1) := by decide +kernel
theorem dX7_oldest_30 : decode cX7_oldest 30 = .ok (.if_icmp .ne 22, 3) := by decide +kernel
theorem dX7_oldest_33 : decode cX7_oldest 33 = .ok (.aload_n 0, 1) := by decide +kernel
theorem dX7_oldest_34 : decode cX7_oldest 34 = .ok (.getfield 53, 3) := by decide +kernel
theorem dX7_oldest_37 : decode cX7_oldest 37 = .ok (.iload_n 3, 1) := by decide +kernel
theorem dX7_oldest_38 : decode cX7_oldest 38 = .ok (.iaload, 1) := by decide +kernel
theorem dX7_oldest_39 : decode cX7_oldest 39 = .ok (.iload_n 2, 1) := by decide +kernel
theorem dX7_oldest_40 : decode cX7_oldest 40 = .ok (.if_icmp .ge 12, 3) := by decide +kernel
theorem dX7_oldest_43 : decode cX7_oldest 43 = .ok (.aload_n 0, 1) := by decide +kernel
theorem dX7_oldest_44 : decode cX7_oldest 44 = .ok (.getfield 53, 3) := by decide +kernel
theorem dX7_oldest_47 : decode cX7_oldest 47 = .ok (.iload_n 3, 1) := by decide +kernel
theorem dX7_oldest_48 : decode cX7_oldest 48 = .ok (.iaload, 1) := by decide +kernel
theorem dX7_oldest_49 : decode cX7_oldest 49 = .ok (.goto 4, 3) := by decide +kernel
theorem dX7_oldest_52 : decode cX7_oldest 52 = .ok (.iload_n 2, 1) := by decide +kernel
theorem dX7_oldest_53 : decode cX7_oldest 53 = .ok (.istore_n 2, 1) := by decide +kernel
theorem dX7_oldest_54 : decode cX7_oldest 54 = .ok (.iinc 3 1, 3) := by decide +kernel
theorem dX7_oldest_57 : decode cX7_oldest 57 = .ok (.goto (-51), 3) := by decide +kernel
theorem dX7_oldest_60 : decode cX7_oldest 60 = .ok (.iload_n 2, 1) := by decide +kernel
theorem dX7_oldest_61 : decode cX7_oldest 61 = .ok (.ireturn, 1) := by decide +kernel
set_option maxRecDepth 20000 in
theorem ggX7_wake_X7_failsWith : GoodIn wsX7_wake wsX7_failsWith := goodIn_r _ [10, 3, 4, 5, 11, 12, 13, 14, 15, 16, 9, 17, 18, 19, 20, 21, 22, 23, 24, 25, 26, 27, 28, 29, 30, 31, 53, 54, 55, 56, 57, 58, 59, 60, 61, 62, 63, 64, 65, 66, 67, 68, 69, 70, 71, 72, 73, 74, 75, 76, 77] (by decide +kernel) (by decide +kernel)
set_option maxRecDepth 20000 in
theorem gX7_wake_X7_failsWith : GoodIn wsX7_wake (wsV RX7 126 RX7 yX7_failsWith wsX7_failsWith) := goodIn_app (goodIn_of _ (by decide +kernel)) ggX7_wake_X7_failsWith
set_option maxRecDepth 20000 in
theorem ggX7_wake_X7_oldest : GoodIn wsX7_wake wsX7_oldest := goodIn_r _ [35, 3, 4, 5, 36, 53, 54, 55, 56, 57, 58, 59, 60, 61, 62, 63, 64, 65, 66, 67, 68, 69, 70, 71, 72, 73, 74, 75, 76, 77] (by decide +kernel) (by decide +kernel)
set_option maxRecDepth 20000 in
theorem gX7_wake_X7_oldest : GoodIn wsX7_wake (wsV RX7 139 RX7 yX7_oldest wsX7_oldest) := goodIn_app (goodIn_of _ (by decide +kernel)) ggX7_wake_X7_oldest
set_option maxRecDepth 20000 in
theorem ggX7_wake_X7_give : GoodIn wsX7_wake wsX7_give := goodIn_r _ [40, 3, 4, 5, 41, 42, 43, 44, 45, 46, 47, 9, 48, 49, 50, 51, 52, 53, 54, 55, 56, 57, 58, 59, 60, 61, 62, 63, 64, 65, 66, 67, 68, 69, 70, 71, 72, 73, 74, 75, 76, 77] (by decide +kernel) (by decide +kernel)
set_option maxRecDepth 20000 in
theorem gX7_wake_X7_give : GoodIn wsX7_wake (wsV RX7 116 RX7 yX7_give wsX7_give) := goodIn_app (goodIn_of _ (by decide +kernel)) ggX7_wake_X7_give
theorem dX7_wake_0 : decode cX7_wake 0 = .ok (.aload_n 0, 1) := by decide +kernel
theorem dX7_wake_1 : decode cX7_wake 1 = .ok (.iload_n 1, 1) := by decide +kernel
theorem dX7_wake_2 : decode cX7_wake 2 = .ok (.iload_n 1, 1) := by decide +kernel
theorem dX7_wake_3 : decode cX7_wake 3 = .ok (.invokevirtual 126, 3) := by decide +kernel
theorem dX7_wake_6 : decode cX7_wake 6 = .ok (.istore_n 2, 1) := by decide +kernel
theorem dX7_wake_7 : decode cX7_wake 7 = .ok (.iload_n 2, 1) := by decide +kernel
theorem dX7_wake_8 : decode cX7_wake 8 = .ok (.ifCond .eq 20, 3) := by decide +kernel
theorem dX7_wake_11 : decode cX7_wake 11 = .ok (.aload_n 0, 1) := by decide +kernel
theorem dX7_wake_12 : decode cX7_wake 12 = .ok (.getfield 123, 3) := by decide +kernel
theorem dX7_wake_15 : decode cX7_wake 15 = .ok (.aload_n 0, 1) := by decide +kernel
theorem dX7_wake_16 : decode cX7_wake 16 = .ok (.iload_n 1, 1) := by decide +kernel
theorem dX7_wake_17 : decode cX7_wake 17 = .ok (.invokevirtual 139, 3) := by decide +kernel
theorem dX7_wake_20 : decode cX7_wake 20 = .ok (.isub, 1) := by decide +kernel
theorem dX7_wake_21 : decode cX7_wake 21 = .ok (.aload_n 0, 1) := by decide +kernel
theorem dX7_wake_22 : decode cX7_wake 22 = .ok (.getfield 28, 3) := by decide +kernel
theorem dX7_wake_25 : decode cX7_wake 25 = .ok (.if_icmp .ge 4, 3) := by decide +kernel
theorem dX7_wake_28 : decode cX7_wake 28 = .ok (.return_, 1) := by decide +kernel
theorem dX7_wake_29 : decode cX7_wake 29 = .ok (.iconst (-1), 1) := by decide +kernel
theorem dX7_wake_30 : decode cX7_wake 30 = .ok (.istore_n 3, 1) := by decide +kernel
theorem dX7_wake_31 : decode cX7_wake 31 = .ok (.iload_n 2, 1) := by decide +kernel
theorem dX7_wake_32 : decode cX7_wake 32 = .ok (.istore 4, 2) := by decide +kernel
theorem dX7_wake_34 : decode cX7_wake 34 = .ok (.iconst 0, 1) := by decide +kernel
theorem dX7_wake_35 : decode cX7_wake 35 = .ok (.istore 5, 2) := by decide +kernel
theorem dX7_wake_37 : decode cX7_wake 37 = .ok (.iload 5, 2) := by decide +kernel
theorem dX7_wake_39 : decode cX7_wake 39 = .ok (.aload_n 0, 1) := by decide +kernel
theorem dX7_wake_40 : decode cX7_wake 40 = .ok (.getfield 79, 3) := by decide +kernel
theorem dX7_wake_43 : decode cX7_wake 43 = .ok (.if_icmp .ge 76, 3) := by decide +kernel
theorem dX7_wake_46 : decode cX7_wake 46 = .ok (.aload_n 0, 1) := by decide +kernel
theorem dX7_wake_47 : decode cX7_wake 47 = .ok (.getfield 41, 3) := by decide +kernel
theorem dX7_wake_50 : decode cX7_wake 50 = .ok (.iload 5, 2) := by decide +kernel
theorem dX7_wake_52 : decode cX7_wake 52 = .ok (.iaload, 1) := by decide +kernel
theorem dX7_wake_53 : decode cX7_wake 53 = .ok (.ifCond .ne 60, 3) := by decide +kernel
theorem dX7_wake_56 : decode cX7_wake 56 = .ok (.aload_n 0, 1) := by decide +kernel
theorem dX7_wake_57 : decode cX7_wake 57 = .ok (.getfield 56, 3) := by decide +kernel
theorem dX7_wake_60 : decode cX7_wake 60 = .ok (.iload 5, 2) := by decide +kernel
theorem dX7_wake_62 : decode cX7_wake 62 = .ok (.iaload, 1) := by decide +kernel
theorem dX7_wake_63 : decode cX7_wake 63 = .ok (.iload 5, 2) := by decide +kernel
theorem dX7_wake_65 : decode cX7_wake 65 = .ok (.if_icmp .ne 48, 3) := by decide +kernel
theorem dX7_wake_68 : decode cX7_wake 68 = .ok (.iload 5, 2) := by decide +kernel
theorem dX7_wake_70 : decode cX7_wake 70 = .ok (.iload_n 1, 1) := by decide +kernel
theorem dX7_wake_71 : decode cX7_wake 71 = .ok (.if_icmp .eq 42, 3) := by decide +kernel
theorem dX7_wake_74 : decode cX7_wake 74 = .ok (.aload_n 0, 1) := by decide +kernel
theorem dX7_wake_75 : decode cX7_wake 75 = .ok (.iload_n 1, 1) := by decide +kernel
theorem dX7_wake_76 : decode cX7_wake 76 = .ok (.iload 5, 2) := by decide +kernel
theorem dX7_wake_78 : decode cX7_wake 78 = .ok (.invokevirtual 126, 3) := by decide +kernel
theorem dX7_wake_81 : decode cX7_wake 81 = .ok (.istore 6, 2) := by decide +kernel
theorem dX7_wake_83 : decode cX7_wake 83 = .ok (.iload 6, 2) := by decide +kernel
theorem dX7_wake_85 : decode cX7_wake 85 = .ok (.iload 4, 2) := by decide +kernel
theorem dX7_wake_87 : decode cX7_wake 87 = .ok (.if_icmp .ge 8, 3) := by decide +kernel
theorem dX7_wake_90 : decode cX7_wake 90 = .ok (.iload 5, 2) := by decide +kernel
theorem dX7_wake_92 : decode cX7_wake 92 = .ok (.goto 4, 3) := by decide +kernel
theorem dX7_wake_95 : decode cX7_wake 95 = .ok (.iload_n 3, 1) := by decide +kernel
theorem dX7_wake_96 : decode cX7_wake 96 = .ok (.istore_n 3, 1) := by decide +kernel
theorem dX7_wake_97 : decode cX7_wake 97 = .ok (.iload 6, 2) := by decide +kernel
theorem dX7_wake_99 : decode cX7_wake 99 = .ok (.iload 4, 2) := by decide +kernel
theorem dX7_wake_101 : decode cX7_wake 101 = .ok (.if_icmp .ge 8, 3) := by decide +kernel
theorem dX7_wake_104 : decode cX7_wake 104 = .ok (.iload 6, 2) := by decide +kernel
theorem dX7_wake_106 : decode cX7_wake 106 = .ok (.goto 5, 3) := by decide +kernel
theorem dX7_wake_109 : decode cX7_wake 109 = .ok (.iload 4, 2) := by decide +kernel
theorem dX7_wake_111 : decode cX7_wake 111 = .ok (.istore 4, 2) := by decide +kernel
theorem dX7_wake_113 : decode cX7_wake 113 = .ok (.iinc 5 1, 3) := by decide +kernel
theorem dX7_wake_116 : decode cX7_wake 116 = .ok (.goto (-79), 3) := by decide +kernel
theorem dX7_wake_119 : decode cX7_wake 119 = .ok (.iload_n 3, 1) := by decide +kernel
theorem dX7_wake_120 : decode cX7_wake 120 = .ok (.iconst (-1), 1) := by decide +kernel
theorem dX7_wake_121 : decode cX7_wake 121 = .ok (.if_icmp .eq 90, 3) := by decide +kernel
theorem dX7_wake_124 : decode cX7_wake 124 = .ok (.iload_n 3, 1) := by decide +kernel
theorem dX7_wake_125 : decode cX7_wake 125 = .ok (.iload_n 1, 1) := by decide +kernel
theorem dX7_wake_126 : decode cX7_wake 126 = .ok (.if_icmp .ge 7, 3) := by decide +kernel
theorem dX7_wake_129 : decode cX7_wake 129 = .ok (.iload_n 3, 1) := by decide +kernel
theorem dX7_wake_130 : decode cX7_wake 130 = .ok (.goto 4, 3) := by decide +kernel
theorem dX7_wake_133 : decode cX7_wake 133 = .ok (.iload_n 1, 1) := by decide +kernel
theorem dX7_wake_134 : decode cX7_wake 134 = .ok (.istore 5, 2) := by decide +kernel
theorem dX7_wake_136 : decode cX7_wake 136 = .ok (.iconst 0, 1) := by decide +kernel
theorem dX7_wake_137 : decode cX7_wake 137 = .ok (.istore 6, 2) := by decide +kernel
theorem dX7_wake_139 : decode cX7_wake 139 = .ok (.iload 6, 2) := by decide +kernel
theorem dX7_wake_141 : decode cX7_wake 141 = .ok (.aload_n 0, 1) := by decide +kernel
theorem dX7_wake_142 : decode cX7_wake 142 = .ok (.getfield 79, 3) := by decide +kernel
theorem dX7_wake_145 : decode cX7_wake 145 = .ok (.if_icmp .ge 60, 3) := by decide +kernel
theorem dX7_wake_148 : decode cX7_wake 148 = .ok (.aload_n 0, 1) := by decide +kernel
theorem dX7_wake_149 : decode cX7_wake 149 = .ok (.getfield 56, 3) := by decide +kernel
theorem dX7_wake_152 : decode cX7_wake 152 = .ok (.iload 6, 2) := by decide +kernel
theorem dX7_wake_154 : decode cX7_wake 154 = .ok (.aload_n 0, 1) := by decide +kernel
theorem dX7_wake_155 : decode cX7_wake 155 = .ok (.getfield 41, 3) := by decide +kernel
theorem dX7_wake_158 : decode cX7_wake 158 = .ok (.iload 6, 2) := by decide +kernel
theorem dX7_wake_160 : decode cX7_wake 160 = .ok (.iaload, 1) := by decide +kernel
theorem dX7_wake_161 : decode cX7_wake 161 = .ok (.ifCond .ne 30, 3) := by decide +kernel
theorem dX7_wake_164 : decode cX7_wake 164 = .ok (.aload_n 0, 1) := by decide +kernel
theorem dX7_wake_165 : decode cX7_wake 165 = .ok (.getfield 56, 3) := by decide +kernel
theorem dX7_wake_168 : decode cX7_wake 168 = .ok (.iload 6, 2) := by decide +kernel
theorem dX7_wake_170 : decode cX7_wake 170 = .ok (.iaload, 1) := by decide +kernel
theorem dX7_wake_171 : decode cX7_wake 171 = .ok (.iload_n 1, 1) := by decide +kernel
theorem dX7_wake_172 : decode cX7_wake 172 = .ok (.if_icmp .eq 14, 3) := by decide +kernel
theorem dX7_wake_175 : decode cX7_wake 175 = .ok (.aload_n 0, 1) := by decide +kernel
theorem dX7_wake_176 : decode cX7_wake 176 = .ok (.getfield 56, 3) := by decide +kernel
theorem dX7_wake_179 : decode cX7_wake 179 = .ok (.iload 6, 2) := by decide +kernel
theorem dX7_wake_181 : decode cX7_wake 181 = .ok (.iaload, 1) := by decide +kernel
theorem dX7_wake_182 : decode cX7_wake 182 = .ok (.iload_n 3, 1) := by decide +kernel
theorem dX7_wake_183 : decode cX7_wake 183 = .ok (.if_icmp .ne 8, 3) := by decide +kernel
theorem dX7_wake_186 : decode cX7_wake 186 = .ok (.iload 5, 2) := by decide +kernel
theorem dX7_wake_188 : decode cX7_wake 188 = .ok (.goto 10, 3) := by decide +kernel
theorem dX7_wake_191 : decode cX7_wake 191 = .ok (.aload_n 0, 1) := by decide +kernel
theorem dX7_wake_192 : decode cX7_wake 192 = .ok (.getfield 56, 3) := by decide +kernel
theorem dX7_wake_195 : decode cX7_wake 195 = .ok (.iload 6, 2) := by decide +kernel
theorem dX7_wake_197 : decode cX7_wake 197 = .ok (.iaload, 1) := by decide +kernel
theorem dX7_wake_198 : decode cX7_wake 198 = .ok (.iastore, 1) := by decide +kernel
theorem dX7_wake_199 : decode cX7_wake 199 = .ok (.iinc 6 1, 3) := by decide +kernel
theorem dX7_wake_202 : decode cX7_wake 202 = .ok (.goto (-63), 3) := by decide +kernel
theorem dX7_wake_205 : decode cX7_wake 205 = .ok (.aload_n 0, 1) := by decide +kernel
theorem dX7_wake_206 : decode cX7_wake 206 = .ok (.iload 5, 2) := by decide +kernel
theorem dX7_wake_208 : decode cX7_wake 208 = .ok (.invokevirtual 116, 3) := by decide +kernel
theorem dX7_wake_211 : decode cX7_wake 211 = .ok (.return_, 1) := by decide +kernel
set_option maxRecDepth 20000 in
theorem ggX7_pass_X7_in : GoodIn wsX7_pass wsX7_in := goodIn_r _ [8] (by decide +kernel) (by decide +kernel)
set_option maxRecDepth 20000 in
theorem gX7_pass_X7_in : GoodIn wsX7_pass (va_wsS RX7 75 yX7_in wsX7_in) := goodIn_app (goodIn_of _ (by decide +kernel)) ggX7_pass_X7_in
set_option maxRecDepth 20000 in
theorem ggX7_pass_X7_refused : GoodIn wsX7_pass wsX7_refused := goodIn_r _ [12, 13, 62, 63, 64, 65, 66, 67, 68, 69, 70, 71, 72, 73, 74, 75, 76, 77, 78, 79, 80, 81, 82, 83, 84, 85, 86] (by decide +kernel) (by decide +kernel)
set_option maxRecDepth 20000 in
theorem gX7_pass_X7_refused : GoodIn wsX7_pass (wsV RX7 86 RX7 yX7_refused wsX7_refused) := goodIn_app (goodIn_of _ (by decide +kernel)) ggX7_pass_X7_refused
set_option maxRecDepth 20000 in
theorem ggX7_pass_X7_wake : GoodIn wsX7_pass wsX7_wake := goodIn_r _ [17, 1, 18, 2, 3, 4, 19, 20, 21, 7, 22, 23, 24, 25, 26, 27, 28, 29, 30, 31, 32, 33, 34, 35, 36, 37, 38, 39, 40, 5, 6, 8, 41, 42, 43, 44, 45, 46, 47, 48, 49, 50, 51, 52, 53, 54, 55, 56, 57, 58, 59, 60, 61, 62, 63, 64, 65, 66, 67, 68, 69, 70, 71, 72, 73, 74, 75, 76, 77, 78, 79, 80, 81, 82, 83, 84, 85, 86] (by decide +kernel) (by decide +kernel)
set_option maxRecDepth 20000 in
theorem gX7_pass_X7_wake : GoodIn wsX7_pass (wsV RX7 142 RX7 yX7_wake wsX7_wake) := goodIn_app (goodIn_of _ (by decide +kernel)) ggX7_pass_X7_wake
theorem dX7_pass_0 : decode cX7_pass 0 = .ok (.aload_n 0, 1) := by decide +kernel
theorem dX7_pass_1 : decode cX7_pass 1 = .ok (.iload_n 1, 1) := by decide +kernel
theorem dX7_pass_2 : decode cX7_pass 2 = .ok (.iconst 1, 1) := by decide +kernel
theorem dX7_pass_3 : decode cX7_pass 3 = .ok (.bipush 100, 2) := by decide +kernel
theorem dX7_pass_5 : decode cX7_pass 5 = .ok (.invokestatic 75, 3) := by decide +kernel
theorem dX7_pass_8 : decode cX7_pass 8 = .ok (.ifCond .ne 7, 3) := by decide +kernel
theorem dX7_pass_11 : decode cX7_pass 11 = .ok (.iconst 1, 1) := by decide +kernel
theorem dX7_pass_12 : decode cX7_pass 12 = .ok (.goto 20, 3) := by decide +kernel
theorem dX7_pass_15 : decode cX7_pass 15 = .ok (.aload_n 0, 1) := by decide +kernel
theorem dX7_pass_16 : decode cX7_pass 16 = .ok (.getfield 123, 3) := by decide +kernel
theorem dX7_pass_19 : decode cX7_pass 19 = .ok (.iload_n 1, 1) := by decide +kernel
theorem dX7_pass_20 : decode cX7_pass 20 = .ok (.iadd, 1) := by decide +kernel
theorem dX7_pass_21 : decode cX7_pass 21 = .ok (.sipush 1000, 3) := by decide +kernel
theorem dX7_pass_24 : decode cX7_pass 24 = .ok (.if_icmp .le 7, 3) := by decide +kernel
theorem dX7_pass_27 : decode cX7_pass 27 = .ok (.iconst 2, 1) := by decide +kernel
theorem dX7_pass_28 : decode cX7_pass 28 = .ok (.goto 4, 3) := by decide +kernel
theorem dX7_pass_31 : decode cX7_pass 31 = .ok (.iconst 0, 1) := by decide +kernel
theorem dX7_pass_32 : decode cX7_pass 32 = .ok (.invokevirtual 86, 3) := by decide +kernel
theorem dX7_pass_35 : decode cX7_pass 35 = .ok (.ifCond .eq 5, 3) := by decide +kernel
theorem dX7_pass_38 : decode cX7_pass 38 = .ok (.iconst 0, 1) := by decide +kernel
theorem dX7_pass_39 : decode cX7_pass 39 = .ok (.ireturn, 1) := by decide +kernel
theorem dX7_pass_40 : decode cX7_pass 40 = .ok (.iconst 0, 1) := by decide +kernel
theorem dX7_pass_41 : decode cX7_pass 41 = .ok (.istore_n 2, 1) := by decide +kernel
theorem dX7_pass_42 : decode cX7_pass 42 = .ok (.iload_n 2, 1) := by decide +kernel
theorem dX7_pass_43 : decode cX7_pass 43 = .ok (.iload_n 1, 1) := by decide +kernel
theorem dX7_pass_44 : decode cX7_pass 44 = .ok (.if_icmp .ge 59, 3) := by decide +kernel
theorem dX7_pass_47 : decode cX7_pass 47 = .ok (.aload_n 0, 1) := by decide +kernel
theorem dX7_pass_48 : decode cX7_pass 48 = .ok (.dup, 1) := by decide +kernel
theorem dX7_pass_49 : decode cX7_pass 49 = .ok (.getfield 123, 3) := by decide +kernel
theorem dX7_pass_52 : decode cX7_pass 52 = .ok (.iconst 1, 1) := by decide +kernel
theorem dX7_pass_53 : decode cX7_pass 53 = .ok (.iadd, 1) := by decide +kernel
theorem dX7_pass_54 : decode cX7_pass 54 = .ok (.putfield 123, 3) := by decide +kernel
theorem dX7_pass_57 : decode cX7_pass 57 = .ok (.iconst 0, 1) := by decide +kernel
theorem dX7_pass_58 : decode cX7_pass 58 = .ok (.istore_n 3, 1) := by decide +kernel
theorem dX7_pass_59 : decode cX7_pass 59 = .ok (.iload_n 3, 1) := by decide +kernel
theorem dX7_pass_60 : decode cX7_pass 60 = .ok (.aload_n 0, 1) := by decide +kernel
theorem dX7_pass_61 : decode cX7_pass 61 = .ok (.getfield 79, 3) := by decide +kernel
theorem dX7_pass_64 : decode cX7_pass 64 = .ok (.if_icmp .ge 33, 3) := by decide +kernel
theorem dX7_pass_67 : decode cX7_pass 67 = .ok (.aload_n 0, 1) := by decide +kernel
theorem dX7_pass_68 : decode cX7_pass 68 = .ok (.getfield 41, 3) := by decide +kernel
theorem dX7_pass_71 : decode cX7_pass 71 = .ok (.iload_n 3, 1) := by decide +kernel
theorem dX7_pass_72 : decode cX7_pass 72 = .ok (.iaload, 1) := by decide +kernel
theorem dX7_pass_73 : decode cX7_pass 73 = .ok (.ifCond .ne 18, 3) := by decide +kernel
theorem dX7_pass_76 : decode cX7_pass 76 = .ok (.aload_n 0, 1) := by decide +kernel
theorem dX7_pass_77 : decode cX7_pass 77 = .ok (.getfield 56, 3) := by decide +kernel
theorem dX7_pass_80 : decode cX7_pass 80 = .ok (.iload_n 3, 1) := by decide +kernel
theorem dX7_pass_81 : decode cX7_pass 81 = .ok (.iaload, 1) := by decide +kernel
theorem dX7_pass_82 : decode cX7_pass 82 = .ok (.iload_n 3, 1) := by decide +kernel
theorem dX7_pass_83 : decode cX7_pass 83 = .ok (.if_icmp .ne 8, 3) := by decide +kernel
theorem dX7_pass_86 : decode cX7_pass 86 = .ok (.aload_n 0, 1) := by decide +kernel
theorem dX7_pass_87 : decode cX7_pass 87 = .ok (.iload_n 3, 1) := by decide +kernel
theorem dX7_pass_88 : decode cX7_pass 88 = .ok (.invokevirtual 142, 3) := by decide +kernel
theorem dX7_pass_91 : decode cX7_pass 91 = .ok (.iinc 3 1, 3) := by decide +kernel
theorem dX7_pass_94 : decode cX7_pass 94 = .ok (.goto (-35), 3) := by decide +kernel
theorem dX7_pass_97 : decode cX7_pass 97 = .ok (.iinc 2 1, 3) := by decide +kernel
theorem dX7_pass_100 : decode cX7_pass 100 = .ok (.goto (-58), 3) := by decide +kernel
theorem dX7_pass_103 : decode cX7_pass 103 = .ok (.aload_n 0, 1) := by decide +kernel
theorem dX7_pass_104 : decode cX7_pass 104 = .ok (.getfield 123, 3) := by decide +kernel
theorem dX7_pass_107 : decode cX7_pass 107 = .ok (.ireturn, 1) := by decide +kernel
theorem dX7_day_0 : decode cX7_day 0 = .ok (.aload_n 0, 1) := by decide +kernel
theorem dX7_day_1 : decode cX7_day 1 = .ok (.iconst 0, 1) := by decide +kernel
theorem dX7_day_2 : decode cX7_day 2 = .ok (.putfield 69, 3) := by decide +kernel
theorem dX7_day_5 : decode cX7_day 5 = .ok (.aload_n 0, 1) := by decide +kernel
theorem dX7_day_6 : decode cX7_day 6 = .ok (.getfield 123, 3) := by decide +kernel
theorem dX7_day_9 : decode cX7_day 9 = .ok (.ireturn, 1) := by decide +kernel
set_option maxRecDepth 20000 in
theorem ggX7_version_X7_isPack : GoodIn wsX7_version wsX7_isPack := goodIn_r _ [6, 7, 8, 9, 5, 10, 16, 17, 18, 19, 20, 21, 22, 23, 24, 25, 26, 27, 28, 29, 30, 31, 32, 33, 34, 35, 36, 37, 38, 39, 40] (by decide +kernel) (by decide +kernel)
set_option maxRecDepth 20000 in
theorem gX7_version_X7_isPack : GoodIn wsX7_version (wsV RX7 89 RX7 yX7_isPack wsX7_isPack) := goodIn_app (goodIn_of _ (by decide +kernel)) ggX7_version_X7_isPack
set_option maxRecDepth 20000 in
theorem ggX7_version_X7_refused : GoodIn wsX7_version wsX7_refused := goodIn_r _ [14, 15, 16, 17, 18, 19, 20, 21, 22, 23, 24, 25, 26, 27, 28, 29, 30, 31, 32, 33, 34, 35, 36, 37, 38, 39, 40] (by decide +kernel) (by decide +kernel)
set_option maxRecDepth 20000 in
theorem gX7_version_X7_refused : GoodIn wsX7_version (wsV RX7 86 RX7 yX7_refused wsX7_refused) := goodIn_app (goodIn_of _ (by decide +kernel)) ggX7_version_X7_refused
theorem dX7_version_0 : decode cX7_version 0 = .ok (.aload_n 0, 1) := by decide +kernel
theorem dX7_version_1 : decode cX7_version 1 = .ok (.aload_n 0, 1) := by decide +kernel
theorem dX7_version_2 : decode cX7_version 2 = .ok (.iload_n 1, 1) := by decide +kernel
theorem dX7_version_3 : decode cX7_version 3 = .ok (.invokevirtual 89, 3) := by decide +kernel
theorem dX7_version_6 : decode cX7_version 6 = .ok (.ifCond .eq 7, 3) := by decide +kernel
theorem dX7_version_9 : decode cX7_version 9 = .ok (.iconst 0, 1) := by decide +kernel
theorem dX7_version_10 : decode cX7_version 10 = .ok (.goto 4, 3) := by decide +kernel
theorem dX7_version_13 : decode cX7_version 13 = .ok (.iconst 1, 1) := by decide +kernel
theorem dX7_version_14 : decode cX7_version 14 = .ok (.invokevirtual 86, 3) := by decide +kernel
theorem dX7_version_17 : decode cX7_version 17 = .ok (.ifCond .eq 7, 3) := by decide +kernel
theorem dX7_version_20 : decode cX7_version 20 = .ok (.iconst 0, 1) := by decide +kernel
theorem dX7_version_21 : decode cX7_version 21 = .ok (.goto 9, 3) := by decide +kernel
theorem dX7_version_24 : decode cX7_version 24 = .ok (.aload_n 0, 1) := by decide +kernel
theorem dX7_version_25 : decode cX7_version 25 = .ok (.getfield 7, 3) := by decide +kernel
theorem dX7_version_28 : decode cX7_version 28 = .ok (.iload_n 1, 1) := by decide +kernel
theorem dX7_version_29 : decode cX7_version 29 = .ok (.iaload, 1) := by decide +kernel
theorem dX7_version_30 : decode cX7_version 30 = .ok (.ireturn, 1) := by decide +kernel
set_option maxRecDepth 20000 in
theorem ggX7_raiseOf_X7_isRaise : GoodIn wsX7_raiseOf wsX7_isRaise := goodIn_r _ [11, 12, 13, 14, 10, 15, 25, 26, 27, 28, 29, 30, 31, 32, 33, 34, 35, 36, 37, 38, 39, 40, 41, 42, 43, 44, 45, 46, 47, 48, 49] (by decide +kernel) (by decide +kernel)
set_option maxRecDepth 20000 in
theorem gX7_raiseOf_X7_isRaise : GoodIn wsX7_raiseOf (wsV RX7 82 RX7 yX7_isRaise wsX7_isRaise) := goodIn_app (goodIn_of _ (by decide +kernel)) ggX7_raiseOf_X7_isRaise
set_option maxRecDepth 20000 in
theorem ggX7_raiseOf_X7_in : GoodIn wsX7_raiseOf wsX7_in := goodIn_r _ [15] (by decide +kernel) (by decide +kernel)
set_option maxRecDepth 20000 in
theorem gX7_raiseOf_X7_in : GoodIn wsX7_raiseOf (va_wsS RX7 75 yX7_in wsX7_in) := goodIn_app (goodIn_of _ (by decide +kernel)) ggX7_raiseOf_X7_in
set_option maxRecDepth 20000 in
theorem ggX7_raiseOf_X7_refused : GoodIn wsX7_raiseOf wsX7_refused := goodIn_r _ [19, 20, 25, 26, 27, 28, 29, 30, 31, 32, 33, 34, 35, 36, 37, 38, 39, 40, 41, 42, 43, 44, 45, 46, 47, 48, 49] (by decide +kernel) (by decide +kernel)
set_option maxRecDepth 20000 in
theorem gX7_raiseOf_X7_refused : GoodIn wsX7_raiseOf (wsV RX7 86 RX7 yX7_refused wsX7_refused) := goodIn_app (goodIn_of _ (by decide +kernel)) ggX7_raiseOf_X7_refused
set_option maxRecDepth 20000 in
theorem ggX7_raiseOf_X7_sizeOf : GoodIn wsX7_raiseOf wsX7_sizeOf := goodIn_r _ [24, 12, 1, 6, 25, 26, 27, 28, 29, 30, 31, 32, 33, 34, 35, 36, 37, 38, 39, 40, 41, 42, 43, 44, 45, 46, 47, 48, 49] (by decide +kernel) (by decide +kernel)
set_option maxRecDepth 20000 in
theorem gX7_raiseOf_X7_sizeOf : GoodIn wsX7_raiseOf (wsV RX7 132 RX7 yX7_sizeOf wsX7_sizeOf) := goodIn_app (goodIn_of _ (by decide +kernel)) ggX7_raiseOf_X7_sizeOf
theorem dX7_raiseOf_0 : decode cX7_raiseOf 0 = .ok (.aload_n 0, 1) := by decide +kernel
theorem dX7_raiseOf_1 : decode cX7_raiseOf 1 = .ok (.aload_n 0, 1) := by decide +kernel
theorem dX7_raiseOf_2 : decode cX7_raiseOf 2 = .ok (.iload_n 1, 1) := by decide +kernel
theorem dX7_raiseOf_3 : decode cX7_raiseOf 3 = .ok (.invokevirtual 82, 3) := by decide +kernel
theorem dX7_raiseOf_6 : decode cX7_raiseOf 6 = .ok (.ifCond .ne 7, 3) := by decide +kernel
theorem dX7_raiseOf_9 : decode cX7_raiseOf 9 = .ok (.iconst 1, 1) := by decide +kernel
theorem dX7_raiseOf_10 : decode cX7_raiseOf 10 = .ok (.goto 18, 3) := by decide +kernel
theorem dX7_raiseOf_13 : decode cX7_raiseOf 13 = .ok (.iload_n 2, 1) := by decide +kernel
theorem dX7_raiseOf_14 : decode cX7_raiseOf 14 = .ok (.iconst 0, 1) := by decide +kernel
theorem dX7_raiseOf_15 : decode cX7_raiseOf 15 = .ok (.bipush 6, 2) := by decide +kernel
theorem dX7_raiseOf_17 : decode cX7_raiseOf 17 = .ok (.invokestatic 75, 3) := by decide +kernel
theorem dX7_raiseOf_20 : decode cX7_raiseOf 20 = .ok (.ifCond .ne 7, 3) := by decide +kernel
theorem dX7_raiseOf_23 : decode cX7_raiseOf 23 = .ok (.iconst 2, 1) := by decide +kernel
theorem dX7_raiseOf_24 : decode cX7_raiseOf 24 = .ok (.goto 4, 3) := by decide +kernel
theorem dX7_raiseOf_27 : decode cX7_raiseOf 27 = .ok (.iconst 0, 1) := by decide +kernel
theorem dX7_raiseOf_28 : decode cX7_raiseOf 28 = .ok (.invokevirtual 86, 3) := by decide +kernel
theorem dX7_raiseOf_31 : decode cX7_raiseOf 31 = .ok (.ifCond .eq 5, 3) := by decide +kernel
theorem dX7_raiseOf_34 : decode cX7_raiseOf 34 = .ok (.iconst 0, 1) := by decide +kernel
theorem dX7_raiseOf_35 : decode cX7_raiseOf 35 = .ok (.ireturn, 1) := by decide +kernel
theorem dX7_raiseOf_36 : decode cX7_raiseOf 36 = .ok (.iload_n 2, 1) := by decide +kernel
theorem dX7_raiseOf_37 : decode cX7_raiseOf 37 = .ok (.tableswitch 102 0 5 #[39, 46, 53, 60, 67, 82], 39) := by decide +kernel
theorem dX7_raiseOf_76 : decode cX7_raiseOf 76 = .ok (.aload_n 0, 1) := by decide +kernel
theorem dX7_raiseOf_77 : decode cX7_raiseOf 77 = .ok (.getfield 41, 3) := by decide +kernel
theorem dX7_raiseOf_80 : decode cX7_raiseOf 80 = .ok (.iload_n 1, 1) := by decide +kernel
theorem dX7_raiseOf_81 : decode cX7_raiseOf 81 = .ok (.iaload, 1) := by decide +kernel
theorem dX7_raiseOf_82 : decode cX7_raiseOf 82 = .ok (.ireturn, 1) := by decide +kernel
theorem dX7_raiseOf_83 : decode cX7_raiseOf 83 = .ok (.aload_n 0, 1) := by decide +kernel
theorem dX7_raiseOf_84 : decode cX7_raiseOf 84 = .ok (.getfield 44, 3) := by decide +kernel
theorem dX7_raiseOf_87 : decode cX7_raiseOf 87 = .ok (.iload_n 1, 1) := by decide +kernel
theorem dX7_raiseOf_88 : decode cX7_raiseOf 88 = .ok (.iaload, 1) := by decide +kernel
theorem dX7_raiseOf_89 : decode cX7_raiseOf 89 = .ok (.ireturn, 1) := by decide +kernel
theorem dX7_raiseOf_90 : decode cX7_raiseOf 90 = .ok (.aload_n 0, 1) := by decide +kernel
theorem dX7_raiseOf_91 : decode cX7_raiseOf 91 = .ok (.getfield 47, 3) := by decide +kernel
theorem dX7_raiseOf_94 : decode cX7_raiseOf 94 = .ok (.iload_n 1, 1) := by decide +kernel
theorem dX7_raiseOf_95 : decode cX7_raiseOf 95 = .ok (.iaload, 1) := by decide +kernel
theorem dX7_raiseOf_96 : decode cX7_raiseOf 96 = .ok (.ireturn, 1) := by decide +kernel
theorem dX7_raiseOf_97 : decode cX7_raiseOf 97 = .ok (.aload_n 0, 1) := by decide +kernel
theorem dX7_raiseOf_98 : decode cX7_raiseOf 98 = .ok (.getfield 59, 3) := by decide +kernel
theorem dX7_raiseOf_101 : decode cX7_raiseOf 101 = .ok (.iload_n 1, 1) := by decide +kernel
theorem dX7_raiseOf_102 : decode cX7_raiseOf 102 = .ok (.iaload, 1) := by decide +kernel
theorem dX7_raiseOf_103 : decode cX7_raiseOf 103 = .ok (.ireturn, 1) := by decide +kernel
theorem dX7_raiseOf_104 : decode cX7_raiseOf 104 = .ok (.aload_n 0, 1) := by decide +kernel
theorem dX7_raiseOf_105 : decode cX7_raiseOf 105 = .ok (.getfield 62, 3) := by decide +kernel
theorem dX7_raiseOf_108 : decode cX7_raiseOf 108 = .ok (.iload_n 1, 1) := by decide +kernel
theorem dX7_raiseOf_109 : decode cX7_raiseOf 109 = .ok (.baload, 1) := by decide +kernel
theorem dX7_raiseOf_110 : decode cX7_raiseOf 110 = .ok (.ifCond .eq 7, 3) := by decide +kernel
theorem dX7_raiseOf_113 : decode cX7_raiseOf 113 = .ok (.iconst 1, 1) := by decide +kernel
theorem dX7_raiseOf_114 : decode cX7_raiseOf 114 = .ok (.goto 4, 3) := by decide +kernel
theorem dX7_raiseOf_117 : decode cX7_raiseOf 117 = .ok (.iconst 0, 1) := by decide +kernel
theorem dX7_raiseOf_118 : decode cX7_raiseOf 118 = .ok (.ireturn, 1) := by decide +kernel
theorem dX7_raiseOf_119 : decode cX7_raiseOf 119 = .ok (.aload_n 0, 1) := by decide +kernel
theorem dX7_raiseOf_120 : decode cX7_raiseOf 120 = .ok (.getfield 41, 3) := by decide +kernel
theorem dX7_raiseOf_123 : decode cX7_raiseOf 123 = .ok (.iload_n 1, 1) := by decide +kernel
theorem dX7_raiseOf_124 : decode cX7_raiseOf 124 = .ok (.iaload, 1) := by decide +kernel
theorem dX7_raiseOf_125 : decode cX7_raiseOf 125 = .ok (.ifCond .ne 12, 3) := by decide +kernel
theorem dX7_raiseOf_128 : decode cX7_raiseOf 128 = .ok (.aload_n 0, 1) := by decide +kernel
theorem dX7_raiseOf_129 : decode cX7_raiseOf 129 = .ok (.getfield 56, 3) := by decide +kernel
theorem dX7_raiseOf_132 : decode cX7_raiseOf 132 = .ok (.iload_n 1, 1) := by decide +kernel
theorem dX7_raiseOf_133 : decode cX7_raiseOf 133 = .ok (.iaload, 1) := by decide +kernel
theorem dX7_raiseOf_134 : decode cX7_raiseOf 134 = .ok (.goto 4, 3) := by decide +kernel
theorem dX7_raiseOf_137 : decode cX7_raiseOf 137 = .ok (.iconst (-1), 1) := by decide +kernel
theorem dX7_raiseOf_138 : decode cX7_raiseOf 138 = .ok (.ireturn, 1) := by decide +kernel
theorem dX7_raiseOf_139 : decode cX7_raiseOf 139 = .ok (.aload_n 0, 1) := by decide +kernel
theorem dX7_raiseOf_140 : decode cX7_raiseOf 140 = .ok (.getfield 41, 3) := by decide +kernel
theorem dX7_raiseOf_143 : decode cX7_raiseOf 143 = .ok (.iload_n 1, 1) := by decide +kernel
theorem dX7_raiseOf_144 : decode cX7_raiseOf 144 = .ok (.iaload, 1) := by decide +kernel
theorem dX7_raiseOf_145 : decode cX7_raiseOf 145 = .ok (.ifCond .ne 16, 3) := by decide +kernel
theorem dX7_raiseOf_148 : decode cX7_raiseOf 148 = .ok (.aload_n 0, 1) := by decide +kernel
theorem dX7_raiseOf_149 : decode cX7_raiseOf 149 = .ok (.aload_n 0, 1) := by decide +kernel
theorem dX7_raiseOf_150 : decode cX7_raiseOf 150 = .ok (.getfield 56, 3) := by decide +kernel
theorem dX7_raiseOf_153 : decode cX7_raiseOf 153 = .ok (.iload_n 1, 1) := by decide +kernel
theorem dX7_raiseOf_154 : decode cX7_raiseOf 154 = .ok (.iaload, 1) := by decide +kernel
theorem dX7_raiseOf_155 : decode cX7_raiseOf 155 = .ok (.invokevirtual 132, 3) := by decide +kernel
theorem dX7_raiseOf_158 : decode cX7_raiseOf 158 = .ok (.goto 4, 3) := by decide +kernel
theorem dX7_raiseOf_161 : decode cX7_raiseOf 161 = .ok (.iconst 0, 1) := by decide +kernel
theorem dX7_raiseOf_162 : decode cX7_raiseOf 162 = .ok (.ireturn, 1) := by decide +kernel
set_option maxRecDepth 20000 in
theorem ggX7_fails_X7_isRaise : GoodIn wsX7_fails wsX7_isRaise := goodIn_r _ [7, 8, 9, 10, 6, 11, 39, 40, 41, 42, 43, 44, 45, 46, 47, 48, 49, 50, 51, 52, 53, 54, 55, 56, 57, 58, 59, 60, 61, 62, 63] (by decide +kernel) (by decide +kernel)
set_option maxRecDepth 20000 in
theorem gX7_fails_X7_isRaise : GoodIn wsX7_fails (wsV RX7 82 RX7 yX7_isRaise wsX7_isRaise) := goodIn_app (goodIn_of _ (by decide +kernel)) ggX7_fails_X7_isRaise
set_option maxRecDepth 20000 in
theorem ggX7_fails_X7_refused : GoodIn wsX7_fails wsX7_refused := goodIn_r _ [15, 16, 39, 40, 41, 42, 43, 44, 45, 46, 47, 48, 49, 50, 51, 52, 53, 54, 55, 56, 57, 58, 59, 60, 61, 62, 63] (by decide +kernel) (by decide +kernel)
set_option maxRecDepth 20000 in
theorem gX7_fails_X7_refused : GoodIn wsX7_fails (wsV RX7 86 RX7 yX7_refused wsX7_refused) := goodIn_app (goodIn_of _ (by decide +kernel)) ggX7_fails_X7_refused
set_option maxRecDepth 20000 in
theorem ggX7_fails_X7_failsWith : GoodIn wsX7_fails wsX7_failsWith := goodIn_r _ [20, 8, 1, 2, 21, 22, 23, 24, 25, 26, 6, 27, 28, 29, 30, 31, 32, 33, 34, 35, 36, 37, 38, 9, 10, 11, 39, 40, 41, 42, 43, 44, 45, 46, 47, 48, 49, 50, 51, 52, 53, 54, 55, 56, 57, 58, 59, 60, 61, 62, 63] (by decide +kernel) (by decide +kernel)
set_option maxRecDepth 20000 in
theorem gX7_fails_X7_failsWith : GoodIn wsX7_fails (wsV RX7 126 RX7 yX7_failsWith wsX7_failsWith) := goodIn_app (goodIn_of _ (by decide +kernel)) ggX7_fails_X7_failsWith
theorem dX7_fails_0 : decode cX7_fails 0 = .ok (.aload_n 0, 1) := by decide +kernel
theorem dX7_fails_1 : decode cX7_fails 1 = .ok (.iload_n 1, 1) := by decide +kernel
theorem dX7_fails_2 : decode cX7_fails 2 = .ok (.invokevirtual 82, 3) := by decide +kernel
theorem dX7_fails_5 : decode cX7_fails 5 = .ok (.istore_n 2, 1) := by decide +kernel
theorem dX7_fails_6 : decode cX7_fails 6 = .ok (.aload_n 0, 1) := by decide +kernel
theorem dX7_fails_7 : decode cX7_fails 7 = .ok (.iload_n 2, 1) := by decide +kernel
theorem dX7_fails_8 : decode cX7_fails 8 = .ok (.ifCond .ne 7, 3) := by decide +kernel
theorem dX7_fails_11 : decode cX7_fails 11 = .ok (.iconst 1, 1) := by decide +kernel
theorem dX7_fails_12 : decode cX7_fails 12 = .ok (.goto 17, 3) := by decide +kernel
theorem dX7_fails_15 : decode cX7_fails 15 = .ok (.aload_n 0, 1) := by decide +kernel
theorem dX7_fails_16 : decode cX7_fails 16 = .ok (.getfield 41, 3) := by decide +kernel
theorem dX7_fails_19 : decode cX7_fails 19 = .ok (.iload_n 1, 1) := by decide +kernel
theorem dX7_fails_20 : decode cX7_fails 20 = .ok (.iaload, 1) := by decide +kernel
theorem dX7_fails_21 : decode cX7_fails 21 = .ok (.ifCond .eq 7, 3) := by decide +kernel
theorem dX7_fails_24 : decode cX7_fails 24 = .ok (.iconst 2, 1) := by decide +kernel
theorem dX7_fails_25 : decode cX7_fails 25 = .ok (.goto 4, 3) := by decide +kernel
theorem dX7_fails_28 : decode cX7_fails 28 = .ok (.iconst 0, 1) := by decide +kernel
theorem dX7_fails_29 : decode cX7_fails 29 = .ok (.invokevirtual 86, 3) := by decide +kernel
theorem dX7_fails_32 : decode cX7_fails 32 = .ok (.ifCond .eq 7, 3) := by decide +kernel
theorem dX7_fails_35 : decode cX7_fails 35 = .ok (.iconst 0, 1) := by decide +kernel
theorem dX7_fails_36 : decode cX7_fails 36 = .ok (.goto 19, 3) := by decide +kernel
theorem dX7_fails_39 : decode cX7_fails 39 = .ok (.aload_n 0, 1) := by decide +kernel
theorem dX7_fails_40 : decode cX7_fails 40 = .ok (.aload_n 0, 1) := by decide +kernel
theorem dX7_fails_41 : decode cX7_fails 41 = .ok (.getfield 56, 3) := by decide +kernel
theorem dX7_fails_44 : decode cX7_fails 44 = .ok (.iload_n 1, 1) := by decide +kernel
theorem dX7_fails_45 : decode cX7_fails 45 = .ok (.iaload, 1) := by decide +kernel
theorem dX7_fails_46 : decode cX7_fails 46 = .ok (.aload_n 0, 1) := by decide +kernel
theorem dX7_fails_47 : decode cX7_fails 47 = .ok (.getfield 56, 3) := by decide +kernel
theorem dX7_fails_50 : decode cX7_fails 50 = .ok (.iload_n 1, 1) := by decide +kernel
theorem dX7_fails_51 : decode cX7_fails 51 = .ok (.iaload, 1) := by decide +kernel
theorem dX7_fails_52 : decode cX7_fails 52 = .ok (.invokevirtual 126, 3) := by decide +kernel
theorem dX7_fails_55 : decode cX7_fails 55 = .ok (.ireturn, 1) := by decide +kernel
set_option maxRecDepth 20000 in
theorem ggX7_canLand_X7_isRaise : GoodIn wsX7_canLand wsX7_isRaise := goodIn_r _ [7, 8, 9, 10, 6, 11, 49, 50, 51, 52, 53, 54, 55, 56, 57, 58, 59, 60, 61, 62, 63, 64, 65, 66, 67, 68, 69, 70, 71, 72, 73] (by decide +kernel) (by decide +kernel)
set_option maxRecDepth 20000 in
theorem gX7_canLand_X7_isRaise : GoodIn wsX7_canLand (wsV RX7 82 RX7 yX7_isRaise wsX7_isRaise) := goodIn_app (goodIn_of _ (by decide +kernel)) ggX7_canLand_X7_isRaise
set_option maxRecDepth 20000 in
theorem ggX7_canLand_X7_refused : GoodIn wsX7_canLand wsX7_refused := goodIn_r _ [15, 16, 49, 50, 51, 52, 53, 54, 55, 56, 57, 58, 59, 60, 61, 62, 63, 64, 65, 66, 67, 68, 69, 70, 71, 72, 73] (by decide +kernel) (by decide +kernel)
set_option maxRecDepth 20000 in
theorem gX7_canLand_X7_refused : GoodIn wsX7_canLand (wsV RX7 86 RX7 yX7_refused wsX7_refused) := goodIn_app (goodIn_of _ (by decide +kernel)) ggX7_canLand_X7_refused
set_option maxRecDepth 20000 in
theorem ggX7_canLand_X7_landable : GoodIn wsX7_canLand wsX7_landable := goodIn_r _ [20, 8, 1, 2, 21, 22, 23, 24, 25, 26, 27, 28, 29, 30, 6, 31, 32, 33, 34, 35, 36, 37, 38, 39, 40, 41, 42, 43, 44, 45, 46, 47, 48, 9, 10, 11, 49, 50, 51, 52, 53, 54, 55, 56, 57, 58, 59, 60, 61, 62, 63, 64, 65, 66, 67, 68, 69, 70, 71, 72, 73] (by decide +kernel) (by decide +kernel)
set_option maxRecDepth 20000 in
theorem gX7_canLand_X7_landable : GoodIn wsX7_canLand (wsV RX7 129 RX7 yX7_landable wsX7_landable) := goodIn_app (goodIn_of _ (by decide +kernel)) ggX7_canLand_X7_landable
theorem dX7_canLand_0 : decode cX7_canLand 0 = .ok (.aload_n 0, 1) := by decide +kernel
theorem dX7_canLand_1 : decode cX7_canLand 1 = .ok (.iload_n 1, 1) := by decide +kernel
theorem dX7_canLand_2 : decode cX7_canLand 2 = .ok (.invokevirtual 82, 3) := by decide +kernel
theorem dX7_canLand_5 : decode cX7_canLand 5 = .ok (.istore_n 2, 1) := by decide +kernel
theorem dX7_canLand_6 : decode cX7_canLand 6 = .ok (.aload_n 0, 1) := by decide +kernel
theorem dX7_canLand_7 : decode cX7_canLand 7 = .ok (.iload_n 2, 1) := by decide +kernel
theorem dX7_canLand_8 : decode cX7_canLand 8 = .ok (.ifCond .ne 7, 3) := by decide +kernel
theorem dX7_canLand_11 : decode cX7_canLand 11 = .ok (.iconst 1, 1) := by decide +kernel
theorem dX7_canLand_12 : decode cX7_canLand 12 = .ok (.goto 17, 3) := by decide +kernel
theorem dX7_canLand_15 : decode cX7_canLand 15 = .ok (.aload_n 0, 1) := by decide +kernel
theorem dX7_canLand_16 : decode cX7_canLand 16 = .ok (.getfield 41, 3) := by decide +kernel
theorem dX7_canLand_19 : decode cX7_canLand 19 = .ok (.iload_n 1, 1) := by decide +kernel
theorem dX7_canLand_20 : decode cX7_canLand 20 = .ok (.iaload, 1) := by decide +kernel
theorem dX7_canLand_21 : decode cX7_canLand 21 = .ok (.ifCond .eq 7, 3) := by decide +kernel
theorem dX7_canLand_24 : decode cX7_canLand 24 = .ok (.iconst 2, 1) := by decide +kernel
theorem dX7_canLand_25 : decode cX7_canLand 25 = .ok (.goto 4, 3) := by decide +kernel
theorem dX7_canLand_28 : decode cX7_canLand 28 = .ok (.iconst 0, 1) := by decide +kernel
theorem dX7_canLand_29 : decode cX7_canLand 29 = .ok (.invokevirtual 86, 3) := by decide +kernel
theorem dX7_canLand_32 : decode cX7_canLand 32 = .ok (.ifCond .ne 20, 3) := by decide +kernel
theorem dX7_canLand_35 : decode cX7_canLand 35 = .ok (.aload_n 0, 1) := by decide +kernel
theorem dX7_canLand_36 : decode cX7_canLand 36 = .ok (.aload_n 0, 1) := by decide +kernel
theorem dX7_canLand_37 : decode cX7_canLand 37 = .ok (.getfield 56, 3) := by decide +kernel
theorem dX7_canLand_40 : decode cX7_canLand 40 = .ok (.iload_n 1, 1) := by decide +kernel
theorem dX7_canLand_41 : decode cX7_canLand 41 = .ok (.iaload, 1) := by decide +kernel
theorem dX7_canLand_42 : decode cX7_canLand 42 = .ok (.invokevirtual 129, 3) := by decide +kernel
theorem dX7_canLand_45 : decode cX7_canLand 45 = .ok (.ifCond .eq 7, 3) := by decide +kernel
theorem dX7_canLand_48 : decode cX7_canLand 48 = .ok (.iconst 1, 1) := by decide +kernel
theorem dX7_canLand_49 : decode cX7_canLand 49 = .ok (.goto 4, 3) := by decide +kernel
theorem dX7_canLand_52 : decode cX7_canLand 52 = .ok (.iconst 0, 1) := by decide +kernel
theorem dX7_canLand_53 : decode cX7_canLand 53 = .ok (.ireturn, 1) := by decide +kernel
set_option maxRecDepth 20000 in
theorem ggX7_load_X7_isReviewer : GoodIn wsX7_load wsX7_isReviewer := goodIn_r _ [4, 5, 6, 3, 7] (by decide +kernel) (by decide +kernel)
set_option maxRecDepth 20000 in
theorem gX7_load_X7_isReviewer : GoodIn wsX7_load (va_wsS RX7 95 yX7_isReviewer wsX7_isReviewer) := goodIn_app (goodIn_of _ (by decide +kernel)) ggX7_load_X7_isReviewer
set_option maxRecDepth 20000 in
theorem ggX7_load_X7_refused : GoodIn wsX7_load wsX7_refused := goodIn_r _ [11, 12, 20, 21, 22, 23, 24, 25, 26, 27, 28, 29, 30, 31, 32, 33, 34, 35, 36, 37, 38, 39, 40, 41, 42, 43, 44] (by decide +kernel) (by decide +kernel)
set_option maxRecDepth 20000 in
theorem gX7_load_X7_refused : GoodIn wsX7_load (wsV RX7 86 RX7 yX7_refused wsX7_refused) := goodIn_app (goodIn_of _ (by decide +kernel)) ggX7_load_X7_refused
set_option maxRecDepth 20000 in
theorem ggX7_load_X7_loadOf : GoodIn wsX7_load wsX7_loadOf := goodIn_r _ [16, 17, 18, 19, 20, 21, 22, 23, 24, 25, 26, 27, 28, 29, 30, 31, 32, 33, 34, 35, 36, 37, 38, 39, 40, 41, 42, 43, 44] (by decide +kernel) (by decide +kernel)
set_option maxRecDepth 20000 in
theorem gX7_load_X7_loadOf : GoodIn wsX7_load (wsV RX7 112 RX7 yX7_loadOf wsX7_loadOf) := goodIn_app (goodIn_of _ (by decide +kernel)) ggX7_load_X7_loadOf
theorem dX7_load_0 : decode cX7_load 0 = .ok (.aload_n 0, 1) := by decide +kernel
theorem dX7_load_1 : decode cX7_load 1 = .ok (.iload_n 1, 1) := by decide +kernel
theorem dX7_load_2 : decode cX7_load 2 = .ok (.invokestatic 95, 3) := by decide +kernel
theorem dX7_load_5 : decode cX7_load 5 = .ok (.ifCond .eq 7, 3) := by decide +kernel
theorem dX7_load_8 : decode cX7_load 8 = .ok (.iconst 0, 1) := by decide +kernel
theorem dX7_load_9 : decode cX7_load 9 = .ok (.goto 4, 3) := by decide +kernel
theorem dX7_load_12 : decode cX7_load 12 = .ok (.iconst 1, 1) := by decide +kernel
theorem dX7_load_13 : decode cX7_load 13 = .ok (.invokevirtual 86, 3) := by decide +kernel
theorem dX7_load_16 : decode cX7_load 16 = .ok (.ifCond .eq 7, 3) := by decide +kernel
theorem dX7_load_19 : decode cX7_load 19 = .ok (.iconst 0, 1) := by decide +kernel
theorem dX7_load_20 : decode cX7_load 20 = .ok (.goto 9, 3) := by decide +kernel
theorem dX7_load_23 : decode cX7_load 23 = .ok (.aload_n 0, 1) := by decide +kernel
theorem dX7_load_24 : decode cX7_load 24 = .ok (.iload_n 1, 1) := by decide +kernel
theorem dX7_load_25 : decode cX7_load 25 = .ok (.iconst (-1), 1) := by decide +kernel
theorem dX7_load_26 : decode cX7_load 26 = .ok (.invokevirtual 112, 3) := by decide +kernel
theorem dX7_load_29 : decode cX7_load 29 = .ok (.ireturn, 1) := by decide +kernel
set_option maxRecDepth 20000 in
theorem ggX7_fewest_X7_isRaise : GoodIn wsX7_fewest wsX7_isRaise := goodIn_r _ [10, 2, 11, 12, 9, 13, 38, 39, 40, 41, 42, 43, 44, 45, 46, 47, 48, 49, 50, 51, 52, 53, 54, 55, 56, 57, 58, 59, 60, 61, 62] (by decide +kernel) (by decide +kernel)
set_option maxRecDepth 20000 in
theorem gX7_fewest_X7_isRaise : GoodIn wsX7_fewest (wsV RX7 82 RX7 yX7_isRaise wsX7_isRaise) := goodIn_app (goodIn_of _ (by decide +kernel)) ggX7_fewest_X7_isRaise
set_option maxRecDepth 20000 in
theorem ggX7_fewest_X7_refused : GoodIn wsX7_fewest wsX7_refused := goodIn_r _ [17, 18, 38, 39, 40, 41, 42, 43, 44, 45, 46, 47, 48, 49, 50, 51, 52, 53, 54, 55, 56, 57, 58, 59, 60, 61, 62] (by decide +kernel) (by decide +kernel)
set_option maxRecDepth 20000 in
theorem gX7_fewest_X7_refused : GoodIn wsX7_fewest (wsV RX7 86 RX7 yX7_refused wsX7_refused) := goodIn_app (goodIn_of _ (by decide +kernel)) ggX7_fewest_X7_refused
set_option maxRecDepth 20000 in
theorem ggX7_fewest_X7_open : GoodIn wsX7_fewest wsX7_open := goodIn_r _ [22, 2, 1, 38, 39, 40, 41, 42, 43, 44, 45, 46, 47, 48, 49, 50, 51, 52, 53, 54, 55, 56, 57, 58, 59, 60, 61, 62] (by decide +kernel) (by decide +kernel)
set_option maxRecDepth 20000 in
theorem gX7_fewest_X7_open : GoodIn wsX7_fewest (wsV RX7 120 RX7 yX7_open wsX7_open) := goodIn_app (goodIn_of _ (by decide +kernel)) ggX7_fewest_X7_open
set_option maxRecDepth 20000 in
theorem ggX7_fewest_X7_asNow : GoodIn wsX7_fewest wsX7_asNow := goodIn_r _ [26, 27, 3, 28, 38, 39, 40, 41, 42, 43, 44, 45, 46, 47, 48, 49, 50, 51, 52, 53, 54, 55, 56, 57, 58, 59, 60, 61, 62] (by decide +kernel) (by decide +kernel)
set_option maxRecDepth 20000 in
theorem gX7_fewest_X7_asNow : GoodIn wsX7_fewest (wsV RX7 101 RX7 yX7_asNow wsX7_asNow) := goodIn_app (goodIn_of _ (by decide +kernel)) ggX7_fewest_X7_asNow
set_option maxRecDepth 20000 in
theorem ggX7_fewest_X7_failing : GoodIn wsX7_fewest wsX7_failing := goodIn_r _ [32, 33, 3, 34, 35, 36, 37, 11, 12, 9, 13, 38, 39, 40, 41, 42, 43, 44, 45, 46, 47, 48, 49, 50, 51, 52, 53, 54, 55, 56, 57, 58, 59, 60, 61, 62] (by decide +kernel) (by decide +kernel)
set_option maxRecDepth 20000 in
theorem gX7_fewest_X7_failing : GoodIn wsX7_fewest (wsV RX7 104 RX7 yX7_failing wsX7_failing) := goodIn_app (goodIn_of _ (by decide +kernel)) ggX7_fewest_X7_failing
theorem dX7_fewest_0 : decode cX7_fewest 0 = .ok (.aload_n 0, 1) := by decide +kernel
theorem dX7_fewest_1 : decode cX7_fewest 1 = .ok (.iload_n 1, 1) := by decide +kernel
theorem dX7_fewest_2 : decode cX7_fewest 2 = .ok (.invokevirtual 82, 3) := by decide +kernel
theorem dX7_fewest_5 : decode cX7_fewest 5 = .ok (.istore_n 2, 1) := by decide +kernel
theorem dX7_fewest_6 : decode cX7_fewest 6 = .ok (.aload_n 0, 1) := by decide +kernel
theorem dX7_fewest_7 : decode cX7_fewest 7 = .ok (.iload_n 2, 1) := by decide +kernel
theorem dX7_fewest_8 : decode cX7_fewest 8 = .ok (.ifCond .ne 7, 3) := by decide +kernel
theorem dX7_fewest_11 : decode cX7_fewest 11 = .ok (.iconst 1, 1) := by decide +kernel
theorem dX7_fewest_12 : decode cX7_fewest 12 = .ok (.goto 17, 3) := by decide +kernel
theorem dX7_fewest_15 : decode cX7_fewest 15 = .ok (.aload_n 0, 1) := by decide +kernel
theorem dX7_fewest_16 : decode cX7_fewest 16 = .ok (.getfield 41, 3) := by decide +kernel
theorem dX7_fewest_19 : decode cX7_fewest 19 = .ok (.iload_n 1, 1) := by decide +kernel
theorem dX7_fewest_20 : decode cX7_fewest 20 = .ok (.iaload, 1) := by decide +kernel
theorem dX7_fewest_21 : decode cX7_fewest 21 = .ok (.ifCond .eq 7, 3) := by decide +kernel
theorem dX7_fewest_24 : decode cX7_fewest 24 = .ok (.iconst 2, 1) := by decide +kernel
theorem dX7_fewest_25 : decode cX7_fewest 25 = .ok (.goto 4, 3) := by decide +kernel
theorem dX7_fewest_28 : decode cX7_fewest 28 = .ok (.iconst 0, 1) := by decide +kernel
theorem dX7_fewest_29 : decode cX7_fewest 29 = .ok (.invokevirtual 86, 3) := by decide +kernel
theorem dX7_fewest_32 : decode cX7_fewest 32 = .ok (.ifCond .eq 5, 3) := by decide +kernel
theorem dX7_fewest_35 : decode cX7_fewest 35 = .ok (.iconst 0, 1) := by decide +kernel
theorem dX7_fewest_36 : decode cX7_fewest 36 = .ok (.ireturn, 1) := by decide +kernel
theorem dX7_fewest_37 : decode cX7_fewest 37 = .ok (.iconst (-1), 1) := by decide +kernel
theorem dX7_fewest_38 : decode cX7_fewest 38 = .ok (.istore_n 3, 1) := by decide +kernel
theorem dX7_fewest_39 : decode cX7_fewest 39 = .ok (.bipush 11, 2) := by decide +kernel
theorem dX7_fewest_41 : decode cX7_fewest 41 = .ok (.istore 4, 2) := by decide +kernel
theorem dX7_fewest_43 : decode cX7_fewest 43 = .ok (.iconst 1, 1) := by decide +kernel
theorem dX7_fewest_44 : decode cX7_fewest 44 = .ok (.istore 5, 2) := by decide +kernel
theorem dX7_fewest_46 : decode cX7_fewest 46 = .ok (.iload 5, 2) := by decide +kernel
theorem dX7_fewest_48 : decode cX7_fewest 48 = .ok (.iconst 1, 1) := by decide +kernel
theorem dX7_fewest_49 : decode cX7_fewest 49 = .ok (.aload_n 0, 1) := by decide +kernel
theorem dX7_fewest_50 : decode cX7_fewest 50 = .ok (.invokevirtual 120, 3) := by decide +kernel
theorem dX7_fewest_53 : decode cX7_fewest 53 = .ok (.ishl, 1) := by decide +kernel
theorem dX7_fewest_54 : decode cX7_fewest 54 = .ok (.if_icmp .ge 130, 3) := by decide +kernel
theorem dX7_fewest_57 : decode cX7_fewest 57 = .ok (.aload_n 0, 1) := by decide +kernel
theorem dX7_fewest_58 : decode cX7_fewest 58 = .ok (.invokevirtual 101, 3) := by decide +kernel
theorem dX7_fewest_61 : decode cX7_fewest 61 = .ok (.iconst 0, 1) := by decide +kernel
theorem dX7_fewest_62 : decode cX7_fewest 62 = .ok (.istore 6, 2) := by decide +kernel
theorem dX7_fewest_64 : decode cX7_fewest 64 = .ok (.iconst 0, 1) := by decide +kernel
theorem dX7_fewest_65 : decode cX7_fewest 65 = .ok (.istore 7, 2) := by decide +kernel
theorem dX7_fewest_67 : decode cX7_fewest 67 = .ok (.iconst 0, 1) := by decide +kernel
theorem dX7_fewest_68 : decode cX7_fewest 68 = .ok (.istore 8, 2) := by decide +kernel
theorem dX7_fewest_70 : decode cX7_fewest 70 = .ok (.iconst 0, 1) := by decide +kernel
theorem dX7_fewest_71 : decode cX7_fewest 71 = .ok (.istore 9, 2) := by decide +kernel
theorem dX7_fewest_73 : decode cX7_fewest 73 = .ok (.iload 9, 2) := by decide +kernel
theorem dX7_fewest_75 : decode cX7_fewest 75 = .ok (.aload_n 0, 1) := by decide +kernel
theorem dX7_fewest_76 : decode cX7_fewest 76 = .ok (.getfield 79, 3) := by decide +kernel
theorem dX7_fewest_79 : decode cX7_fewest 79 = .ok (.if_icmp .ge 73, 3) := by decide +kernel
theorem dX7_fewest_82 : decode cX7_fewest 82 = .ok (.aload_n 0, 1) := by decide +kernel
theorem dX7_fewest_83 : decode cX7_fewest 83 = .ok (.getfield 41, 3) := by decide +kernel
theorem dX7_fewest_86 : decode cX7_fewest 86 = .ok (.iload 9, 2) := by decide +kernel
theorem dX7_fewest_88 : decode cX7_fewest 88 = .ok (.iaload, 1) := by decide +kernel
theorem dX7_fewest_89 : decode cX7_fewest 89 = .ok (.ifCond .ne 57, 3) := by decide +kernel
theorem dX7_fewest_92 : decode cX7_fewest 92 = .ok (.iload 5, 2) := by decide +kernel
theorem dX7_fewest_94 : decode cX7_fewest 94 = .ok (.iload 6, 2) := by decide +kernel
theorem dX7_fewest_96 : decode cX7_fewest 96 = .ok (.ishr, 1) := by decide +kernel
theorem dX7_fewest_97 : decode cX7_fewest 97 = .ok (.iconst 1, 1) := by decide +kernel
theorem dX7_fewest_98 : decode cX7_fewest 98 = .ok (.iand, 1) := by decide +kernel
theorem dX7_fewest_99 : decode cX7_fewest 99 = .ok (.iconst 1, 1) := by decide +kernel
theorem dX7_fewest_100 : decode cX7_fewest 100 = .ok (.if_icmp .ne 43, 3) := by decide +kernel
theorem dX7_fewest_103 : decode cX7_fewest 103 = .ok (.aload_n 0, 1) := by decide +kernel
theorem dX7_fewest_104 : decode cX7_fewest 104 = .ok (.getfield 66, 3) := by decide +kernel
theorem dX7_fewest_107 : decode cX7_fewest 107 = .ok (.aload_n 0, 1) := by decide +kernel
theorem dX7_fewest_108 : decode cX7_fewest 108 = .ok (.getfield 44, 3) := by decide +kernel
theorem dX7_fewest_111 : decode cX7_fewest 111 = .ok (.iload 9, 2) := by decide +kernel
theorem dX7_fewest_113 : decode cX7_fewest 113 = .ok (.iaload, 1) := by decide +kernel
theorem dX7_fewest_114 : decode cX7_fewest 114 = .ok (.aload_n 0, 1) := by decide +kernel
theorem dX7_fewest_115 : decode cX7_fewest 115 = .ok (.getfield 47, 3) := by decide +kernel
theorem dX7_fewest_118 : decode cX7_fewest 118 = .ok (.iload 9, 2) := by decide +kernel
theorem dX7_fewest_120 : decode cX7_fewest 120 = .ok (.iaload, 1) := by decide +kernel
theorem dX7_fewest_121 : decode cX7_fewest 121 = .ok (.iastore, 1) := by decide +kernel
theorem dX7_fewest_122 : decode cX7_fewest 122 = .ok (.iinc 7 1, 3) := by decide +kernel
theorem dX7_fewest_125 : decode cX7_fewest 125 = .ok (.iload 8, 2) := by decide +kernel
theorem dX7_fewest_127 : decode cX7_fewest 127 = .ok (.ifCond .ne 9, 3) := by decide +kernel
theorem dX7_fewest_130 : decode cX7_fewest 130 = .ok (.iload 9, 2) := by decide +kernel
theorem dX7_fewest_132 : decode cX7_fewest 132 = .ok (.iload_n 1, 1) := by decide +kernel
theorem dX7_fewest_133 : decode cX7_fewest 133 = .ok (.if_icmp .ne 7, 3) := by decide +kernel
theorem dX7_fewest_136 : decode cX7_fewest 136 = .ok (.iconst 1, 1) := by decide +kernel
theorem dX7_fewest_137 : decode cX7_fewest 137 = .ok (.goto 4, 3) := by decide +kernel
theorem dX7_fewest_140 : decode cX7_fewest 140 = .ok (.iconst 0, 1) := by decide +kernel
theorem dX7_fewest_141 : decode cX7_fewest 141 = .ok (.istore 8, 2) := by decide +kernel
theorem dX7_fewest_143 : decode cX7_fewest 143 = .ok (.iinc 6 1, 3) := by decide +kernel
theorem dX7_fewest_146 : decode cX7_fewest 146 = .ok (.iinc 9 1, 3) := by decide +kernel
theorem dX7_fewest_149 : decode cX7_fewest 149 = .ok (.goto (-76), 3) := by decide +kernel
theorem dX7_fewest_152 : decode cX7_fewest 152 = .ok (.iload 8, 2) := by decide +kernel
theorem dX7_fewest_154 : decode cX7_fewest 154 = .ok (.ifCond .eq 24, 3) := by decide +kernel
theorem dX7_fewest_157 : decode cX7_fewest 157 = .ok (.iload 7, 2) := by decide +kernel
theorem dX7_fewest_159 : decode cX7_fewest 159 = .ok (.iload 4, 2) := by decide +kernel
theorem dX7_fewest_161 : decode cX7_fewest 161 = .ok (.if_icmp .ge 17, 3) := by decide +kernel
theorem dX7_fewest_164 : decode cX7_fewest 164 = .ok (.aload_n 0, 1) := by decide +kernel
theorem dX7_fewest_165 : decode cX7_fewest 165 = .ok (.invokevirtual 104, 3) := by decide +kernel
theorem dX7_fewest_168 : decode cX7_fewest 168 = .ok (.ifCond .ne 10, 3) := by decide +kernel
theorem dX7_fewest_171 : decode cX7_fewest 171 = .ok (.iload 5, 2) := by decide +kernel
theorem dX7_fewest_173 : decode cX7_fewest 173 = .ok (.istore_n 3, 1) := by decide +kernel
theorem dX7_fewest_174 : decode cX7_fewest 174 = .ok (.iload 7, 2) := by decide +kernel
theorem dX7_fewest_176 : decode cX7_fewest 176 = .ok (.istore 4, 2) := by decide +kernel
theorem dX7_fewest_178 : decode cX7_fewest 178 = .ok (.iinc 5 1, 3) := by decide +kernel
theorem dX7_fewest_181 : decode cX7_fewest 181 = .ok (.goto (-135), 3) := by decide +kernel
theorem dX7_fewest_184 : decode cX7_fewest 184 = .ok (.iload_n 3, 1) := by decide +kernel
theorem dX7_fewest_185 : decode cX7_fewest 185 = .ok (.ireturn, 1) := by decide +kernel
set_option maxRecDepth 20000 in
theorem ggX7_fewestAnew_X7_fewest : GoodIn wsX7_fewestAnew wsX7_fewest := goodIn_r _ [5, 6, 7, 8, 9, 10, 11, 12, 13, 4, 14, 15, 16, 17, 18, 19, 20, 21, 22, 23, 24, 25, 26, 27, 28, 29, 30, 31, 32, 33, 34, 35, 36, 37, 38, 39, 40, 41, 42, 43, 44, 45, 46, 47, 48, 49, 50, 51, 52, 53, 54, 55, 56, 57, 58, 59, 60, 61, 62, 63, 64, 65, 66] (by decide +kernel) (by decide +kernel)
set_option maxRecDepth 20000 in
theorem gX7_fewestAnew_X7_fewest : GoodIn wsX7_fewestAnew (wsV RX7 145 RX7 yX7_fewest wsX7_fewest) := goodIn_app (goodIn_of _ (by decide +kernel)) ggX7_fewestAnew_X7_fewest
theorem dX7_fewestAnew_0 : decode cX7_fewestAnew 0 = .ok (.aload_n 0, 1) := by decide +kernel
theorem dX7_fewestAnew_1 : decode cX7_fewestAnew 1 = .ok (.iload_n 1, 1) := by decide +kernel
theorem dX7_fewestAnew_2 : decode cX7_fewestAnew 2 = .ok (.invokevirtual 145, 3) := by decide +kernel
theorem dX7_fewestAnew_5 : decode cX7_fewestAnew 5 = .ok (.ireturn, 1) := by decide +kernel
set_option maxRecDepth 20000 in
theorem ggX7_told_X7_isRaise : GoodIn wsX7_told wsX7_isRaise := goodIn_r _ [9, 10, 11, 12, 8, 13, 23, 24, 25, 26, 27, 28, 29, 30, 31, 32, 33, 34, 35, 36, 37, 38, 39, 40, 41, 42, 43, 44, 45, 46, 47] (by decide +kernel) (by decide +kernel)
set_option maxRecDepth 20000 in
theorem gX7_told_X7_isRaise : GoodIn wsX7_told (wsV RX7 82 RX7 yX7_isRaise wsX7_isRaise) := goodIn_app (goodIn_of _ (by decide +kernel)) ggX7_told_X7_isRaise
set_option maxRecDepth 20000 in
theorem ggX7_told_X7_refused : GoodIn wsX7_told wsX7_refused := goodIn_r _ [17, 18, 23, 24, 25, 26, 27, 28, 29, 30, 31, 32, 33, 34, 35, 36, 37, 38, 39, 40, 41, 42, 43, 44, 45, 46, 47] (by decide +kernel) (by decide +kernel)
set_option maxRecDepth 20000 in
theorem gX7_told_X7_refused : GoodIn wsX7_told (wsV RX7 86 RX7 yX7_refused wsX7_refused) := goodIn_app (goodIn_of _ (by decide +kernel)) ggX7_told_X7_refused
set_option maxRecDepth 20000 in
theorem ggX7_told_X7_sizeOf : GoodIn wsX7_told wsX7_sizeOf := goodIn_r _ [22, 10, 1, 4, 23, 24, 25, 26, 27, 28, 29, 30, 31, 32, 33, 34, 35, 36, 37, 38, 39, 40, 41, 42, 43, 44, 45, 46, 47] (by decide +kernel) (by decide +kernel)
set_option maxRecDepth 20000 in
theorem gX7_told_X7_sizeOf : GoodIn wsX7_told (wsV RX7 132 RX7 yX7_sizeOf wsX7_sizeOf) := goodIn_app (goodIn_of _ (by decide +kernel)) ggX7_told_X7_sizeOf
theorem dX7_told_0 : decode cX7_told 0 = .ok (.aload_n 0, 1) := by decide +kernel
theorem dX7_told_1 : decode cX7_told 1 = .ok (.iload_n 1, 1) := by decide +kernel
theorem dX7_told_2 : decode cX7_told 2 = .ok (.invokevirtual 82, 3) := by decide +kernel
theorem dX7_told_5 : decode cX7_told 5 = .ok (.ifCond .eq 11, 3) := by decide +kernel
theorem dX7_told_8 : decode cX7_told 8 = .ok (.iload_n 2, 1) := by decide +kernel
theorem dX7_told_9 : decode cX7_told 9 = .ok (.ifCond .lt 7, 3) := by decide +kernel
theorem dX7_told_12 : decode cX7_told 12 = .ok (.iconst 1, 1) := by decide +kernel
theorem dX7_told_13 : decode cX7_told 13 = .ok (.goto 4, 3) := by decide +kernel
theorem dX7_told_16 : decode cX7_told 16 = .ok (.iconst 0, 1) := by decide +kernel
theorem dX7_told_17 : decode cX7_told 17 = .ok (.istore_n 3, 1) := by decide +kernel
theorem dX7_told_18 : decode cX7_told 18 = .ok (.aload_n 0, 1) := by decide +kernel
theorem dX7_told_19 : decode cX7_told 19 = .ok (.iload_n 3, 1) := by decide +kernel
theorem dX7_told_20 : decode cX7_told 20 = .ok (.ifCond .ne 7, 3) := by decide +kernel
theorem dX7_told_23 : decode cX7_told 23 = .ok (.iconst 1, 1) := by decide +kernel
theorem dX7_told_24 : decode cX7_told 24 = .ok (.goto 17, 3) := by decide +kernel
theorem dX7_told_27 : decode cX7_told 27 = .ok (.aload_n 0, 1) := by decide +kernel
theorem dX7_told_28 : decode cX7_told 28 = .ok (.getfield 41, 3) := by decide +kernel
theorem dX7_told_31 : decode cX7_told 31 = .ok (.iload_n 1, 1) := by decide +kernel
theorem dX7_told_32 : decode cX7_told 32 = .ok (.iaload, 1) := by decide +kernel
theorem dX7_told_33 : decode cX7_told 33 = .ok (.ifCond .eq 7, 3) := by decide +kernel
theorem dX7_told_36 : decode cX7_told 36 = .ok (.iconst 2, 1) := by decide +kernel
theorem dX7_told_37 : decode cX7_told 37 = .ok (.goto 4, 3) := by decide +kernel
theorem dX7_told_40 : decode cX7_told 40 = .ok (.iconst 0, 1) := by decide +kernel
theorem dX7_told_41 : decode cX7_told 41 = .ok (.invokevirtual 86, 3) := by decide +kernel
theorem dX7_told_44 : decode cX7_told 44 = .ok (.ifCond .eq 5, 3) := by decide +kernel
theorem dX7_told_47 : decode cX7_told 47 = .ok (.iconst 0, 1) := by decide +kernel
theorem dX7_told_48 : decode cX7_told 48 = .ok (.ireturn, 1) := by decide +kernel
theorem dX7_told_49 : decode cX7_told 49 = .ok (.iload_n 2, 1) := by decide +kernel
theorem dX7_told_50 : decode cX7_told 50 = .ok (.iconst 3, 1) := by decide +kernel
theorem dX7_told_51 : decode cX7_told 51 = .ok (.if_icmp .ge 53, 3) := by decide +kernel
theorem dX7_told_54 : decode cX7_told 54 = .ok (.iload_n 2, 1) := by decide +kernel
theorem dX7_told_55 : decode cX7_told 55 = .ok (.ifCond .ne 15, 3) := by decide +kernel
theorem dX7_told_58 : decode cX7_told 58 = .ok (.bipush 65, 2) := by decide +kernel
theorem dX7_told_60 : decode cX7_told 60 = .ok (.aload_n 0, 1) := by decide +kernel
theorem dX7_told_61 : decode cX7_told 61 = .ok (.getfield 44, 3) := by decide +kernel
theorem dX7_told_64 : decode cX7_told 64 = .ok (.iload_n 1, 1) := by decide +kernel
theorem dX7_told_65 : decode cX7_told 65 = .ok (.iaload, 1) := by decide +kernel
theorem dX7_told_66 : decode cX7_told 66 = .ok (.iadd, 1) := by decide +kernel
theorem dX7_told_67 : decode cX7_told 67 = .ok (.goto 35, 3) := by decide +kernel
theorem dX7_told_70 : decode cX7_told 70 = .ok (.iload_n 2, 1) := by decide +kernel
theorem dX7_told_71 : decode cX7_told 71 = .ok (.iconst 1, 1) := by decide +kernel
theorem dX7_told_72 : decode cX7_told 72 = .ok (.if_icmp .ne 18, 3) := by decide +kernel
theorem dX7_told_75 : decode cX7_told 75 = .ok (.bipush 48, 2) := by decide +kernel
theorem dX7_told_77 : decode cX7_told 77 = .ok (.aload_n 0, 1) := by decide +kernel
theorem dX7_told_78 : decode cX7_told 78 = .ok (.getfield 47, 3) := by decide +kernel
theorem dX7_told_81 : decode cX7_told 81 = .ok (.iload_n 1, 1) := by decide +kernel
theorem dX7_told_82 : decode cX7_told 82 = .ok (.iaload, 1) := by decide +kernel
theorem dX7_told_83 : decode cX7_told 83 = .ok (.bipush 10, 2) := by decide +kernel
theorem dX7_told_85 : decode cX7_told 85 = .ok (.idiv, 1) := by decide +kernel
theorem dX7_told_86 : decode cX7_told 86 = .ok (.iadd, 1) := by decide +kernel
theorem dX7_told_87 : decode cX7_told 87 = .ok (.goto 15, 3) := by decide +kernel
theorem dX7_told_90 : decode cX7_told 90 = .ok (.bipush 48, 2) := by decide +kernel
theorem dX7_told_92 : decode cX7_told 92 = .ok (.aload_n 0, 1) := by decide +kernel
theorem dX7_told_93 : decode cX7_told 93 = .ok (.getfield 47, 3) := by decide +kernel
theorem dX7_told_96 : decode cX7_told 96 = .ok (.iload_n 1, 1) := by decide +kernel
theorem dX7_told_97 : decode cX7_told 97 = .ok (.iaload, 1) := by decide +kernel
theorem dX7_told_98 : decode cX7_told 98 = .ok (.bipush 10, 2) := by decide +kernel
theorem dX7_told_100 : decode cX7_told 100 = .ok (.irem, 1) := by decide +kernel
theorem dX7_told_101 : decode cX7_told 101 = .ok (.iadd, 1) := by decide +kernel
theorem dX7_told_102 : decode cX7_told 102 = .ok (.i2c, 1) := by decide +kernel
theorem dX7_told_103 : decode cX7_told 103 = .ok (.ireturn, 1) := by decide +kernel
theorem dX7_told_104 : decode cX7_told 104 = .ok (.iload_n 2, 1) := by decide +kernel
theorem dX7_told_105 : decode cX7_told 105 = .ok (.iconst 3, 1) := by decide +kernel
theorem dX7_told_106 : decode cX7_told 106 = .ok (.isub, 1) := by decide +kernel
theorem dX7_told_107 : decode cX7_told 107 = .ok (.aload_n 0, 1) := by decide +kernel
theorem dX7_told_108 : decode cX7_told 108 = .ok (.aload_n 0, 1) := by decide +kernel
theorem dX7_told_109 : decode cX7_told 109 = .ok (.getfield 56, 3) := by decide +kernel
theorem dX7_told_112 : decode cX7_told 112 = .ok (.iload_n 1, 1) := by decide +kernel
theorem dX7_told_113 : decode cX7_told 113 = .ok (.iaload, 1) := by decide +kernel
theorem dX7_told_114 : decode cX7_told 114 = .ok (.invokevirtual 132, 3) := by decide +kernel
theorem dX7_told_117 : decode cX7_told 117 = .ok (.iconst 1, 1) := by decide +kernel
theorem dX7_told_118 : decode cX7_told 118 = .ok (.isub, 1) := by decide +kernel
theorem dX7_told_119 : decode cX7_told 119 = .ok (.if_icmp .ge 8, 3) := by decide +kernel
theorem dX7_told_122 : decode cX7_told 122 = .ok (.bipush 43, 2) := by decide +kernel
theorem dX7_told_124 : decode cX7_told 124 = .ok (.goto 4, 3) := by decide +kernel
theorem dX7_told_127 : decode cX7_told 127 = .ok (.iconst 0, 1) := by decide +kernel
theorem dX7_told_128 : decode cX7_told 128 = .ok (.ireturn, 1) := by decide +kernel
