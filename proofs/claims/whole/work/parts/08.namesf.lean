set_option maxRecDepth 20000 in
theorem ggX6_init_X3_init : GoodIn wsX6_init wsX3_init := goodIn_r _ [26, 27, 2, 3, 28, 29, 30, 31, 32, 33, 34, 35, 36, 75, 76, 77, 78, 79, 80, 81, 82] (by decide +kernel) (by decide +kernel)
set_option maxRecDepth 20000 in
theorem gX6_init_X3_init_n9 : GoodIn wsX6_init (wsX3_init) := ggX6_init_X3_init
set_option maxRecDepth 20000 in
theorem ggX6_init_X1_init : GoodIn wsX6_init wsX1_init := goodIn_r _ [38, 39, 2, 3, 28, 40, 41, 42, 43, 89, 90, 91, 92] (by decide +kernel) (by decide +kernel)
set_option maxRecDepth 20000 in
theorem gX6_init_X1_init_n18 : GoodIn wsX6_init (wsX1_init) := ggX6_init_X1_init
set_option maxRecDepth 20000 in
theorem ggX6_init_X4_init : GoodIn wsX6_init wsX4_init := goodIn_r _ [46, 47, 2, 3, 28, 48, 49, 50, 51, 52, 53, 54, 55, 56, 57, 58, 59, 60, 93, 94, 95, 96, 97, 98, 99, 100, 101, 102, 103, 104] (by decide +kernel) (by decide +kernel)
set_option maxRecDepth 20000 in
theorem gX6_init_X4_init : GoodIn wsX6_init (wsX4_init) := ggX6_init_X4_init
set_option maxRecDepth 20000 in
theorem ggX6_init_X5_init : GoodIn wsX6_init wsX5_init := goodIn_r _ [63, 64, 2, 3, 28, 65, 66, 105, 106] (by decide +kernel) (by decide +kernel)
set_option maxRecDepth 20000 in
theorem gX6_init_X5_init : GoodIn wsX6_init (wsX5_init) := ggX6_init_X5_init
set_option maxRecDepth 20000 in
theorem ggX6_init_X2_init : GoodIn wsX6_init wsX2_init := goodIn_r _ [69, 70, 2, 3, 54, 71, 72, 73, 74, 107, 108, 109, 110] (by decide +kernel) (by decide +kernel)
set_option maxRecDepth 20000 in
theorem gX6_init_X2_init : GoodIn wsX6_init (wsX2_init) := ggX6_init_X2_init
theorem dX6_init_0 : decode cX6_init 0 = .ok (.aload_n 0, 1) := by decide +kernel
theorem dX6_init_1 : decode cX6_init 1 = .ok (.invokespecial 1, 3) := by decide +kernel
theorem dX6_init_4 : decode cX6_init 4 = .ok (.aload_n 0, 1) := by decide +kernel
theorem dX6_init_5 : decode cX6_init 5 = .ok (.new 7, 3) := by decide +kernel
theorem dX6_init_8 : decode cX6_init 8 = .ok (.dup, 1) := by decide +kernel
theorem dX6_init_9 : decode cX6_init 9 = .ok (.invokespecial 9, 3) := by decide +kernel
theorem dX6_init_12 : decode cX6_init 12 = .ok (.putfield 10, 3) := by decide +kernel
theorem dX6_init_15 : decode cX6_init 15 = .ok (.aload_n 0, 1) := by decide +kernel
theorem dX6_init_16 : decode cX6_init 16 = .ok (.new 16, 3) := by decide +kernel
theorem dX6_init_19 : decode cX6_init 19 = .ok (.dup, 1) := by decide +kernel
theorem dX6_init_20 : decode cX6_init 20 = .ok (.invokespecial 18, 3) := by decide +kernel
theorem dX6_init_23 : decode cX6_init 23 = .ok (.putfield 19, 3) := by decide +kernel
theorem dX6_init_26 : decode cX6_init 26 = .ok (.aload_n 0, 1) := by decide +kernel
theorem dX6_init_27 : decode cX6_init 27 = .ok (.new 23, 3) := by decide +kernel
theorem dX6_init_30 : decode cX6_init 30 = .ok (.dup, 1) := by decide +kernel
theorem dX6_init_31 : decode cX6_init 31 = .ok (.aload_n 0, 1) := by decide +kernel
theorem dX6_init_32 : decode cX6_init 32 = .ok (.getfield 10, 3) := by decide +kernel
theorem dX6_init_35 : decode cX6_init 35 = .ok (.invokespecial 25, 3) := by decide +kernel
theorem dX6_init_38 : decode cX6_init 38 = .ok (.putfield 28, 3) := by decide +kernel
theorem dX6_init_41 : decode cX6_init 41 = .ok (.aload_n 0, 1) := by decide +kernel
theorem dX6_init_42 : decode cX6_init 42 = .ok (.new 32, 3) := by decide +kernel
theorem dX6_init_45 : decode cX6_init 45 = .ok (.dup, 1) := by decide +kernel
theorem dX6_init_46 : decode cX6_init 46 = .ok (.aload_n 0, 1) := by decide +kernel
theorem dX6_init_47 : decode cX6_init 47 = .ok (.getfield 28, 3) := by decide +kernel
theorem dX6_init_50 : decode cX6_init 50 = .ok (.invokespecial 34, 3) := by decide +kernel
theorem dX6_init_53 : decode cX6_init 53 = .ok (.putfield 37, 3) := by decide +kernel
theorem dX6_init_56 : decode cX6_init 56 = .ok (.aload_n 0, 1) := by decide +kernel
theorem dX6_init_57 : decode cX6_init 57 = .ok (.new 41, 3) := by decide +kernel
theorem dX6_init_60 : decode cX6_init 60 = .ok (.dup, 1) := by decide +kernel
theorem dX6_init_61 : decode cX6_init 61 = .ok (.aload_n 0, 1) := by decide +kernel
theorem dX6_init_62 : decode cX6_init 62 = .ok (.getfield 28, 3) := by decide +kernel
theorem dX6_init_65 : decode cX6_init 65 = .ok (.aload_n 0, 1) := by decide +kernel
theorem dX6_init_66 : decode cX6_init 66 = .ok (.getfield 37, 3) := by decide +kernel
theorem dX6_init_69 : decode cX6_init 69 = .ok (.invokespecial 43, 3) := by decide +kernel
theorem dX6_init_72 : decode cX6_init 72 = .ok (.putfield 46, 3) := by decide +kernel
theorem dX6_init_75 : decode cX6_init 75 = .ok (.aload_n 0, 1) := by decide +kernel
theorem dX6_init_76 : decode cX6_init 76 = .ok (.iconst 0, 1) := by decide +kernel
theorem dX6_init_77 : decode cX6_init 77 = .ok (.putfield 50, 3) := by decide +kernel
theorem dX6_init_80 : decode cX6_init 80 = .ok (.return_, 1) := by decide +kernel
set_option maxRecDepth 20000 in
theorem ggX6_pack_X6_isWithin : GoodIn wsX6_pack wsX6_isWithin := goodIn_r _ [10] (by decide +kernel) (by decide +kernel)
set_option maxRecDepth 20000 in
theorem gX6_pack_X6_isWithin : GoodIn wsX6_pack (va_wsS RX6 54 yX6_isWithin wsX6_isWithin) := goodIn_app (goodIn_of _ (by decide +kernel)) ggX6_pack_X6_isWithin
set_option maxRecDepth 20000 in
theorem ggX6_pack_X3_add : GoodIn wsX6_pack wsX3_add := goodIn_r _ [15, 16, 17, 24, 25, 26, 27, 28, 29, 30, 31] (by decide +kernel) (by decide +kernel)
set_option maxRecDepth 20000 in
theorem gX6_pack_X3_add : GoodIn wsX6_pack (wsV RX6 73 RX3 yX3_add wsX3_add) := goodIn_app (goodIn_of _ (by decide +kernel)) ggX6_pack_X3_add
theorem dX6_pack_0 : decode cX6_pack 0 = .ok (.iload_n 1, 1) := by decide +kernel
theorem dX6_pack_1 : decode cX6_pack 1 = .ok (.iconst 1, 1) := by decide +kernel
theorem dX6_pack_2 : decode cX6_pack 2 = .ok (.bipush 99, 2) := by decide +kernel
theorem dX6_pack_4 : decode cX6_pack 4 = .ok (.invokestatic 54, 3) := by decide +kernel
theorem dX6_pack_7 : decode cX6_pack 7 = .ok (.ifCond .ne 13, 3) := by decide +kernel
theorem dX6_pack_10 : decode cX6_pack 10 = .ok (.new 58, 3) := by decide +kernel
theorem dX6_pack_13 : decode cX6_pack 13 = .ok (.dup, 1) := by decide +kernel
theorem dX6_pack_14 : decode cX6_pack 14 = .ok (.ldc 60, 2) := by decide +kernel
theorem dX6_pack_16 : decode cX6_pack 16 = .ok (.invokespecial 62, 3) := by decide +kernel
theorem dX6_pack_19 : decode cX6_pack 19 = .ok (.athrow, 1) := by decide +kernel
theorem dX6_pack_20 : decode cX6_pack 20 = .ok (.aload_n 0, 1) := by decide +kernel
theorem dX6_pack_21 : decode cX6_pack 21 = .ok (.getfield 10, 3) := by decide +kernel
theorem dX6_pack_24 : decode cX6_pack 24 = .ok (.getfield 65, 3) := by decide +kernel
theorem dX6_pack_27 : decode cX6_pack 27 = .ok (.bipush 12, 2) := by decide +kernel
theorem dX6_pack_29 : decode cX6_pack 29 = .ok (.if_icmp .lt 13, 3) := by decide +kernel
theorem dX6_pack_32 : decode cX6_pack 32 = .ok (.new 68, 3) := by decide +kernel
theorem dX6_pack_35 : decode cX6_pack 35 = .ok (.dup, 1) := by decide +kernel
theorem dX6_pack_36 : decode cX6_pack 36 = .ok (.ldc 70, 2) := by decide +kernel
theorem dX6_pack_38 : decode cX6_pack 38 = .ok (.invokespecial 72, 3) := by decide +kernel
theorem dX6_pack_41 : decode cX6_pack 41 = .ok (.athrow, 1) := by decide +kernel
theorem dX6_pack_42 : decode cX6_pack 42 = .ok (.aload_n 0, 1) := by decide +kernel
theorem dX6_pack_43 : decode cX6_pack 43 = .ok (.getfield 10, 3) := by decide +kernel
theorem dX6_pack_46 : decode cX6_pack 46 = .ok (.iload_n 1, 1) := by decide +kernel
theorem dX6_pack_47 : decode cX6_pack 47 = .ok (.invokevirtual 73, 3) := by decide +kernel
theorem dX6_pack_50 : decode cX6_pack 50 = .ok (.ireturn, 1) := by decide +kernel
set_option maxRecDepth 20000 in
theorem ggX6_need_X6_checkPackage : GoodIn wsX6_need wsX6_checkPackage := goodIn_ca (goodIn_r _ [12, 13, 14, 5, 15, 16, 17, 11, 18, 29, 30, 31, 32, 33, 34, 35, 36, 37, 38, 39, 40, 41, 42] (by decide +kernel) (by decide +kernel)) (goodIn_sub (fun _ h => List.mem_cons_of_mem _ (List.mem_append_right _ h)) (by decide +kernel))
set_option maxRecDepth 20000 in
theorem gX6_need_X6_checkPackage : GoodIn wsX6_need (wsV RX6 77 RX6 yX6_checkPackage wsX6_checkPackage) := goodIn_app (goodIn_of _ (by decide +kernel)) ggX6_need_X6_checkPackage
set_option maxRecDepth 20000 in
theorem ggX6_need_X6_isWithin : GoodIn wsX6_need wsX6_isWithin := goodIn_r _ [18] (by decide +kernel) (by decide +kernel)
set_option maxRecDepth 20000 in
theorem gX6_need_X6_isWithin : GoodIn wsX6_need (va_wsS RX6 54 yX6_isWithin wsX6_isWithin) := goodIn_app (goodIn_of _ (by decide +kernel)) ggX6_need_X6_isWithin
set_option maxRecDepth 20000 in
theorem ggX6_need_X3_addNeed : GoodIn wsX6_need wsX3_addNeed := goodIn_r _ [23, 24, 25, 26, 27, 28, 35, 36, 37, 38, 39, 40, 41, 42] (by decide +kernel) (by decide +kernel)
set_option maxRecDepth 20000 in
theorem gX6_need_X3_addNeed : GoodIn wsX6_need (wsV RX6 94 RX3 yX3_addNeed wsX3_addNeed) := goodIn_app (goodIn_of _ (by decide +kernel)) ggX6_need_X3_addNeed
theorem dX6_need_0 : decode cX6_need 0 = .ok (.aload_n 0, 1) := by decide +kernel
theorem dX6_need_1 : decode cX6_need 1 = .ok (.iload_n 1, 1) := by decide +kernel
theorem dX6_need_2 : decode cX6_need 2 = .ok (.invokevirtual 77, 3) := by decide +kernel
theorem dX6_need_5 : decode cX6_need 5 = .ok (.aload_n 0, 1) := by decide +kernel
theorem dX6_need_6 : decode cX6_need 6 = .ok (.iload_n 2, 1) := by decide +kernel
theorem dX6_need_7 : decode cX6_need 7 = .ok (.invokevirtual 77, 3) := by decide +kernel
theorem dX6_need_10 : decode cX6_need 10 = .ok (.iload_n 1, 1) := by decide +kernel
theorem dX6_need_11 : decode cX6_need 11 = .ok (.iload_n 2, 1) := by decide +kernel
theorem dX6_need_12 : decode cX6_need 12 = .ok (.if_icmp .eq 25, 3) := by decide +kernel
theorem dX6_need_15 : decode cX6_need 15 = .ok (.iload_n 3, 1) := by decide +kernel
theorem dX6_need_16 : decode cX6_need 16 = .ok (.bipush (-98), 2) := by decide +kernel
theorem dX6_need_18 : decode cX6_need 18 = .ok (.bipush 98, 2) := by decide +kernel
theorem dX6_need_20 : decode cX6_need 20 = .ok (.invokestatic 54, 3) := by decide +kernel
theorem dX6_need_23 : decode cX6_need 23 = .ok (.ifCond .eq 14, 3) := by decide +kernel
theorem dX6_need_26 : decode cX6_need 26 = .ok (.iload 4, 2) := by decide +kernel
theorem dX6_need_28 : decode cX6_need 28 = .ok (.iload_n 3, 1) := by decide +kernel
theorem dX6_need_29 : decode cX6_need 29 = .ok (.bipush 98, 2) := by decide +kernel
theorem dX6_need_31 : decode cX6_need 31 = .ok (.invokestatic 54, 3) := by decide +kernel
theorem dX6_need_34 : decode cX6_need 34 = .ok (.ifCond .ne 13, 3) := by decide +kernel
theorem dX6_need_37 : decode cX6_need 37 = .ok (.new 58, 3) := by decide +kernel
theorem dX6_need_40 : decode cX6_need 40 = .ok (.dup, 1) := by decide +kernel
theorem dX6_need_41 : decode cX6_need 41 = .ok (.ldc 81, 2) := by decide +kernel
theorem dX6_need_43 : decode cX6_need 43 = .ok (.invokespecial 62, 3) := by decide +kernel
theorem dX6_need_46 : decode cX6_need 46 = .ok (.athrow, 1) := by decide +kernel
theorem dX6_need_47 : decode cX6_need 47 = .ok (.aload_n 0, 1) := by decide +kernel
theorem dX6_need_48 : decode cX6_need 48 = .ok (.getfield 10, 3) := by decide +kernel
theorem dX6_need_51 : decode cX6_need 51 = .ok (.getfield 83, 3) := by decide +kernel
theorem dX6_need_54 : decode cX6_need 54 = .ok (.iload_n 2, 1) := by decide +kernel
theorem dX6_need_55 : decode cX6_need 55 = .ok (.iaload, 1) := by decide +kernel
theorem dX6_need_56 : decode cX6_need 56 = .ok (.aload_n 0, 1) := by decide +kernel
theorem dX6_need_57 : decode cX6_need 57 = .ok (.getfield 10, 3) := by decide +kernel
theorem dX6_need_60 : decode cX6_need 60 = .ok (.getfield 83, 3) := by decide +kernel
theorem dX6_need_63 : decode cX6_need 63 = .ok (.iload_n 1, 1) := by decide +kernel
theorem dX6_need_64 : decode cX6_need 64 = .ok (.iaload, 1) := by decide +kernel
theorem dX6_need_65 : decode cX6_need 65 = .ok (.isub, 1) := by decide +kernel
theorem dX6_need_66 : decode cX6_need 66 = .ok (.iload_n 3, 1) := by decide +kernel
theorem dX6_need_67 : decode cX6_need 67 = .ok (.iload 4, 2) := by decide +kernel
theorem dX6_need_69 : decode cX6_need 69 = .ok (.invokestatic 54, 3) := by decide +kernel
theorem dX6_need_72 : decode cX6_need 72 = .ok (.ifCond .ne 13, 3) := by decide +kernel
theorem dX6_need_75 : decode cX6_need 75 = .ok (.new 68, 3) := by decide +kernel
theorem dX6_need_78 : decode cX6_need 78 = .ok (.dup, 1) := by decide +kernel
theorem dX6_need_79 : decode cX6_need 79 = .ok (.ldc 87, 2) := by decide +kernel
theorem dX6_need_81 : decode cX6_need 81 = .ok (.invokespecial 72, 3) := by decide +kernel
theorem dX6_need_84 : decode cX6_need 84 = .ok (.athrow, 1) := by decide +kernel
theorem dX6_need_85 : decode cX6_need 85 = .ok (.aload_n 0, 1) := by decide +kernel
theorem dX6_need_86 : decode cX6_need 86 = .ok (.getfield 10, 3) := by decide +kernel
theorem dX6_need_89 : decode cX6_need 89 = .ok (.getfield 89, 3) := by decide +kernel
theorem dX6_need_92 : decode cX6_need 92 = .ok (.bipush 20, 2) := by decide +kernel
theorem dX6_need_94 : decode cX6_need 94 = .ok (.if_icmp .lt 13, 3) := by decide +kernel
theorem dX6_need_97 : decode cX6_need 97 = .ok (.new 68, 3) := by decide +kernel
theorem dX6_need_100 : decode cX6_need 100 = .ok (.dup, 1) := by decide +kernel
theorem dX6_need_101 : decode cX6_need 101 = .ok (.ldc 92, 2) := by decide +kernel
theorem dX6_need_103 : decode cX6_need 103 = .ok (.invokespecial 72, 3) := by decide +kernel
theorem dX6_need_106 : decode cX6_need 106 = .ok (.athrow, 1) := by decide +kernel
theorem dX6_need_107 : decode cX6_need 107 = .ok (.aload_n 0, 1) := by decide +kernel
theorem dX6_need_108 : decode cX6_need 108 = .ok (.getfield 10, 3) := by decide +kernel
theorem dX6_need_111 : decode cX6_need 111 = .ok (.iload_n 1, 1) := by decide +kernel
theorem dX6_need_112 : decode cX6_need 112 = .ok (.iload_n 2, 1) := by decide +kernel
theorem dX6_need_113 : decode cX6_need 113 = .ok (.iload_n 3, 1) := by decide +kernel
theorem dX6_need_114 : decode cX6_need 114 = .ok (.iload 4, 2) := by decide +kernel
theorem dX6_need_116 : decode cX6_need 116 = .ok (.invokevirtual 94, 3) := by decide +kernel
theorem dX6_need_119 : decode cX6_need 119 = .ok (.ireturn, 1) := by decide +kernel
set_option maxRecDepth 20000 in
theorem ggX6_trust_X6_checkReviewer : GoodIn wsX6_trust wsX6_checkReviewer := goodIn_ca (goodIn_r _ [9, 10, 11, 12, 13, 8, 14] (by decide +kernel) (by decide +kernel)) (goodIn_sub (fun _ h => List.mem_cons_of_mem _ (List.mem_append_right _ h)) (by decide +kernel))
set_option maxRecDepth 20000 in
theorem gX6_trust_X6_checkReviewer : GoodIn wsX6_trust (wsV RX6 98 RX6 yX6_checkReviewer wsX6_checkReviewer) := goodIn_app (goodIn_of _ (by decide +kernel)) ggX6_trust_X6_checkReviewer
set_option maxRecDepth 20000 in
theorem ggX6_trust_X6_isWithin : GoodIn wsX6_trust wsX6_isWithin := goodIn_r _ [14] (by decide +kernel) (by decide +kernel)
set_option maxRecDepth 20000 in
theorem gX6_trust_X6_isWithin : GoodIn wsX6_trust (va_wsS RX6 54 yX6_isWithin wsX6_isWithin) := goodIn_app (goodIn_of _ (by decide +kernel)) ggX6_trust_X6_isWithin
theorem dX6_trust_0 : decode cX6_trust 0 = .ok (.aload_n 0, 1) := by decide +kernel
theorem dX6_trust_1 : decode cX6_trust 1 = .ok (.iload_n 1, 1) := by decide +kernel
theorem dX6_trust_2 : decode cX6_trust 2 = .ok (.invokevirtual 98, 3) := by decide +kernel
theorem dX6_trust_5 : decode cX6_trust 5 = .ok (.iload_n 2, 1) := by decide +kernel
theorem dX6_trust_6 : decode cX6_trust 6 = .ok (.iconst 0, 1) := by decide +kernel
theorem dX6_trust_7 : decode cX6_trust 7 = .ok (.bipush 9, 2) := by decide +kernel
theorem dX6_trust_9 : decode cX6_trust 9 = .ok (.invokestatic 54, 3) := by decide +kernel
theorem dX6_trust_12 : decode cX6_trust 12 = .ok (.ifCond .ne 13, 3) := by decide +kernel
theorem dX6_trust_15 : decode cX6_trust 15 = .ok (.new 58, 3) := by decide +kernel
theorem dX6_trust_18 : decode cX6_trust 18 = .ok (.dup, 1) := by decide +kernel
theorem dX6_trust_19 : decode cX6_trust 19 = .ok (.ldc 101, 2) := by decide +kernel
theorem dX6_trust_21 : decode cX6_trust 21 = .ok (.invokespecial 62, 3) := by decide +kernel
theorem dX6_trust_24 : decode cX6_trust 24 = .ok (.athrow, 1) := by decide +kernel
theorem dX6_trust_25 : decode cX6_trust 25 = .ok (.aload_n 0, 1) := by decide +kernel
theorem dX6_trust_26 : decode cX6_trust 26 = .ok (.getfield 37, 3) := by decide +kernel
theorem dX6_trust_29 : decode cX6_trust 29 = .ok (.getfield 103, 3) := by decide +kernel
theorem dX6_trust_32 : decode cX6_trust 32 = .ok (.iload_n 1, 1) := by decide +kernel
theorem dX6_trust_33 : decode cX6_trust 33 = .ok (.iaload, 1) := by decide +kernel
theorem dX6_trust_34 : decode cX6_trust 34 = .ok (.istore_n 3, 1) := by decide +kernel
theorem dX6_trust_35 : decode cX6_trust 35 = .ok (.aload_n 0, 1) := by decide +kernel
theorem dX6_trust_36 : decode cX6_trust 36 = .ok (.getfield 37, 3) := by decide +kernel
theorem dX6_trust_39 : decode cX6_trust 39 = .ok (.getfield 103, 3) := by decide +kernel
theorem dX6_trust_42 : decode cX6_trust 42 = .ok (.iload_n 1, 1) := by decide +kernel
theorem dX6_trust_43 : decode cX6_trust 43 = .ok (.iload_n 2, 1) := by decide +kernel
theorem dX6_trust_44 : decode cX6_trust 44 = .ok (.iastore, 1) := by decide +kernel
theorem dX6_trust_45 : decode cX6_trust 45 = .ok (.iload_n 3, 1) := by decide +kernel
theorem dX6_trust_46 : decode cX6_trust 46 = .ok (.ireturn, 1) := by decide +kernel
set_option maxRecDepth 20000 in
theorem ggX6_patience_X6_isWithin : GoodIn wsX6_patience wsX6_isWithin := goodIn_r _ [8] (by decide +kernel) (by decide +kernel)
set_option maxRecDepth 20000 in
theorem gX6_patience_X6_isWithin : GoodIn wsX6_patience (va_wsS RX6 54 yX6_isWithin wsX6_isWithin) := goodIn_app (goodIn_of _ (by decide +kernel)) ggX6_patience_X6_isWithin
theorem dX6_patience_0 : decode cX6_patience 0 = .ok (.iload_n 1, 1) := by decide +kernel
theorem dX6_patience_1 : decode cX6_patience 1 = .ok (.iconst 1, 1) := by decide +kernel
theorem dX6_patience_2 : decode cX6_patience 2 = .ok (.bipush 100, 2) := by decide +kernel
theorem dX6_patience_4 : decode cX6_patience 4 = .ok (.invokestatic 54, 3) := by decide +kernel
theorem dX6_patience_7 : decode cX6_patience 7 = .ok (.ifCond .ne 13, 3) := by decide +kernel
theorem dX6_patience_10 : decode cX6_patience 10 = .ok (.new 58, 3) := by decide +kernel
theorem dX6_patience_13 : decode cX6_patience 13 = .ok (.dup, 1) := by decide +kernel
theorem dX6_patience_14 : decode cX6_patience 14 = .ok (.ldc 106, 2) := by decide +kernel
theorem dX6_patience_16 : decode cX6_patience 16 = .ok (.invokespecial 62, 3) := by decide +kernel
theorem dX6_patience_19 : decode cX6_patience 19 = .ok (.athrow, 1) := by decide +kernel
theorem dX6_patience_20 : decode cX6_patience 20 = .ok (.aload_n 0, 1) := by decide +kernel
theorem dX6_patience_21 : decode cX6_patience 21 = .ok (.getfield 46, 3) := by decide +kernel
theorem dX6_patience_24 : decode cX6_patience 24 = .ok (.getfield 108, 3) := by decide +kernel
theorem dX6_patience_27 : decode cX6_patience 27 = .ok (.istore_n 2, 1) := by decide +kernel
theorem dX6_patience_28 : decode cX6_patience 28 = .ok (.aload_n 0, 1) := by decide +kernel
theorem dX6_patience_29 : decode cX6_patience 29 = .ok (.getfield 46, 3) := by decide +kernel
theorem dX6_patience_32 : decode cX6_patience 32 = .ok (.iload_n 1, 1) := by decide +kernel
theorem dX6_patience_33 : decode cX6_patience 33 = .ok (.putfield 108, 3) := by decide +kernel
theorem dX6_patience_36 : decode cX6_patience 36 = .ok (.iload_n 2, 1) := by decide +kernel
theorem dX6_patience_37 : decode cX6_patience 37 = .ok (.ireturn, 1) := by decide +kernel
set_option maxRecDepth 20000 in
theorem ggX6_freeze_X6_isWithin : GoodIn wsX6_freeze wsX6_isWithin := goodIn_r _ [10] (by decide +kernel) (by decide +kernel)
set_option maxRecDepth 20000 in
theorem gX6_freeze_X6_isWithin : GoodIn wsX6_freeze (va_wsS RX6 54 yX6_isWithin wsX6_isWithin) := goodIn_app (goodIn_of _ (by decide +kernel)) ggX6_freeze_X6_isWithin
set_option maxRecDepth 20000 in
theorem ggX6_freeze_X1_add : GoodIn wsX6_freeze wsX1_add := goodIn_r _ [15, 16, 17, 18, 19, 26, 27, 28, 29] (by decide +kernel) (by decide +kernel)
set_option maxRecDepth 20000 in
theorem gX6_freeze_X1_add : GoodIn wsX6_freeze (wsV RX6 116 RX1 yX1_add wsX1_add) := goodIn_app (goodIn_of _ (by decide +kernel)) ggX6_freeze_X1_add
theorem dX6_freeze_0 : decode cX6_freeze 0 = .ok (.iload_n 1, 1) := by decide +kernel
theorem dX6_freeze_1 : decode cX6_freeze 1 = .ok (.iconst 1, 1) := by decide +kernel
theorem dX6_freeze_2 : decode cX6_freeze 2 = .ok (.sipush 4095, 3) := by decide +kernel
theorem dX6_freeze_5 : decode cX6_freeze 5 = .ok (.invokestatic 54, 3) := by decide +kernel
theorem dX6_freeze_8 : decode cX6_freeze 8 = .ok (.ifCond .eq 25, 3) := by decide +kernel
theorem dX6_freeze_11 : decode cX6_freeze 11 = .ok (.iload_n 2, 1) := by decide +kernel
theorem dX6_freeze_12 : decode cX6_freeze 12 = .ok (.iconst 0, 1) := by decide +kernel
theorem dX6_freeze_13 : decode cX6_freeze 13 = .ok (.sipush 1000, 3) := by decide +kernel
theorem dX6_freeze_16 : decode cX6_freeze 16 = .ok (.invokestatic 54, 3) := by decide +kernel
theorem dX6_freeze_19 : decode cX6_freeze 19 = .ok (.ifCond .eq 14, 3) := by decide +kernel
theorem dX6_freeze_22 : decode cX6_freeze 22 = .ok (.iload_n 3, 1) := by decide +kernel
theorem dX6_freeze_23 : decode cX6_freeze 23 = .ok (.iload_n 2, 1) := by decide +kernel
theorem dX6_freeze_24 : decode cX6_freeze 24 = .ok (.sipush 1000, 3) := by decide +kernel
theorem dX6_freeze_27 : decode cX6_freeze 27 = .ok (.invokestatic 54, 3) := by decide +kernel
theorem dX6_freeze_30 : decode cX6_freeze 30 = .ok (.ifCond .ne 13, 3) := by decide +kernel
theorem dX6_freeze_33 : decode cX6_freeze 33 = .ok (.new 58, 3) := by decide +kernel
theorem dX6_freeze_36 : decode cX6_freeze 36 = .ok (.dup, 1) := by decide +kernel
theorem dX6_freeze_37 : decode cX6_freeze 37 = .ok (.ldc 111, 2) := by decide +kernel
theorem dX6_freeze_39 : decode cX6_freeze 39 = .ok (.invokespecial 62, 3) := by decide +kernel
theorem dX6_freeze_42 : decode cX6_freeze 42 = .ok (.athrow, 1) := by decide +kernel
theorem dX6_freeze_43 : decode cX6_freeze 43 = .ok (.aload_n 0, 1) := by decide +kernel
theorem dX6_freeze_44 : decode cX6_freeze 44 = .ok (.getfield 19, 3) := by decide +kernel
theorem dX6_freeze_47 : decode cX6_freeze 47 = .ok (.getfield 113, 3) := by decide +kernel
theorem dX6_freeze_50 : decode cX6_freeze 50 = .ok (.bipush 10, 2) := by decide +kernel
theorem dX6_freeze_52 : decode cX6_freeze 52 = .ok (.if_icmp .lt 13, 3) := by decide +kernel
theorem dX6_freeze_55 : decode cX6_freeze 55 = .ok (.new 68, 3) := by decide +kernel
theorem dX6_freeze_58 : decode cX6_freeze 58 = .ok (.dup, 1) := by decide +kernel
theorem dX6_freeze_59 : decode cX6_freeze 59 = .ok (.ldc 114, 2) := by decide +kernel
theorem dX6_freeze_61 : decode cX6_freeze 61 = .ok (.invokespecial 72, 3) := by decide +kernel
theorem dX6_freeze_64 : decode cX6_freeze 64 = .ok (.athrow, 1) := by decide +kernel
theorem dX6_freeze_65 : decode cX6_freeze 65 = .ok (.aload_n 0, 1) := by decide +kernel
theorem dX6_freeze_66 : decode cX6_freeze 66 = .ok (.getfield 19, 3) := by decide +kernel
theorem dX6_freeze_69 : decode cX6_freeze 69 = .ok (.iload_n 1, 1) := by decide +kernel
theorem dX6_freeze_70 : decode cX6_freeze 70 = .ok (.iload_n 2, 1) := by decide +kernel
theorem dX6_freeze_71 : decode cX6_freeze 71 = .ok (.iload_n 3, 1) := by decide +kernel
theorem dX6_freeze_72 : decode cX6_freeze 72 = .ok (.invokevirtual 116, 3) := by decide +kernel
theorem dX6_freeze_75 : decode cX6_freeze 75 = .ok (.ireturn, 1) := by decide +kernel
set_option maxRecDepth 20000 in
theorem ggX6_raise_X6_checkPackage : GoodIn wsX6_raise wsX6_checkPackage := goodIn_ca (goodIn_r _ [16, 17, 18, 5, 19, 20, 21, 15, 22, 88, 89, 90, 91, 92, 93, 94, 95, 96, 97, 98, 99, 100, 101] (by decide +kernel) (by decide +kernel)) (goodIn_sub (fun _ h => List.mem_cons_of_mem _ (List.mem_append_right _ h)) (by decide +kernel))
set_option maxRecDepth 20000 in
theorem gX6_raise_X6_checkPackage : GoodIn wsX6_raise (wsV RX6 77 RX6 yX6_checkPackage wsX6_checkPackage) := goodIn_app (goodIn_of _ (by decide +kernel)) ggX6_raise_X6_checkPackage
set_option maxRecDepth 20000 in
theorem ggX6_raise_X6_isWithin : GoodIn wsX6_raise wsX6_isWithin := goodIn_r _ [22] (by decide +kernel) (by decide +kernel)
set_option maxRecDepth 20000 in
theorem gX6_raise_X6_isWithin : GoodIn wsX6_raise (va_wsS RX6 54 yX6_isWithin wsX6_isWithin) := goodIn_app (goodIn_of _ (by decide +kernel)) ggX6_raise_X6_isWithin
set_option maxRecDepth 20000 in
theorem ggX6_raise_X4_bitOfPackage : GoodIn wsX6_raise wsX4_bitOfPackage := goodIn_r _ [27, 28, 29, 30, 102, 103, 104, 105, 106, 107, 108, 109, 110, 111, 112, 113] (by decide +kernel) (by decide +kernel)
set_option maxRecDepth 20000 in
theorem gX6_raise_X4_bitOfPackage : GoodIn wsX6_raise (wsV RX6 123 RX4 yX4_bitOfPackage wsX4_bitOfPackage) := goodIn_app (goodIn_of _ (by decide +kernel)) ggX6_raise_X4_bitOfPackage
set_option maxRecDepth 20000 in
theorem ggX6_raise_X4_add : GoodIn wsX6_raise wsX4_add := goodIn_r _ [34, 35, 29, 36, 37, 38, 39, 40, 41, 42, 43, 44, 45, 26, 46, 28, 30, 102, 103, 104, 105, 106, 107, 108, 109, 110, 111, 112, 113] (by decide +kernel) (by decide +kernel)
set_option maxRecDepth 20000 in
theorem gX6_raise_X4_add : GoodIn wsX6_raise (wsV RX6 132 RX4 yX4_add wsX4_add) := goodIn_app (goodIn_of _ (by decide +kernel)) ggX6_raise_X4_add
set_option maxRecDepth 20000 in
theorem ggX6_raise_X4_bitOf : GoodIn wsX6_raise wsX4_bitOf := goodIn_r _ [50, 28, 30, 102, 103, 104, 105, 106, 107, 108, 109, 110, 111, 112, 113] (by decide +kernel) (by decide +kernel)
set_option maxRecDepth 20000 in
theorem gX6_raise_X4_bitOf : GoodIn wsX6_raise (wsV RX6 134 RX4 yX4_bitOf wsX4_bitOf) := goodIn_app (goodIn_of _ (by decide +kernel)) ggX6_raise_X4_bitOf
set_option maxRecDepth 20000 in
theorem ggX6_raise_X5_giveAnew : GoodIn wsX6_raise wsX5_giveAnew := goodIn_r _ [55, 56, 57, 58, 59, 60, 61, 26, 62, 63, 64, 65, 54, 66, 67, 68, 69, 70, 71, 72, 73, 74, 75, 76, 77, 78, 79, 80, 81, 82, 83, 84, 85, 86, 87, 114, 115, 102, 103, 104, 105, 106, 107, 108, 109, 110, 111, 112, 113] (by decide +kernel) (by decide +kernel)
set_option maxRecDepth 20000 in
theorem gX6_raise_X5_giveAnew : GoodIn wsX6_raise (wsV RX6 137 RX5 yX5_giveAnew wsX5_giveAnew) := goodIn_app (goodIn_of _ (by decide +kernel)) ggX6_raise_X5_giveAnew
theorem dX6_raise_0 : decode cX6_raise 0 = .ok (.aload_n 0, 1) := by decide +kernel
theorem dX6_raise_1 : decode cX6_raise 1 = .ok (.iload_n 1, 1) := by decide +kernel
theorem dX6_raise_2 : decode cX6_raise 2 = .ok (.invokevirtual 77, 3) := by decide +kernel
theorem dX6_raise_5 : decode cX6_raise 5 = .ok (.iload_n 2, 1) := by decide +kernel
theorem dX6_raise_6 : decode cX6_raise 6 = .ok (.iconst 1, 1) := by decide +kernel
theorem dX6_raise_7 : decode cX6_raise 7 = .ok (.bipush 99, 2) := by decide +kernel
theorem dX6_raise_9 : decode cX6_raise 9 = .ok (.invokestatic 54, 3) := by decide +kernel
theorem dX6_raise_12 : decode cX6_raise 12 = .ok (.ifCond .eq 13, 3) := by decide +kernel
theorem dX6_raise_15 : decode cX6_raise 15 = .ok (.iload_n 3, 1) := by decide +kernel
theorem dX6_raise_16 : decode cX6_raise 16 = .ok (.iconst 0, 1) := by decide +kernel
theorem dX6_raise_17 : decode cX6_raise 17 = .ok (.bipush 9, 2) := by decide +kernel
theorem dX6_raise_19 : decode cX6_raise 19 = .ok (.invokestatic 54, 3) := by decide +kernel
theorem dX6_raise_22 : decode cX6_raise 22 = .ok (.ifCond .ne 13, 3) := by decide +kernel
theorem dX6_raise_25 : decode cX6_raise 25 = .ok (.new 58, 3) := by decide +kernel
theorem dX6_raise_28 : decode cX6_raise 28 = .ok (.dup, 1) := by decide +kernel
theorem dX6_raise_29 : decode cX6_raise 29 = .ok (.ldc 119, 2) := by decide +kernel
theorem dX6_raise_31 : decode cX6_raise 31 = .ok (.invokespecial 62, 3) := by decide +kernel
theorem dX6_raise_34 : decode cX6_raise 34 = .ok (.athrow, 1) := by decide +kernel
theorem dX6_raise_35 : decode cX6_raise 35 = .ok (.iload_n 2, 1) := by decide +kernel
theorem dX6_raise_36 : decode cX6_raise 36 = .ok (.aload_n 0, 1) := by decide +kernel
theorem dX6_raise_37 : decode cX6_raise 37 = .ok (.getfield 10, 3) := by decide +kernel
theorem dX6_raise_40 : decode cX6_raise 40 = .ok (.getfield 83, 3) := by decide +kernel
theorem dX6_raise_43 : decode cX6_raise 43 = .ok (.iload_n 1, 1) := by decide +kernel
theorem dX6_raise_44 : decode cX6_raise 44 = .ok (.iaload, 1) := by decide +kernel
theorem dX6_raise_45 : decode cX6_raise 45 = .ok (.if_icmp .gt 13, 3) := by decide +kernel
theorem dX6_raise_48 : decode cX6_raise 48 = .ok (.new 58, 3) := by decide +kernel
theorem dX6_raise_51 : decode cX6_raise 51 = .ok (.dup, 1) := by decide +kernel
theorem dX6_raise_52 : decode cX6_raise 52 = .ok (.ldc 121, 2) := by decide +kernel
theorem dX6_raise_54 : decode cX6_raise 54 = .ok (.invokespecial 62, 3) := by decide +kernel
theorem dX6_raise_57 : decode cX6_raise 57 = .ok (.athrow, 1) := by decide +kernel
theorem dX6_raise_58 : decode cX6_raise 58 = .ok (.aload_n 0, 1) := by decide +kernel
theorem dX6_raise_59 : decode cX6_raise 59 = .ok (.getfield 28, 3) := by decide +kernel
theorem dX6_raise_62 : decode cX6_raise 62 = .ok (.iload_n 1, 1) := by decide +kernel
theorem dX6_raise_63 : decode cX6_raise 63 = .ok (.invokevirtual 123, 3) := by decide +kernel
theorem dX6_raise_66 : decode cX6_raise 66 = .ok (.ifCond .ne 27, 3) := by decide +kernel
theorem dX6_raise_69 : decode cX6_raise 69 = .ok (.aload_n 0, 1) := by decide +kernel
theorem dX6_raise_70 : decode cX6_raise 70 = .ok (.getfield 28, 3) := by decide +kernel
theorem dX6_raise_73 : decode cX6_raise 73 = .ok (.getfield 126, 3) := by decide +kernel
theorem dX6_raise_76 : decode cX6_raise 76 = .ok (.bipush 10, 2) := by decide +kernel
theorem dX6_raise_78 : decode cX6_raise 78 = .ok (.if_icmp .ge 15, 3) := by decide +kernel
theorem dX6_raise_81 : decode cX6_raise 81 = .ok (.aload_n 0, 1) := by decide +kernel
theorem dX6_raise_82 : decode cX6_raise 82 = .ok (.getfield 28, 3) := by decide +kernel
theorem dX6_raise_85 : decode cX6_raise 85 = .ok (.getfield 129, 3) := by decide +kernel
theorem dX6_raise_88 : decode cX6_raise 88 = .ok (.bipush 40, 2) := by decide +kernel
theorem dX6_raise_90 : decode cX6_raise 90 = .ok (.if_icmp .lt 13, 3) := by decide +kernel
theorem dX6_raise_93 : decode cX6_raise 93 = .ok (.new 68, 3) := by decide +kernel
theorem dX6_raise_96 : decode cX6_raise 96 = .ok (.dup, 1) := by decide +kernel
theorem dX6_raise_97 : decode cX6_raise 97 = .ok (.ldc 130, 2) := by decide +kernel
theorem dX6_raise_99 : decode cX6_raise 99 = .ok (.invokespecial 72, 3) := by decide +kernel
theorem dX6_raise_102 : decode cX6_raise 102 = .ok (.athrow, 1) := by decide +kernel
theorem dX6_raise_103 : decode cX6_raise 103 = .ok (.aload_n 0, 1) := by decide +kernel
theorem dX6_raise_104 : decode cX6_raise 104 = .ok (.getfield 28, 3) := by decide +kernel
theorem dX6_raise_107 : decode cX6_raise 107 = .ok (.iload_n 1, 1) := by decide +kernel
theorem dX6_raise_108 : decode cX6_raise 108 = .ok (.iload_n 2, 1) := by decide +kernel
theorem dX6_raise_109 : decode cX6_raise 109 = .ok (.iload_n 3, 1) := by decide +kernel
theorem dX6_raise_110 : decode cX6_raise 110 = .ok (.aload_n 0, 1) := by decide +kernel
theorem dX6_raise_111 : decode cX6_raise 111 = .ok (.getfield 50, 3) := by decide +kernel
theorem dX6_raise_114 : decode cX6_raise 114 = .ok (.invokevirtual 132, 3) := by decide +kernel
theorem dX6_raise_117 : decode cX6_raise 117 = .ok (.istore 4, 2) := by decide +kernel
theorem dX6_raise_119 : decode cX6_raise 119 = .ok (.aload_n 0, 1) := by decide +kernel
theorem dX6_raise_120 : decode cX6_raise 120 = .ok (.getfield 37, 3) := by decide +kernel
theorem dX6_raise_123 : decode cX6_raise 123 = .ok (.aload_n 0, 1) := by decide +kernel
theorem dX6_raise_124 : decode cX6_raise 124 = .ok (.getfield 28, 3) := by decide +kernel
theorem dX6_raise_127 : decode cX6_raise 127 = .ok (.iload 4, 2) := by decide +kernel
theorem dX6_raise_129 : decode cX6_raise 129 = .ok (.invokevirtual 134, 3) := by decide +kernel
theorem dX6_raise_132 : decode cX6_raise 132 = .ok (.invokevirtual 137, 3) := by decide +kernel
theorem dX6_raise_135 : decode cX6_raise 135 = .ok (.iload 4, 2) := by decide +kernel
theorem dX6_raise_137 : decode cX6_raise 137 = .ok (.ireturn, 1) := by decide +kernel
set_option maxRecDepth 20000 in
theorem ggX6_approve_X6_checkOpen : GoodIn wsX6_approve wsX6_checkOpen := goodIn_ca (goodIn_ca (goodIn_r _ [10, 1, 2, 3, 11, 12, 13, 14, 9, 15, 16, 17, 18, 19, 20, 21, 22, 23, 24, 25, 26, 27, 28, 29, 30, 31, 32, 33, 34, 35, 36, 37, 38, 39] (by decide +kernel) (by decide +kernel)) (goodIn_sub (fun _ h => List.mem_cons_of_mem _ (List.mem_append_left _ (List.mem_append_right _ h))) (by decide +kernel))) (goodIn_sub (fun _ h => List.mem_cons_of_mem _ (List.mem_append_right _ h)) (by decide +kernel))
set_option maxRecDepth 20000 in
theorem gX6_approve_X6_checkOpen : GoodIn wsX6_approve (wsV RX6 140 RX6 yX6_checkOpen wsX6_checkOpen) := goodIn_app (goodIn_of _ (by decide +kernel)) ggX6_approve_X6_checkOpen
theorem dX6_approve_0 : decode cX6_approve 0 = .ok (.aload_n 0, 1) := by decide +kernel
theorem dX6_approve_1 : decode cX6_approve 1 = .ok (.iload_n 1, 1) := by decide +kernel
theorem dX6_approve_2 : decode cX6_approve 2 = .ok (.invokevirtual 140, 3) := by decide +kernel
theorem dX6_approve_5 : decode cX6_approve 5 = .ok (.aload_n 0, 1) := by decide +kernel
theorem dX6_approve_6 : decode cX6_approve 6 = .ok (.getfield 28, 3) := by decide +kernel
theorem dX6_approve_9 : decode cX6_approve 9 = .ok (.getfield 143, 3) := by decide +kernel
theorem dX6_approve_12 : decode cX6_approve 12 = .ok (.iload_n 1, 1) := by decide +kernel
theorem dX6_approve_13 : decode cX6_approve 13 = .ok (.iaload, 1) := by decide +kernel
theorem dX6_approve_14 : decode cX6_approve 14 = .ok (.iconst (-1), 1) := by decide +kernel
theorem dX6_approve_15 : decode cX6_approve 15 = .ok (.if_icmp .ne 13, 3) := by decide +kernel
theorem dX6_approve_18 : decode cX6_approve 18 = .ok (.new 68, 3) := by decide +kernel
theorem dX6_approve_21 : decode cX6_approve 21 = .ok (.dup, 1) := by decide +kernel
theorem dX6_approve_22 : decode cX6_approve 22 = .ok (.ldc 145, 2) := by decide +kernel
theorem dX6_approve_24 : decode cX6_approve 24 = .ok (.invokespecial 72, 3) := by decide +kernel
theorem dX6_approve_27 : decode cX6_approve 27 = .ok (.athrow, 1) := by decide +kernel
theorem dX6_approve_28 : decode cX6_approve 28 = .ok (.aload_n 0, 1) := by decide +kernel
theorem dX6_approve_29 : decode cX6_approve 29 = .ok (.getfield 28, 3) := by decide +kernel
theorem dX6_approve_32 : decode cX6_approve 32 = .ok (.getfield 147, 3) := by decide +kernel
theorem dX6_approve_35 : decode cX6_approve 35 = .ok (.iload_n 1, 1) := by decide +kernel
theorem dX6_approve_36 : decode cX6_approve 36 = .ok (.baload, 1) := by decide +kernel
theorem dX6_approve_37 : decode cX6_approve 37 = .ok (.istore_n 2, 1) := by decide +kernel
theorem dX6_approve_38 : decode cX6_approve 38 = .ok (.aload_n 0, 1) := by decide +kernel
theorem dX6_approve_39 : decode cX6_approve 39 = .ok (.getfield 28, 3) := by decide +kernel
theorem dX6_approve_42 : decode cX6_approve 42 = .ok (.getfield 147, 3) := by decide +kernel
theorem dX6_approve_45 : decode cX6_approve 45 = .ok (.iload_n 1, 1) := by decide +kernel
theorem dX6_approve_46 : decode cX6_approve 46 = .ok (.iconst 1, 1) := by decide +kernel
theorem dX6_approve_47 : decode cX6_approve 47 = .ok (.bastore, 1) := by decide +kernel
theorem dX6_approve_48 : decode cX6_approve 48 = .ok (.iload_n 2, 1) := by decide +kernel
theorem dX6_approve_49 : decode cX6_approve 49 = .ok (.ireturn, 1) := by decide +kernel
set_option maxRecDepth 20000 in
theorem ggX6_land_X6_checkOpen : GoodIn wsX6_land wsX6_checkOpen := goodIn_ca (goodIn_ca (goodIn_r _ [9, 1, 2, 3, 10, 11, 12, 13, 8, 14, 15, 16, 17, 18, 19, 20, 162, 163, 164, 165, 166, 167, 168, 169, 170, 171, 172, 173, 174, 175, 176, 177, 178, 179] (by decide +kernel) (by decide +kernel)) (goodIn_sub (fun _ h => List.mem_cons_of_mem _ (List.mem_append_left _ (List.mem_append_right _ h))) (by decide +kernel))) (goodIn_sub (fun _ h => List.mem_cons_of_mem _ (List.mem_append_right _ h)) (by decide +kernel))
set_option maxRecDepth 20000 in
theorem gX6_land_X6_checkOpen : GoodIn wsX6_land (wsV RX6 140 RX6 yX6_checkOpen wsX6_checkOpen) := goodIn_app (goodIn_of _ (by decide +kernel)) ggX6_land_X6_checkOpen
set_option maxRecDepth 20000 in
theorem ggX6_land_X4_groupOf : GoodIn wsX6_land wsX4_groupOf := goodIn_r _ [25, 26, 27, 28, 168, 169, 170, 171, 172, 173, 174, 175, 176, 177, 178, 179] (by decide +kernel) (by decide +kernel)
set_option maxRecDepth 20000 in
theorem gX6_land_X4_groupOf : GoodIn wsX6_land (wsV RX6 151 RX4 yX4_groupOf wsX4_groupOf) := goodIn_app (goodIn_of _ (by decide +kernel)) ggX6_land_X4_groupOf
set_option maxRecDepth 20000 in
theorem ggX6_land_X6_isLandable : GoodIn wsX6_land wsX6_isLandable := goodIn_r _ [32, 3, 33, 34, 35, 36, 37, 24, 38, 39, 40, 41, 42, 43, 26, 44, 45, 28, 46, 47, 48, 49, 50, 51, 52, 53, 54, 55, 56, 57, 58, 59, 60, 61, 62, 63, 64, 65, 66, 67, 68, 69, 70, 71, 19, 8, 20, 72, 73, 74, 75, 76, 77, 78, 79, 80, 81, 82, 83, 84, 85, 86, 87, 88, 89, 162, 163, 164, 165, 166, 167, 168, 169, 170, 171, 172, 173, 174, 175, 176, 177, 178, 179, 180, 181, 182, 183, 184, 185, 186, 187, 188, 189, 190, 191] (by decide +kernel) (by decide +kernel)
set_option maxRecDepth 20000 in
theorem gX6_land_X6_isLandable : GoodIn wsX6_land (wsV RX6 154 RX6 yX6_isLandable wsX6_isLandable) := goodIn_app (goodIn_of _ (by decide +kernel)) ggX6_land_X6_isLandable
set_option maxRecDepth 20000 in
theorem ggX6_land_J6_bitCount_0f7a4 : GoodIn wsX6_land wsJ6_bitCount_0f7a4 := goodIn_r _ [93, 94, 95, 96] (by decide +kernel) (by decide +kernel)
set_option maxRecDepth 20000 in
theorem gX6_land_J6_bitCount_0f7a4 : GoodIn wsX6_land (va_wsS RX6 160 yJ6_bitCount_0f7a4 wsJ6_bitCount_0f7a4) := goodIn_app (goodIn_of _ (by decide +kernel)) ggX6_land_J6_bitCount_0f7a4
set_option maxRecDepth 20000 in
theorem ggX6_land_X4_release : GoodIn wsX6_land wsX4_release := goodIn_r _ [100, 26, 28, 39, 101, 45, 46, 55, 56, 57, 24, 58, 102, 103, 104, 105, 106, 27, 107, 108, 109, 110, 111, 168, 169, 170, 171, 172, 173, 174, 175, 176, 177, 178, 179, 180, 181, 182, 183, 184, 185, 186, 187] (by decide +kernel) (by decide +kernel)
set_option maxRecDepth 20000 in
theorem gX6_land_X4_release : GoodIn wsX6_land (wsV RX6 165 RX4 yX4_release wsX4_release) := goodIn_app (goodIn_of _ (by decide +kernel)) ggX6_land_X4_release
set_option maxRecDepth 20000 in
theorem ggX6_land_X4_end : GoodIn wsX6_land wsX4_end := goodIn_r _ [105, 106, 27, 107, 108, 109, 24, 110, 26, 111, 28, 168, 169, 170, 171, 172, 173, 174, 175, 176, 177, 178, 179] (by decide +kernel) (by decide +kernel)
set_option maxRecDepth 20000 in
theorem gX6_land_X4_end : GoodIn wsX6_land (wsV RX6 168 RX4 yX4_end wsX4_end) := goodIn_app (goodIn_of _ (by decide +kernel)) ggX6_land_X4_end
set_option maxRecDepth 20000 in
theorem ggX6_land_X2_part : GoodIn wsX6_land wsX2_part := goodIn_r _ [117, 118, 119, 120, 121, 122, 123, 56, 57, 24, 58, 124, 125, 126, 127, 26, 28, 27, 55, 128, 129, 130, 131, 132, 133, 134, 135, 136, 137, 138, 139, 140, 141, 142, 143, 144, 145, 146, 147, 148, 149, 150, 151, 152, 153, 154, 155, 156, 157, 158, 159, 160, 161, 192, 193, 194, 195, 168, 169, 170, 171, 172, 173, 174, 175, 176, 177, 178, 179, 196, 197] (by decide +kernel) (by decide +kernel)
set_option maxRecDepth 20000 in
theorem gX6_land_X2_part : GoodIn wsX6_land (wsV RX6 172 RX2 yX2_part wsX2_part) := goodIn_app (goodIn_of _ (by decide +kernel)) ggX6_land_X2_part
theorem dX6_land_0 : decode cX6_land 0 = .ok (.aload_n 0, 1) := by decide +kernel
theorem dX6_land_1 : decode cX6_land 1 = .ok (.iload_n 1, 1) := by decide +kernel
theorem dX6_land_2 : decode cX6_land 2 = .ok (.invokevirtual 140, 3) := by decide +kernel
theorem dX6_land_5 : decode cX6_land 5 = .ok (.aload_n 0, 1) := by decide +kernel
theorem dX6_land_6 : decode cX6_land 6 = .ok (.getfield 28, 3) := by decide +kernel
theorem dX6_land_9 : decode cX6_land 9 = .ok (.iload_n 1, 1) := by decide +kernel
theorem dX6_land_10 : decode cX6_land 10 = .ok (.invokevirtual 151, 3) := by decide +kernel
theorem dX6_land_13 : decode cX6_land 13 = .ok (.istore_n 3, 1) := by decide +kernel
theorem dX6_land_14 : decode cX6_land 14 = .ok (.aload_n 0, 1) := by decide +kernel
theorem dX6_land_15 : decode cX6_land 15 = .ok (.iload_n 3, 1) := by decide +kernel
theorem dX6_land_16 : decode cX6_land 16 = .ok (.invokevirtual 154, 3) := by decide +kernel
theorem dX6_land_19 : decode cX6_land 19 = .ok (.ifCond .ne 13, 3) := by decide +kernel
theorem dX6_land_22 : decode cX6_land 22 = .ok (.new 68, 3) := by decide +kernel
theorem dX6_land_25 : decode cX6_land 25 = .ok (.dup, 1) := by decide +kernel
theorem dX6_land_26 : decode cX6_land 26 = .ok (.ldc 158, 2) := by decide +kernel
theorem dX6_land_28 : decode cX6_land 28 = .ok (.invokespecial 72, 3) := by decide +kernel
theorem dX6_land_31 : decode cX6_land 31 = .ok (.athrow, 1) := by decide +kernel
theorem dX6_land_32 : decode cX6_land 32 = .ok (.iload_n 3, 1) := by decide +kernel
theorem dX6_land_33 : decode cX6_land 33 = .ok (.invokestatic 160, 3) := by decide +kernel
theorem dX6_land_36 : decode cX6_land 36 = .ok (.istore 4, 2) := by decide +kernel
theorem dX6_land_38 : decode cX6_land 38 = .ok (.iload_n 2, 1) := by decide +kernel
theorem dX6_land_39 : decode cX6_land 39 = .ok (.ifCond .eq 14, 3) := by decide +kernel
theorem dX6_land_42 : decode cX6_land 42 = .ok (.aload_n 0, 1) := by decide +kernel
theorem dX6_land_43 : decode cX6_land 43 = .ok (.getfield 28, 3) := by decide +kernel
theorem dX6_land_46 : decode cX6_land 46 = .ok (.iload_n 3, 1) := by decide +kernel
theorem dX6_land_47 : decode cX6_land 47 = .ok (.invokevirtual 165, 3) := by decide +kernel
theorem dX6_land_50 : decode cX6_land 50 = .ok (.goto 29, 3) := by decide +kernel
theorem dX6_land_53 : decode cX6_land 53 = .ok (.iload 4, 2) := by decide +kernel
theorem dX6_land_55 : decode cX6_land 55 = .ok (.iconst 1, 1) := by decide +kernel
theorem dX6_land_56 : decode cX6_land 56 = .ok (.if_icmp .ne 15, 3) := by decide +kernel
theorem dX6_land_59 : decode cX6_land 59 = .ok (.aload_n 0, 1) := by decide +kernel
theorem dX6_land_60 : decode cX6_land 60 = .ok (.getfield 28, 3) := by decide +kernel
theorem dX6_land_63 : decode cX6_land 63 = .ok (.iload_n 1, 1) := by decide +kernel
theorem dX6_land_64 : decode cX6_land 64 = .ok (.iconst 2, 1) := by decide +kernel
theorem dX6_land_65 : decode cX6_land 65 = .ok (.invokevirtual 168, 3) := by decide +kernel
theorem dX6_land_68 : decode cX6_land 68 = .ok (.goto 11, 3) := by decide +kernel
theorem dX6_land_71 : decode cX6_land 71 = .ok (.aload_n 0, 1) := by decide +kernel
theorem dX6_land_72 : decode cX6_land 72 = .ok (.getfield 46, 3) := by decide +kernel
theorem dX6_land_75 : decode cX6_land 75 = .ok (.iload_n 3, 1) := by decide +kernel
theorem dX6_land_76 : decode cX6_land 76 = .ok (.invokevirtual 172, 3) := by decide +kernel
theorem dX6_land_79 : decode cX6_land 79 = .ok (.iload 4, 2) := by decide +kernel
theorem dX6_land_81 : decode cX6_land 81 = .ok (.ireturn, 1) := by decide +kernel
set_option maxRecDepth 20000 in
theorem ggX6_close_X6_checkOpen : GoodIn wsX6_close wsX6_checkOpen := goodIn_ca (goodIn_ca (goodIn_r _ [6, 7, 8, 9, 10, 11, 12, 13, 5, 14, 15, 16, 17, 18, 19, 20, 99, 100, 101, 102, 103, 104, 105, 106, 107, 108, 109, 110, 111, 112, 113, 114, 115, 116] (by decide +kernel) (by decide +kernel)) (goodIn_sub (fun _ h => List.mem_cons_of_mem _ (List.mem_append_left _ (List.mem_append_right _ h))) (by decide +kernel))) (goodIn_sub (fun _ h => List.mem_cons_of_mem _ (List.mem_append_right _ h)) (by decide +kernel))
set_option maxRecDepth 20000 in
theorem gX6_close_X6_checkOpen : GoodIn wsX6_close (wsV RX6 140 RX6 yX6_checkOpen wsX6_checkOpen) := goodIn_app (goodIn_of _ (by decide +kernel)) ggX6_close_X6_checkOpen
set_option maxRecDepth 20000 in
theorem ggX6_close_X2_leave : GoodIn wsX6_close wsX2_leave := goodIn_r _ [25, 26, 27, 28, 29, 30, 24, 31, 32, 33, 34, 35, 36, 37, 38, 39, 40, 41, 42, 43, 44, 45, 46, 47, 48, 49, 50, 51, 52, 53, 54, 55, 56, 57, 58, 59, 60, 61, 62, 63, 64, 65, 66, 67, 68, 69, 70, 71, 72, 73, 74, 75, 76, 77, 78, 79, 80, 81, 82, 83, 84, 85, 86, 87, 88, 89, 90, 91, 92, 93, 94, 95, 96, 97, 98, 117, 118, 119, 120, 105, 106, 107, 108, 109, 110, 111, 112, 113, 114, 115, 116, 121, 122] (by decide +kernel) (by decide +kernel)
set_option maxRecDepth 20000 in
theorem gX6_close_X2_leave : GoodIn wsX6_close (wsV RX6 175 RX2 yX2_leave wsX2_leave) := goodIn_app (goodIn_of _ (by decide +kernel)) ggX6_close_X2_leave
theorem dX6_close_0 : decode cX6_close 0 = .ok (.aload_n 0, 1) := by decide +kernel
theorem dX6_close_1 : decode cX6_close 1 = .ok (.iload_n 1, 1) := by decide +kernel
theorem dX6_close_2 : decode cX6_close 2 = .ok (.invokevirtual 140, 3) := by decide +kernel
theorem dX6_close_5 : decode cX6_close 5 = .ok (.aload_n 0, 1) := by decide +kernel
theorem dX6_close_6 : decode cX6_close 6 = .ok (.getfield 46, 3) := by decide +kernel
theorem dX6_close_9 : decode cX6_close 9 = .ok (.iload_n 1, 1) := by decide +kernel
theorem dX6_close_10 : decode cX6_close 10 = .ok (.invokevirtual 175, 3) := by decide +kernel
theorem dX6_close_13 : decode cX6_close 13 = .ok (.return_, 1) := by decide +kernel
set_option maxRecDepth 20000 in
theorem ggX6_pass_X6_isWithin : GoodIn wsX6_pass wsX6_isWithin := goodIn_r _ [10] (by decide +kernel) (by decide +kernel)
set_option maxRecDepth 20000 in
theorem gX6_pass_X6_isWithin : GoodIn wsX6_pass (va_wsS RX6 54 yX6_isWithin wsX6_isWithin) := goodIn_app (goodIn_of _ (by decide +kernel)) ggX6_pass_X6_isWithin
set_option maxRecDepth 20000 in
theorem ggX6_pass_X2_joinSleepers : GoodIn wsX6_pass wsX2_joinSleepers := goodIn_r _ [15, 16, 17, 18, 19, 20, 21, 22, 14, 23, 24, 25, 26, 27, 28, 29, 30, 31, 32, 33, 34, 35, 36, 37, 38, 39, 40, 41, 42, 43, 44, 45, 46, 47, 48, 49, 50, 51, 52, 53, 54, 55, 56, 57, 58, 59, 60, 61, 62, 63, 64, 65, 66, 67, 68, 69, 70, 8, 9, 10, 71, 72, 73, 74, 75, 76, 77, 78, 79, 80, 81, 82, 83, 84, 85, 86, 87, 88, 89, 90, 91, 92, 93, 94, 95, 96, 97, 98, 99, 100, 101, 102, 103, 104, 105, 106, 107, 108, 109, 110, 111, 112, 113, 114, 115, 116, 117, 124, 125, 126, 127, 128, 129, 130, 131, 132, 133, 134, 135, 136, 137, 138, 139, 140, 141, 142, 143, 144, 145, 146, 147, 148, 149] (by decide +kernel) (by decide +kernel)
set_option maxRecDepth 20000 in
theorem gX6_pass_X2_joinSleepers : GoodIn wsX6_pass (wsV RX6 182 RX2 yX2_joinSleepers wsX2_joinSleepers) := goodIn_app (goodIn_of _ (by decide +kernel)) ggX6_pass_X2_joinSleepers
theorem dX6_pass_0 : decode cX6_pass 0 = .ok (.iload_n 1, 1) := by decide +kernel
theorem dX6_pass_1 : decode cX6_pass 1 = .ok (.iconst 1, 1) := by decide +kernel
theorem dX6_pass_2 : decode cX6_pass 2 = .ok (.bipush 100, 2) := by decide +kernel
theorem dX6_pass_4 : decode cX6_pass 4 = .ok (.invokestatic 54, 3) := by decide +kernel
theorem dX6_pass_7 : decode cX6_pass 7 = .ok (.ifCond .ne 13, 3) := by decide +kernel
theorem dX6_pass_10 : decode cX6_pass 10 = .ok (.new 58, 3) := by decide +kernel
theorem dX6_pass_13 : decode cX6_pass 13 = .ok (.dup, 1) := by decide +kernel
theorem dX6_pass_14 : decode cX6_pass 14 = .ok (.ldc 178, 2) := by decide +kernel
theorem dX6_pass_16 : decode cX6_pass 16 = .ok (.invokespecial 62, 3) := by decide +kernel
theorem dX6_pass_19 : decode cX6_pass 19 = .ok (.athrow, 1) := by decide +kernel
theorem dX6_pass_20 : decode cX6_pass 20 = .ok (.aload_n 0, 1) := by decide +kernel
theorem dX6_pass_21 : decode cX6_pass 21 = .ok (.getfield 50, 3) := by decide +kernel
theorem dX6_pass_24 : decode cX6_pass 24 = .ok (.iload_n 1, 1) := by decide +kernel
theorem dX6_pass_25 : decode cX6_pass 25 = .ok (.iadd, 1) := by decide +kernel
theorem dX6_pass_26 : decode cX6_pass 26 = .ok (.sipush 1000, 3) := by decide +kernel
theorem dX6_pass_29 : decode cX6_pass 29 = .ok (.if_icmp .le 13, 3) := by decide +kernel
theorem dX6_pass_32 : decode cX6_pass 32 = .ok (.new 68, 3) := by decide +kernel
theorem dX6_pass_35 : decode cX6_pass 35 = .ok (.dup, 1) := by decide +kernel
theorem dX6_pass_36 : decode cX6_pass 36 = .ok (.ldc 180, 2) := by decide +kernel
theorem dX6_pass_38 : decode cX6_pass 38 = .ok (.invokespecial 72, 3) := by decide +kernel
theorem dX6_pass_41 : decode cX6_pass 41 = .ok (.athrow, 1) := by decide +kernel
theorem dX6_pass_42 : decode cX6_pass 42 = .ok (.iconst 0, 1) := by decide +kernel
theorem dX6_pass_43 : decode cX6_pass 43 = .ok (.istore_n 2, 1) := by decide +kernel
theorem dX6_pass_44 : decode cX6_pass 44 = .ok (.iload_n 2, 1) := by decide +kernel
theorem dX6_pass_45 : decode cX6_pass 45 = .ok (.iload_n 1, 1) := by decide +kernel
theorem dX6_pass_46 : decode cX6_pass 46 = .ok (.if_icmp .ge 30, 3) := by decide +kernel
theorem dX6_pass_49 : decode cX6_pass 49 = .ok (.aload_n 0, 1) := by decide +kernel
theorem dX6_pass_50 : decode cX6_pass 50 = .ok (.dup, 1) := by decide +kernel
theorem dX6_pass_51 : decode cX6_pass 51 = .ok (.getfield 50, 3) := by decide +kernel
theorem dX6_pass_54 : decode cX6_pass 54 = .ok (.iconst 1, 1) := by decide +kernel
theorem dX6_pass_55 : decode cX6_pass 55 = .ok (.iadd, 1) := by decide +kernel
theorem dX6_pass_56 : decode cX6_pass 56 = .ok (.putfield 50, 3) := by decide +kernel
theorem dX6_pass_59 : decode cX6_pass 59 = .ok (.aload_n 0, 1) := by decide +kernel
theorem dX6_pass_60 : decode cX6_pass 60 = .ok (.getfield 46, 3) := by decide +kernel
theorem dX6_pass_63 : decode cX6_pass 63 = .ok (.aload_n 0, 1) := by decide +kernel
theorem dX6_pass_64 : decode cX6_pass 64 = .ok (.getfield 50, 3) := by decide +kernel
theorem dX6_pass_67 : decode cX6_pass 67 = .ok (.invokevirtual 182, 3) := by decide +kernel
theorem dX6_pass_70 : decode cX6_pass 70 = .ok (.iinc 2 1, 3) := by decide +kernel
theorem dX6_pass_73 : decode cX6_pass 73 = .ok (.goto (-29), 3) := by decide +kernel
theorem dX6_pass_76 : decode cX6_pass 76 = .ok (.aload_n 0, 1) := by decide +kernel
theorem dX6_pass_77 : decode cX6_pass 77 = .ok (.getfield 50, 3) := by decide +kernel
theorem dX6_pass_80 : decode cX6_pass 80 = .ok (.ireturn, 1) := by decide +kernel
theorem dX6_day_0 : decode cX6_day 0 = .ok (.aload_n 0, 1) := by decide +kernel
theorem dX6_day_1 : decode cX6_day 1 = .ok (.getfield 50, 3) := by decide +kernel
theorem dX6_day_4 : decode cX6_day 4 = .ok (.ireturn, 1) := by decide +kernel
set_option maxRecDepth 20000 in
theorem ggX6_version_X6_checkPackage : GoodIn wsX6_version wsX6_checkPackage := goodIn_ca (goodIn_r _ [7, 8, 9, 1, 10, 11, 12, 6, 13, 14, 15, 16, 17, 18, 19, 20, 21, 22, 23, 24, 25, 26, 27] (by decide +kernel) (by decide +kernel)) (goodIn_sub (fun _ h => List.mem_cons_of_mem _ (List.mem_append_right _ h)) (by decide +kernel))
set_option maxRecDepth 20000 in
theorem gX6_version_X6_checkPackage : GoodIn wsX6_version (wsV RX6 77 RX6 yX6_checkPackage wsX6_checkPackage) := goodIn_app (goodIn_of _ (by decide +kernel)) ggX6_version_X6_checkPackage
theorem dX6_version_0 : decode cX6_version 0 = .ok (.aload_n 0, 1) := by decide +kernel
theorem dX6_version_1 : decode cX6_version 1 = .ok (.iload_n 1, 1) := by decide +kernel
theorem dX6_version_2 : decode cX6_version 2 = .ok (.invokevirtual 77, 3) := by decide +kernel
theorem dX6_version_5 : decode cX6_version 5 = .ok (.aload_n 0, 1) := by decide +kernel
theorem dX6_version_6 : decode cX6_version 6 = .ok (.getfield 10, 3) := by decide +kernel
theorem dX6_version_9 : decode cX6_version 9 = .ok (.getfield 83, 3) := by decide +kernel
theorem dX6_version_12 : decode cX6_version 12 = .ok (.iload_n 1, 1) := by decide +kernel
theorem dX6_version_13 : decode cX6_version 13 = .ok (.iaload, 1) := by decide +kernel
theorem dX6_version_14 : decode cX6_version 14 = .ok (.ireturn, 1) := by decide +kernel
set_option maxRecDepth 20000 in
theorem ggX6_raiseOf_X6_checkRaise : GoodIn wsX6_raiseOf wsX6_checkRaise := goodIn_ca (goodIn_r _ [14, 15, 16, 3, 17, 18, 19, 13, 20, 36, 37, 38, 39, 40, 41, 42, 43, 44, 45, 46, 47, 48, 49, 50, 51, 52, 53] (by decide +kernel) (by decide +kernel)) (goodIn_sub (fun _ h => List.mem_cons_of_mem _ (List.mem_append_right _ h)) (by decide +kernel))
set_option maxRecDepth 20000 in
theorem gX6_raiseOf_X6_checkRaise : GoodIn wsX6_raiseOf (wsV RX6 185 RX6 yX6_checkRaise wsX6_checkRaise) := goodIn_app (goodIn_of _ (by decide +kernel)) ggX6_raiseOf_X6_checkRaise
set_option maxRecDepth 20000 in
theorem ggX6_raiseOf_X4_groupOf : GoodIn wsX6_raiseOf wsX4_groupOf := goodIn_r _ [25, 26, 27, 28, 42, 43, 44, 45, 46, 47, 48, 49, 50, 51, 52, 53] (by decide +kernel) (by decide +kernel)
set_option maxRecDepth 20000 in
theorem gX6_raiseOf_X4_groupOf : GoodIn wsX6_raiseOf (wsV RX6 151 RX4 yX4_groupOf wsX4_groupOf) := goodIn_app (goodIn_of _ (by decide +kernel)) ggX6_raiseOf_X4_groupOf
set_option maxRecDepth 20000 in
theorem ggX6_raiseOf_J6_bitCount_0f7a4 : GoodIn wsX6_raiseOf wsJ6_bitCount_0f7a4 := goodIn_r _ [32, 33, 34, 35] (by decide +kernel) (by decide +kernel)
set_option maxRecDepth 20000 in
theorem gX6_raiseOf_J6_bitCount_0f7a4 : GoodIn wsX6_raiseOf (va_wsS RX6 160 yJ6_bitCount_0f7a4 wsJ6_bitCount_0f7a4) := goodIn_app (goodIn_of _ (by decide +kernel)) ggX6_raiseOf_J6_bitCount_0f7a4
theorem dX6_raiseOf_0 : decode cX6_raiseOf 0 = .ok (.aload_n 0, 1) := by decide +kernel
theorem dX6_raiseOf_1 : decode cX6_raiseOf 1 = .ok (.iload_n 1, 1) := by decide +kernel
theorem dX6_raiseOf_2 : decode cX6_raiseOf 2 = .ok (.invokevirtual 185, 3) := by decide +kernel
theorem dX6_raiseOf_5 : decode cX6_raiseOf 5 = .ok (.iload_n 2, 1) := by decide +kernel
theorem dX6_raiseOf_6 : decode cX6_raiseOf 6 = .ok (.tableswitch 122 0 6 #[42, 52, 62, 72, 82, 100, 110], 42) := by decide +kernel
theorem dX6_raiseOf_48 : decode cX6_raiseOf 48 = .ok (.aload_n 0, 1) := by decide +kernel
theorem dX6_raiseOf_49 : decode cX6_raiseOf 49 = .ok (.getfield 28, 3) := by decide +kernel
theorem dX6_raiseOf_52 : decode cX6_raiseOf 52 = .ok (.getfield 188, 3) := by decide +kernel
theorem dX6_raiseOf_55 : decode cX6_raiseOf 55 = .ok (.iload_n 1, 1) := by decide +kernel
theorem dX6_raiseOf_56 : decode cX6_raiseOf 56 = .ok (.iaload, 1) := by decide +kernel
theorem dX6_raiseOf_57 : decode cX6_raiseOf 57 = .ok (.ireturn, 1) := by decide +kernel
theorem dX6_raiseOf_58 : decode cX6_raiseOf 58 = .ok (.aload_n 0, 1) := by decide +kernel
theorem dX6_raiseOf_59 : decode cX6_raiseOf 59 = .ok (.getfield 28, 3) := by decide +kernel
theorem dX6_raiseOf_62 : decode cX6_raiseOf 62 = .ok (.getfield 191, 3) := by decide +kernel
theorem dX6_raiseOf_65 : decode cX6_raiseOf 65 = .ok (.iload_n 1, 1) := by decide +kernel
theorem dX6_raiseOf_66 : decode cX6_raiseOf 66 = .ok (.iaload, 1) := by decide +kernel
theorem dX6_raiseOf_67 : decode cX6_raiseOf 67 = .ok (.ireturn, 1) := by decide +kernel
theorem dX6_raiseOf_68 : decode cX6_raiseOf 68 = .ok (.aload_n 0, 1) := by decide +kernel
theorem dX6_raiseOf_69 : decode cX6_raiseOf 69 = .ok (.getfield 28, 3) := by decide +kernel
theorem dX6_raiseOf_72 : decode cX6_raiseOf 72 = .ok (.getfield 194, 3) := by decide +kernel
theorem dX6_raiseOf_75 : decode cX6_raiseOf 75 = .ok (.iload_n 1, 1) := by decide +kernel
theorem dX6_raiseOf_76 : decode cX6_raiseOf 76 = .ok (.iaload, 1) := by decide +kernel
theorem dX6_raiseOf_77 : decode cX6_raiseOf 77 = .ok (.ireturn, 1) := by decide +kernel
theorem dX6_raiseOf_78 : decode cX6_raiseOf 78 = .ok (.aload_n 0, 1) := by decide +kernel
theorem dX6_raiseOf_79 : decode cX6_raiseOf 79 = .ok (.getfield 28, 3) := by decide +kernel
theorem dX6_raiseOf_82 : decode cX6_raiseOf 82 = .ok (.getfield 143, 3) := by decide +kernel
theorem dX6_raiseOf_85 : decode cX6_raiseOf 85 = .ok (.iload_n 1, 1) := by decide +kernel
theorem dX6_raiseOf_86 : decode cX6_raiseOf 86 = .ok (.iaload, 1) := by decide +kernel
theorem dX6_raiseOf_87 : decode cX6_raiseOf 87 = .ok (.ireturn, 1) := by decide +kernel
theorem dX6_raiseOf_88 : decode cX6_raiseOf 88 = .ok (.aload_n 0, 1) := by decide +kernel
theorem dX6_raiseOf_89 : decode cX6_raiseOf 89 = .ok (.getfield 28, 3) := by decide +kernel
theorem dX6_raiseOf_92 : decode cX6_raiseOf 92 = .ok (.getfield 147, 3) := by decide +kernel
theorem dX6_raiseOf_95 : decode cX6_raiseOf 95 = .ok (.iload_n 1, 1) := by decide +kernel
theorem dX6_raiseOf_96 : decode cX6_raiseOf 96 = .ok (.baload, 1) := by decide +kernel
theorem dX6_raiseOf_97 : decode cX6_raiseOf 97 = .ok (.ifCond .eq 7, 3) := by decide +kernel
theorem dX6_raiseOf_100 : decode cX6_raiseOf 100 = .ok (.iconst 1, 1) := by decide +kernel
theorem dX6_raiseOf_101 : decode cX6_raiseOf 101 = .ok (.goto 4, 3) := by decide +kernel
theorem dX6_raiseOf_104 : decode cX6_raiseOf 104 = .ok (.iconst 0, 1) := by decide +kernel
theorem dX6_raiseOf_105 : decode cX6_raiseOf 105 = .ok (.ireturn, 1) := by decide +kernel
theorem dX6_raiseOf_106 : decode cX6_raiseOf 106 = .ok (.aload_n 0, 1) := by decide +kernel
theorem dX6_raiseOf_107 : decode cX6_raiseOf 107 = .ok (.getfield 28, 3) := by decide +kernel
theorem dX6_raiseOf_110 : decode cX6_raiseOf 110 = .ok (.getfield 195, 3) := by decide +kernel
theorem dX6_raiseOf_113 : decode cX6_raiseOf 113 = .ok (.iload_n 1, 1) := by decide +kernel
theorem dX6_raiseOf_114 : decode cX6_raiseOf 114 = .ok (.iaload, 1) := by decide +kernel
theorem dX6_raiseOf_115 : decode cX6_raiseOf 115 = .ok (.ireturn, 1) := by decide +kernel
theorem dX6_raiseOf_116 : decode cX6_raiseOf 116 = .ok (.aload_n 0, 1) := by decide +kernel
theorem dX6_raiseOf_117 : decode cX6_raiseOf 117 = .ok (.getfield 28, 3) := by decide +kernel
theorem dX6_raiseOf_120 : decode cX6_raiseOf 120 = .ok (.iload_n 1, 1) := by decide +kernel
theorem dX6_raiseOf_121 : decode cX6_raiseOf 121 = .ok (.invokevirtual 151, 3) := by decide +kernel
theorem dX6_raiseOf_124 : decode cX6_raiseOf 124 = .ok (.invokestatic 160, 3) := by decide +kernel
theorem dX6_raiseOf_127 : decode cX6_raiseOf 127 = .ok (.ireturn, 1) := by decide +kernel
theorem dX6_raiseOf_128 : decode cX6_raiseOf 128 = .ok (.new 58, 3) := by decide +kernel
theorem dX6_raiseOf_131 : decode cX6_raiseOf 131 = .ok (.dup, 1) := by decide +kernel
theorem dX6_raiseOf_132 : decode cX6_raiseOf 132 = .ok (.ldc 198, 2) := by decide +kernel
theorem dX6_raiseOf_134 : decode cX6_raiseOf 134 = .ok (.invokespecial 62, 3) := by decide +kernel
theorem dX6_raiseOf_137 : decode cX6_raiseOf 137 = .ok (.athrow, 1) := by decide +kernel
set_option maxRecDepth 20000 in
theorem ggX6_fails_X6_checkOpen : GoodIn wsX6_fails wsX6_checkOpen := goodIn_ca (goodIn_ca (goodIn_r _ [6, 7, 8, 1, 9, 10, 11, 12, 5, 13, 14, 15, 16, 17, 18, 19, 65, 66, 67, 68, 69, 70, 71, 72, 73, 74, 75, 76, 77, 78, 79, 80, 81, 82] (by decide +kernel) (by decide +kernel)) (goodIn_sub (fun _ h => List.mem_cons_of_mem _ (List.mem_append_left _ (List.mem_append_right _ h))) (by decide +kernel))) (goodIn_sub (fun _ h => List.mem_cons_of_mem _ (List.mem_append_right _ h)) (by decide +kernel))
set_option maxRecDepth 20000 in
theorem gX6_fails_X6_checkOpen : GoodIn wsX6_fails (wsV RX6 140 RX6 yX6_checkOpen wsX6_checkOpen) := goodIn_app (goodIn_of _ (by decide +kernel)) ggX6_fails_X6_checkOpen
set_option maxRecDepth 20000 in
theorem ggX6_fails_X4_groupOf : GoodIn wsX6_fails wsX4_groupOf := goodIn_r _ [24, 25, 26, 27, 71, 72, 73, 74, 75, 76, 77, 78, 79, 80, 81, 82] (by decide +kernel) (by decide +kernel)
set_option maxRecDepth 20000 in
theorem gX6_fails_X4_groupOf : GoodIn wsX6_fails (wsV RX6 151 RX4 yX4_groupOf wsX4_groupOf) := goodIn_app (goodIn_of _ (by decide +kernel)) ggX6_fails_X4_groupOf
set_option maxRecDepth 20000 in
theorem ggX6_fails_X4_failing : GoodIn wsX6_fails wsX4_failing := goodIn_r _ [31, 32, 33, 34, 35, 23, 36, 25, 37, 38, 27, 39, 40, 41, 42, 43, 44, 45, 46, 47, 48, 49, 50, 51, 52, 53, 54, 55, 56, 57, 58, 59, 60, 61, 62, 63, 64, 18, 5, 19, 71, 72, 73, 74, 75, 76, 77, 78, 79, 80, 81, 82, 83, 84, 85, 86, 87, 88, 89, 90] (by decide +kernel) (by decide +kernel)
set_option maxRecDepth 20000 in
theorem gX6_fails_X4_failing : GoodIn wsX6_fails (wsV RX6 200 RX4 yX4_failing wsX4_failing) := goodIn_app (goodIn_of _ (by decide +kernel)) ggX6_fails_X4_failing
theorem dX6_fails_0 : decode cX6_fails 0 = .ok (.aload_n 0, 1) := by decide +kernel
theorem dX6_fails_1 : decode cX6_fails 1 = .ok (.iload_n 1, 1) := by decide +kernel
theorem dX6_fails_2 : decode cX6_fails 2 = .ok (.invokevirtual 140, 3) := by decide +kernel
theorem dX6_fails_5 : decode cX6_fails 5 = .ok (.aload_n 0, 1) := by decide +kernel
theorem dX6_fails_6 : decode cX6_fails 6 = .ok (.getfield 28, 3) := by decide +kernel
theorem dX6_fails_9 : decode cX6_fails 9 = .ok (.aload_n 0, 1) := by decide +kernel
theorem dX6_fails_10 : decode cX6_fails 10 = .ok (.getfield 28, 3) := by decide +kernel
theorem dX6_fails_13 : decode cX6_fails 13 = .ok (.iload_n 1, 1) := by decide +kernel
theorem dX6_fails_14 : decode cX6_fails 14 = .ok (.invokevirtual 151, 3) := by decide +kernel
theorem dX6_fails_17 : decode cX6_fails 17 = .ok (.invokevirtual 200, 3) := by decide +kernel
theorem dX6_fails_20 : decode cX6_fails 20 = .ok (.ireturn, 1) := by decide +kernel
set_option maxRecDepth 20000 in
theorem ggX6_canLand_X6_checkOpen : GoodIn wsX6_canLand wsX6_checkOpen := goodIn_ca (goodIn_ca (goodIn_r _ [6, 7, 8, 1, 9, 10, 11, 12, 5, 13, 14, 15, 16, 17, 18, 19, 89, 90, 91, 92, 93, 94, 95, 96, 97, 98, 99, 100, 101, 102, 103, 104, 105, 106] (by decide +kernel) (by decide +kernel)) (goodIn_sub (fun _ h => List.mem_cons_of_mem _ (List.mem_append_left _ (List.mem_append_right _ h))) (by decide +kernel))) (goodIn_sub (fun _ h => List.mem_cons_of_mem _ (List.mem_append_right _ h)) (by decide +kernel))
set_option maxRecDepth 20000 in
theorem gX6_canLand_X6_checkOpen : GoodIn wsX6_canLand (wsV RX6 140 RX6 yX6_checkOpen wsX6_checkOpen) := goodIn_app (goodIn_of _ (by decide +kernel)) ggX6_canLand_X6_checkOpen
set_option maxRecDepth 20000 in
theorem ggX6_canLand_X4_groupOf : GoodIn wsX6_canLand wsX4_groupOf := goodIn_r _ [24, 25, 26, 27, 95, 96, 97, 98, 99, 100, 101, 102, 103, 104, 105, 106] (by decide +kernel) (by decide +kernel)
set_option maxRecDepth 20000 in
theorem gX6_canLand_X4_groupOf : GoodIn wsX6_canLand (wsV RX6 151 RX4 yX4_groupOf wsX4_groupOf) := goodIn_app (goodIn_of _ (by decide +kernel)) ggX6_canLand_X4_groupOf
set_option maxRecDepth 20000 in
theorem ggX6_canLand_X6_isLandable : GoodIn wsX6_canLand wsX6_isLandable := goodIn_r _ [31, 1, 32, 33, 34, 35, 36, 23, 37, 38, 39, 40, 41, 42, 25, 43, 44, 27, 45, 46, 47, 48, 49, 50, 51, 52, 53, 54, 55, 56, 57, 58, 59, 60, 61, 62, 63, 64, 65, 66, 67, 68, 69, 70, 18, 5, 19, 71, 72, 73, 74, 75, 76, 77, 78, 79, 80, 81, 82, 83, 84, 85, 86, 87, 88, 89, 90, 91, 92, 93, 94, 95, 96, 97, 98, 99, 100, 101, 102, 103, 104, 105, 106, 107, 108, 109, 110, 111, 112, 113, 114, 115, 116, 117, 118] (by decide +kernel) (by decide +kernel)
set_option maxRecDepth 20000 in
theorem gX6_canLand_X6_isLandable : GoodIn wsX6_canLand (wsV RX6 154 RX6 yX6_isLandable wsX6_isLandable) := goodIn_app (goodIn_of _ (by decide +kernel)) ggX6_canLand_X6_isLandable
theorem dX6_canLand_0 : decode cX6_canLand 0 = .ok (.aload_n 0, 1) := by decide +kernel
theorem dX6_canLand_1 : decode cX6_canLand 1 = .ok (.iload_n 1, 1) := by decide +kernel
theorem dX6_canLand_2 : decode cX6_canLand 2 = .ok (.invokevirtual 140, 3) := by decide +kernel
theorem dX6_canLand_5 : decode cX6_canLand 5 = .ok (.aload_n 0, 1) := by decide +kernel
theorem dX6_canLand_6 : decode cX6_canLand 6 = .ok (.aload_n 0, 1) := by decide +kernel
theorem dX6_canLand_7 : decode cX6_canLand 7 = .ok (.getfield 28, 3) := by decide +kernel
theorem dX6_canLand_10 : decode cX6_canLand 10 = .ok (.iload_n 1, 1) := by decide +kernel
theorem dX6_canLand_11 : decode cX6_canLand 11 = .ok (.invokevirtual 151, 3) := by decide +kernel
theorem dX6_canLand_14 : decode cX6_canLand 14 = .ok (.invokevirtual 154, 3) := by decide +kernel
theorem dX6_canLand_17 : decode cX6_canLand 17 = .ok (.ireturn, 1) := by decide +kernel
set_option maxRecDepth 20000 in
theorem ggX6_load_X6_checkReviewer : GoodIn wsX6_load wsX6_checkReviewer := goodIn_ca (goodIn_r _ [6, 7, 8, 9, 10, 5, 11] (by decide +kernel) (by decide +kernel)) (goodIn_sub (fun _ h => List.mem_cons_of_mem _ (List.mem_append_right _ h)) (by decide +kernel))
set_option maxRecDepth 20000 in
theorem gX6_load_X6_checkReviewer : GoodIn wsX6_load (wsV RX6 98 RX6 yX6_checkReviewer wsX6_checkReviewer) := goodIn_app (goodIn_of _ (by decide +kernel)) ggX6_load_X6_checkReviewer
set_option maxRecDepth 20000 in
theorem ggX6_load_X5_loadWithout : GoodIn wsX6_load wsX5_loadWithout := goodIn_r _ [16, 17, 18, 19, 20, 27, 28, 29, 30, 31, 32, 33, 34, 35, 36, 37, 38, 39, 40] (by decide +kernel) (by decide +kernel)
set_option maxRecDepth 20000 in
theorem gX6_load_X5_loadWithout : GoodIn wsX6_load (wsV RX6 203 RX5 yX5_loadWithout wsX5_loadWithout) := goodIn_app (goodIn_of _ (by decide +kernel)) ggX6_load_X5_loadWithout
theorem dX6_load_0 : decode cX6_load 0 = .ok (.aload_n 0, 1) := by decide +kernel
theorem dX6_load_1 : decode cX6_load 1 = .ok (.iload_n 1, 1) := by decide +kernel
theorem dX6_load_2 : decode cX6_load 2 = .ok (.invokevirtual 98, 3) := by decide +kernel
theorem dX6_load_5 : decode cX6_load 5 = .ok (.aload_n 0, 1) := by decide +kernel
theorem dX6_load_6 : decode cX6_load 6 = .ok (.getfield 37, 3) := by decide +kernel
theorem dX6_load_9 : decode cX6_load 9 = .ok (.iload_n 1, 1) := by decide +kernel
theorem dX6_load_10 : decode cX6_load 10 = .ok (.iconst (-1), 1) := by decide +kernel
theorem dX6_load_11 : decode cX6_load 11 = .ok (.invokevirtual 203, 3) := by decide +kernel
theorem dX6_load_14 : decode cX6_load 14 = .ok (.ireturn, 1) := by decide +kernel
set_option maxRecDepth 20000 in
theorem ggX6_fewest_X6_checkOpen : GoodIn wsX6_fewest wsX6_checkOpen := goodIn_ca (goodIn_ca (goodIn_r _ [6, 7, 8, 1, 9, 10, 11, 12, 5, 13, 14, 15, 16, 17, 18, 19, 75, 76, 77, 78, 79, 80, 81, 82, 83, 84, 85, 86, 87, 88, 89, 90, 91, 92] (by decide +kernel) (by decide +kernel)) (goodIn_sub (fun _ h => List.mem_cons_of_mem _ (List.mem_append_left _ (List.mem_append_right _ h))) (by decide +kernel))) (goodIn_sub (fun _ h => List.mem_cons_of_mem _ (List.mem_append_right _ h)) (by decide +kernel))
set_option maxRecDepth 20000 in
theorem gX6_fewest_X6_checkOpen : GoodIn wsX6_fewest (wsV RX6 140 RX6 yX6_checkOpen wsX6_checkOpen) := goodIn_app (goodIn_of _ (by decide +kernel)) ggX6_fewest_X6_checkOpen
set_option maxRecDepth 20000 in
theorem ggX6_fewest_X4_bitOf : GoodIn wsX6_fewest wsX4_bitOf := goodIn_r _ [24, 25, 26, 81, 82, 83, 84, 85, 86, 87, 88, 89, 90, 91, 92] (by decide +kernel) (by decide +kernel)
set_option maxRecDepth 20000 in
theorem gX6_fewest_X4_bitOf : GoodIn wsX6_fewest (wsV RX6 134 RX4 yX4_bitOf wsX4_bitOf) := goodIn_app (goodIn_of _ (by decide +kernel)) ggX6_fewest_X4_bitOf
set_option maxRecDepth 20000 in
theorem ggX6_fewest_X0_byNeeds : GoodIn wsX6_fewest wsX0_byNeeds := goodIn_r _ [30, 31, 32, 33, 34, 35, 36, 23, 37, 38, 39, 40, 41, 42, 25, 43, 44, 26, 45, 46, 47, 48, 49, 50, 51, 52, 53, 54, 55, 56, 57, 58, 59, 60, 61, 62, 63, 64, 65, 66, 67, 68, 69, 70, 18, 5, 19, 71, 72, 73, 74, 81, 82, 83, 84, 85, 86, 87, 88, 89, 90, 91, 92, 93, 94, 95, 96, 97, 98, 99, 100] (by decide +kernel) (by decide +kernel)
set_option maxRecDepth 20000 in
theorem gX6_fewest_X0_byNeeds : GoodIn wsX6_fewest (va_wsS RX6 207 yX0_byNeeds wsX0_byNeeds) := goodIn_app (goodIn_of _ (by decide +kernel)) ggX6_fewest_X0_byNeeds
theorem dX6_fewest_0 : decode cX6_fewest 0 = .ok (.aload_n 0, 1) := by decide +kernel
theorem dX6_fewest_1 : decode cX6_fewest 1 = .ok (.iload_n 1, 1) := by decide +kernel
theorem dX6_fewest_2 : decode cX6_fewest 2 = .ok (.invokevirtual 140, 3) := by decide +kernel
theorem dX6_fewest_5 : decode cX6_fewest 5 = .ok (.aload_n 0, 1) := by decide +kernel
theorem dX6_fewest_6 : decode cX6_fewest 6 = .ok (.getfield 28, 3) := by decide +kernel
theorem dX6_fewest_9 : decode cX6_fewest 9 = .ok (.aload_n 0, 1) := by decide +kernel
theorem dX6_fewest_10 : decode cX6_fewest 10 = .ok (.getfield 28, 3) := by decide +kernel
theorem dX6_fewest_13 : decode cX6_fewest 13 = .ok (.iload_n 1, 1) := by decide +kernel
theorem dX6_fewest_14 : decode cX6_fewest 14 = .ok (.invokevirtual 134, 3) := by decide +kernel
theorem dX6_fewest_17 : decode cX6_fewest 17 = .ok (.invokestatic 207, 3) := by decide +kernel
theorem dX6_fewest_20 : decode cX6_fewest 20 = .ok (.ireturn, 1) := by decide +kernel
set_option maxRecDepth 20000 in
theorem ggX6_fewestAnew_X6_checkOpen : GoodIn wsX6_fewestAnew wsX6_checkOpen := goodIn_ca (goodIn_ca (goodIn_r _ [6, 7, 8, 1, 9, 10, 11, 12, 5, 13, 14, 15, 16, 17, 18, 19, 76, 77, 78, 79, 80, 81, 82, 83, 84, 85, 86, 87, 88, 89, 90, 91, 92, 93] (by decide +kernel) (by decide +kernel)) (goodIn_sub (fun _ h => List.mem_cons_of_mem _ (List.mem_append_left _ (List.mem_append_right _ h))) (by decide +kernel))) (goodIn_sub (fun _ h => List.mem_cons_of_mem _ (List.mem_append_right _ h)) (by decide +kernel))
set_option maxRecDepth 20000 in
theorem gX6_fewestAnew_X6_checkOpen : GoodIn wsX6_fewestAnew (wsV RX6 140 RX6 yX6_checkOpen wsX6_checkOpen) := goodIn_app (goodIn_of _ (by decide +kernel)) ggX6_fewestAnew_X6_checkOpen
set_option maxRecDepth 20000 in
theorem ggX6_fewestAnew_X4_bitOf : GoodIn wsX6_fewestAnew wsX4_bitOf := goodIn_r _ [24, 25, 26, 82, 83, 84, 85, 86, 87, 88, 89, 90, 91, 92, 93] (by decide +kernel) (by decide +kernel)
set_option maxRecDepth 20000 in
theorem gX6_fewestAnew_X4_bitOf : GoodIn wsX6_fewestAnew (wsV RX6 134 RX4 yX4_bitOf wsX4_bitOf) := goodIn_app (goodIn_of _ (by decide +kernel)) ggX6_fewestAnew_X4_bitOf
set_option maxRecDepth 20000 in
theorem ggX6_fewestAnew_X0_byAllSets : GoodIn wsX6_fewestAnew wsX0_byAllSets := goodIn_r _ [30, 31, 32, 33, 34, 35, 36, 37, 38, 39, 40, 41, 23, 42, 43, 44, 45, 46, 47, 25, 48, 49, 26, 50, 51, 52, 53, 54, 55, 56, 57, 58, 59, 60, 61, 62, 63, 64, 65, 66, 67, 68, 69, 70, 71, 72, 73, 74, 75, 18, 5, 19, 82, 83, 84, 85, 86, 87, 88, 89, 90, 91, 92, 93, 94, 95, 96, 97, 98, 99, 100, 101] (by decide +kernel) (by decide +kernel)
set_option maxRecDepth 20000 in
theorem gX6_fewestAnew_X0_byAllSets : GoodIn wsX6_fewestAnew (va_wsS RX6 213 yX0_byAllSets wsX0_byAllSets) := goodIn_app (goodIn_of _ (by decide +kernel)) ggX6_fewestAnew_X0_byAllSets
theorem dX6_fewestAnew_0 : decode cX6_fewestAnew 0 = .ok (.aload_n 0, 1) := by decide +kernel
theorem dX6_fewestAnew_1 : decode cX6_fewestAnew 1 = .ok (.iload_n 1, 1) := by decide +kernel
theorem dX6_fewestAnew_2 : decode cX6_fewestAnew 2 = .ok (.invokevirtual 140, 3) := by decide +kernel
theorem dX6_fewestAnew_5 : decode cX6_fewestAnew 5 = .ok (.aload_n 0, 1) := by decide +kernel
theorem dX6_fewestAnew_6 : decode cX6_fewestAnew 6 = .ok (.getfield 28, 3) := by decide +kernel
theorem dX6_fewestAnew_9 : decode cX6_fewestAnew 9 = .ok (.aload_n 0, 1) := by decide +kernel
theorem dX6_fewestAnew_10 : decode cX6_fewestAnew 10 = .ok (.getfield 28, 3) := by decide +kernel
theorem dX6_fewestAnew_13 : decode cX6_fewestAnew 13 = .ok (.iload_n 1, 1) := by decide +kernel
theorem dX6_fewestAnew_14 : decode cX6_fewestAnew 14 = .ok (.invokevirtual 134, 3) := by decide +kernel
theorem dX6_fewestAnew_17 : decode cX6_fewestAnew 17 = .ok (.invokestatic 213, 3) := by decide +kernel
theorem dX6_fewestAnew_20 : decode cX6_fewestAnew 20 = .ok (.ireturn, 1) := by decide +kernel
set_option maxRecDepth 20000 in
theorem ggX6_told_X6_checkOpen : GoodIn wsX6_told wsX6_checkOpen := goodIn_ca (goodIn_ca (goodIn_r _ [10, 11, 12, 3, 13, 14, 15, 16, 9, 17, 1, 2, 18, 19, 20, 21, 37, 38, 39, 40, 41, 42, 43, 44, 45, 46, 47, 48, 49, 50, 51, 52, 53, 54] (by decide +kernel) (by decide +kernel)) (goodIn_sub (fun _ h => List.mem_cons_of_mem _ (List.mem_append_right _ h)) (by decide +kernel))) (goodIn_sub (fun _ h => List.mem_cons_of_mem _ (List.mem_append_left _ (List.mem_append_right _ h))) (by decide +kernel))
set_option maxRecDepth 20000 in
theorem gX6_told_X6_checkOpen : GoodIn wsX6_told (wsV RX6 140 RX6 yX6_checkOpen wsX6_checkOpen) := goodIn_app (goodIn_of _ (by decide +kernel)) ggX6_told_X6_checkOpen
set_option maxRecDepth 20000 in
theorem ggX6_told_X4_groupOf : GoodIn wsX6_told wsX4_groupOf := goodIn_r _ [26, 27, 28, 29, 43, 44, 45, 46, 47, 48, 49, 50, 51, 52, 53, 54] (by decide +kernel) (by decide +kernel)
set_option maxRecDepth 20000 in
theorem gX6_told_X4_groupOf : GoodIn wsX6_told (wsV RX6 151 RX4 yX4_groupOf wsX4_groupOf) := goodIn_app (goodIn_of _ (by decide +kernel)) ggX6_told_X4_groupOf
set_option maxRecDepth 20000 in
theorem ggX6_told_J6_bitCount_0f7a4 : GoodIn wsX6_told wsJ6_bitCount_0f7a4 := goodIn_r _ [33, 34, 35, 36] (by decide +kernel) (by decide +kernel)
set_option maxRecDepth 20000 in
theorem gX6_told_J6_bitCount_0f7a4 : GoodIn wsX6_told (va_wsS RX6 160 yJ6_bitCount_0f7a4 wsJ6_bitCount_0f7a4) := goodIn_app (goodIn_of _ (by decide +kernel)) ggX6_told_J6_bitCount_0f7a4
theorem dX6_told_0 : decode cX6_told 0 = .ok (.iload_n 2, 1) := by decide +kernel
theorem dX6_told_1 : decode cX6_told 1 = .ok (.ifCond .ge 13, 3) := by decide +kernel
theorem dX6_told_4 : decode cX6_told 4 = .ok (.new 216, 3) := by decide +kernel
theorem dX6_told_7 : decode cX6_told 7 = .ok (.dup, 1) := by decide +kernel
theorem dX6_told_8 : decode cX6_told 8 = .ok (.ldc 218, 2) := by decide +kernel
theorem dX6_told_10 : decode cX6_told 10 = .ok (.invokespecial 220, 3) := by decide +kernel
theorem dX6_told_13 : decode cX6_told 13 = .ok (.athrow, 1) := by decide +kernel
theorem dX6_told_14 : decode cX6_told 14 = .ok (.aload_n 0, 1) := by decide +kernel
theorem dX6_told_15 : decode cX6_told 15 = .ok (.iload_n 1, 1) := by decide +kernel
theorem dX6_told_16 : decode cX6_told 16 = .ok (.invokevirtual 140, 3) := by decide +kernel
theorem dX6_told_19 : decode cX6_told 19 = .ok (.iload_n 2, 1) := by decide +kernel
theorem dX6_told_20 : decode cX6_told 20 = .ok (.ifCond .ne 17, 3) := by decide +kernel
theorem dX6_told_23 : decode cX6_told 23 = .ok (.bipush 65, 2) := by decide +kernel
theorem dX6_told_25 : decode cX6_told 25 = .ok (.aload_n 0, 1) := by decide +kernel
theorem dX6_told_26 : decode cX6_told 26 = .ok (.getfield 28, 3) := by decide +kernel
theorem dX6_told_29 : decode cX6_told 29 = .ok (.getfield 191, 3) := by decide +kernel
theorem dX6_told_32 : decode cX6_told 32 = .ok (.iload_n 1, 1) := by decide +kernel
theorem dX6_told_33 : decode cX6_told 33 = .ok (.iaload, 1) := by decide +kernel
theorem dX6_told_34 : decode cX6_told 34 = .ok (.iadd, 1) := by decide +kernel
theorem dX6_told_35 : decode cX6_told 35 = .ok (.i2c, 1) := by decide +kernel
theorem dX6_told_36 : decode cX6_told 36 = .ok (.ireturn, 1) := by decide +kernel
theorem dX6_told_37 : decode cX6_told 37 = .ok (.iload_n 2, 1) := by decide +kernel
theorem dX6_told_38 : decode cX6_told 38 = .ok (.iconst 1, 1) := by decide +kernel
theorem dX6_told_39 : decode cX6_told 39 = .ok (.if_icmp .ne 20, 3) := by decide +kernel
theorem dX6_told_42 : decode cX6_told 42 = .ok (.bipush 48, 2) := by decide +kernel
theorem dX6_told_44 : decode cX6_told 44 = .ok (.aload_n 0, 1) := by decide +kernel
theorem dX6_told_45 : decode cX6_told 45 = .ok (.getfield 28, 3) := by decide +kernel
theorem dX6_told_48 : decode cX6_told 48 = .ok (.getfield 194, 3) := by decide +kernel
theorem dX6_told_51 : decode cX6_told 51 = .ok (.iload_n 1, 1) := by decide +kernel
theorem dX6_told_52 : decode cX6_told 52 = .ok (.iaload, 1) := by decide +kernel
theorem dX6_told_53 : decode cX6_told 53 = .ok (.bipush 10, 2) := by decide +kernel
theorem dX6_told_55 : decode cX6_told 55 = .ok (.idiv, 1) := by decide +kernel
theorem dX6_told_56 : decode cX6_told 56 = .ok (.iadd, 1) := by decide +kernel
theorem dX6_told_57 : decode cX6_told 57 = .ok (.i2c, 1) := by decide +kernel
theorem dX6_told_58 : decode cX6_told 58 = .ok (.ireturn, 1) := by decide +kernel
theorem dX6_told_59 : decode cX6_told 59 = .ok (.iload_n 2, 1) := by decide +kernel
theorem dX6_told_60 : decode cX6_told 60 = .ok (.iconst 2, 1) := by decide +kernel
theorem dX6_told_61 : decode cX6_told 61 = .ok (.if_icmp .ne 20, 3) := by decide +kernel
theorem dX6_told_64 : decode cX6_told 64 = .ok (.bipush 48, 2) := by decide +kernel
theorem dX6_told_66 : decode cX6_told 66 = .ok (.aload_n 0, 1) := by decide +kernel
theorem dX6_told_67 : decode cX6_told 67 = .ok (.getfield 28, 3) := by decide +kernel
theorem dX6_told_70 : decode cX6_told 70 = .ok (.getfield 194, 3) := by decide +kernel
theorem dX6_told_73 : decode cX6_told 73 = .ok (.iload_n 1, 1) := by decide +kernel
theorem dX6_told_74 : decode cX6_told 74 = .ok (.iaload, 1) := by decide +kernel
theorem dX6_told_75 : decode cX6_told 75 = .ok (.bipush 10, 2) := by decide +kernel
theorem dX6_told_77 : decode cX6_told 77 = .ok (.irem, 1) := by decide +kernel
theorem dX6_told_78 : decode cX6_told 78 = .ok (.iadd, 1) := by decide +kernel
theorem dX6_told_79 : decode cX6_told 79 = .ok (.i2c, 1) := by decide +kernel
theorem dX6_told_80 : decode cX6_told 80 = .ok (.ireturn, 1) := by decide +kernel
theorem dX6_told_81 : decode cX6_told 81 = .ok (.aload_n 0, 1) := by decide +kernel
theorem dX6_told_82 : decode cX6_told 82 = .ok (.getfield 28, 3) := by decide +kernel
theorem dX6_told_85 : decode cX6_told 85 = .ok (.iload_n 1, 1) := by decide +kernel
theorem dX6_told_86 : decode cX6_told 86 = .ok (.invokevirtual 151, 3) := by decide +kernel
theorem dX6_told_89 : decode cX6_told 89 = .ok (.invokestatic 160, 3) := by decide +kernel
theorem dX6_told_92 : decode cX6_told 92 = .ok (.iconst 1, 1) := by decide +kernel
theorem dX6_told_93 : decode cX6_told 93 = .ok (.isub, 1) := by decide +kernel
theorem dX6_told_94 : decode cX6_told 94 = .ok (.istore_n 3, 1) := by decide +kernel
theorem dX6_told_95 : decode cX6_told 95 = .ok (.iload_n 2, 1) := by decide +kernel
theorem dX6_told_96 : decode cX6_told 96 = .ok (.iconst 3, 1) := by decide +kernel
theorem dX6_told_97 : decode cX6_told 97 = .ok (.iload_n 3, 1) := by decide +kernel
theorem dX6_told_98 : decode cX6_told 98 = .ok (.iadd, 1) := by decide +kernel
theorem dX6_told_99 : decode cX6_told 99 = .ok (.if_icmp .ge 8, 3) := by decide +kernel
theorem dX6_told_102 : decode cX6_told 102 = .ok (.bipush 43, 2) := by decide +kernel
theorem dX6_told_104 : decode cX6_told 104 = .ok (.goto 4, 3) := by decide +kernel
theorem dX6_told_107 : decode cX6_told 107 = .ok (.iconst 0, 1) := by decide +kernel
theorem dX6_told_108 : decode cX6_told 108 = .ok (.ireturn, 1) := by decide +kernel
theorem dX6_isWithin_0 : decode cX6_isWithin 0 = .ok (.iload_n 0, 1) := by decide +kernel
theorem dX6_isWithin_1 : decode cX6_isWithin 1 = .ok (.iload_n 1, 1) := by decide +kernel
theorem dX6_isWithin_2 : decode cX6_isWithin 2 = .ok (.if_icmp .lt 12, 3) := by decide +kernel
theorem dX6_isWithin_5 : decode cX6_isWithin 5 = .ok (.iload_n 0, 1) := by decide +kernel
theorem dX6_isWithin_6 : decode cX6_isWithin 6 = .ok (.iload_n 2, 1) := by decide +kernel
theorem dX6_isWithin_7 : decode cX6_isWithin 7 = .ok (.if_icmp .gt 7, 3) := by decide +kernel
theorem dX6_isWithin_10 : decode cX6_isWithin 10 = .ok (.iconst 1, 1) := by decide +kernel
theorem dX6_isWithin_11 : decode cX6_isWithin 11 = .ok (.goto 4, 3) := by decide +kernel
theorem dX6_isWithin_14 : decode cX6_isWithin 14 = .ok (.iconst 0, 1) := by decide +kernel
theorem dX6_isWithin_15 : decode cX6_isWithin 15 = .ok (.ireturn, 1) := by decide +kernel
set_option maxRecDepth 20000 in
theorem ggX6_checkPackage_X6_isWithin : GoodIn wsX6_checkPackage wsX6_isWithin := goodIn_r _ [8] (by decide +kernel) (by decide +kernel)
set_option maxRecDepth 20000 in
theorem gX6_checkPackage_X6_isWithin : GoodIn wsX6_checkPackage (va_wsS RX6 54 yX6_isWithin wsX6_isWithin) := goodIn_app (goodIn_of _ (by decide +kernel)) ggX6_checkPackage_X6_isWithin
theorem dX6_checkPackage_0 : decode cX6_checkPackage 0 = .ok (.iload_n 1, 1) := by decide +kernel
theorem dX6_checkPackage_1 : decode cX6_checkPackage 1 = .ok (.iconst 0, 1) := by decide +kernel
theorem dX6_checkPackage_2 : decode cX6_checkPackage 2 = .ok (.aload_n 0, 1) := by decide +kernel
theorem dX6_checkPackage_3 : decode cX6_checkPackage 3 = .ok (.getfield 10, 3) := by decide +kernel
theorem dX6_checkPackage_6 : decode cX6_checkPackage 6 = .ok (.getfield 65, 3) := by decide +kernel
theorem dX6_checkPackage_9 : decode cX6_checkPackage 9 = .ok (.iconst 1, 1) := by decide +kernel
theorem dX6_checkPackage_10 : decode cX6_checkPackage 10 = .ok (.isub, 1) := by decide +kernel
theorem dX6_checkPackage_11 : decode cX6_checkPackage 11 = .ok (.invokestatic 54, 3) := by decide +kernel
theorem dX6_checkPackage_14 : decode cX6_checkPackage 14 = .ok (.ifCond .ne 13, 3) := by decide +kernel
theorem dX6_checkPackage_17 : decode cX6_checkPackage 17 = .ok (.new 216, 3) := by decide +kernel
theorem dX6_checkPackage_20 : decode cX6_checkPackage 20 = .ok (.dup, 1) := by decide +kernel
theorem dX6_checkPackage_21 : decode cX6_checkPackage 21 = .ok (.ldc 221, 2) := by decide +kernel
theorem dX6_checkPackage_23 : decode cX6_checkPackage 23 = .ok (.invokespecial 220, 3) := by decide +kernel
theorem dX6_checkPackage_26 : decode cX6_checkPackage 26 = .ok (.athrow, 1) := by decide +kernel
theorem dX6_checkPackage_27 : decode cX6_checkPackage 27 = .ok (.return_, 1) := by decide +kernel
set_option maxRecDepth 20000 in
theorem ggX6_checkReviewer_X6_isWithin : GoodIn wsX6_checkReviewer wsX6_isWithin := goodIn_r _ [6] (by decide +kernel) (by decide +kernel)
set_option maxRecDepth 20000 in
theorem gX6_checkReviewer_X6_isWithin : GoodIn wsX6_checkReviewer (va_wsS RX6 54 yX6_isWithin wsX6_isWithin) := goodIn_app (goodIn_of _ (by decide +kernel)) ggX6_checkReviewer_X6_isWithin
theorem dX6_checkReviewer_0 : decode cX6_checkReviewer 0 = .ok (.iload_n 1, 1) := by decide +kernel
theorem dX6_checkReviewer_1 : decode cX6_checkReviewer 1 = .ok (.iconst 0, 1) := by decide +kernel
theorem dX6_checkReviewer_2 : decode cX6_checkReviewer 2 = .ok (.iconst 5, 1) := by decide +kernel
theorem dX6_checkReviewer_3 : decode cX6_checkReviewer 3 = .ok (.invokestatic 54, 3) := by decide +kernel
theorem dX6_checkReviewer_6 : decode cX6_checkReviewer 6 = .ok (.ifCond .ne 13, 3) := by decide +kernel
theorem dX6_checkReviewer_9 : decode cX6_checkReviewer 9 = .ok (.new 216, 3) := by decide +kernel
theorem dX6_checkReviewer_12 : decode cX6_checkReviewer 12 = .ok (.dup, 1) := by decide +kernel
theorem dX6_checkReviewer_13 : decode cX6_checkReviewer 13 = .ok (.ldc 223, 2) := by decide +kernel
theorem dX6_checkReviewer_15 : decode cX6_checkReviewer 15 = .ok (.invokespecial 220, 3) := by decide +kernel
theorem dX6_checkReviewer_18 : decode cX6_checkReviewer 18 = .ok (.athrow, 1) := by decide +kernel
theorem dX6_checkReviewer_19 : decode cX6_checkReviewer 19 = .ok (.return_, 1) := by decide +kernel
set_option maxRecDepth 20000 in
theorem ggX6_checkRaise_X6_isWithin : GoodIn wsX6_checkRaise wsX6_isWithin := goodIn_r _ [8] (by decide +kernel) (by decide +kernel)
set_option maxRecDepth 20000 in
theorem gX6_checkRaise_X6_isWithin : GoodIn wsX6_checkRaise (va_wsS RX6 54 yX6_isWithin wsX6_isWithin) := goodIn_app (goodIn_of _ (by decide +kernel)) ggX6_checkRaise_X6_isWithin
theorem dX6_checkRaise_0 : decode cX6_checkRaise 0 = .ok (.iload_n 1, 1) := by decide +kernel
theorem dX6_checkRaise_1 : decode cX6_checkRaise 1 = .ok (.iconst 0, 1) := by decide +kernel
theorem dX6_checkRaise_2 : decode cX6_checkRaise 2 = .ok (.aload_n 0, 1) := by decide +kernel
theorem dX6_checkRaise_3 : decode cX6_checkRaise 3 = .ok (.getfield 28, 3) := by decide +kernel
theorem dX6_checkRaise_6 : decode cX6_checkRaise 6 = .ok (.getfield 129, 3) := by decide +kernel
theorem dX6_checkRaise_9 : decode cX6_checkRaise 9 = .ok (.iconst 1, 1) := by decide +kernel
theorem dX6_checkRaise_10 : decode cX6_checkRaise 10 = .ok (.isub, 1) := by decide +kernel
theorem dX6_checkRaise_11 : decode cX6_checkRaise 11 = .ok (.invokestatic 54, 3) := by decide +kernel
theorem dX6_checkRaise_14 : decode cX6_checkRaise 14 = .ok (.ifCond .ne 13, 3) := by decide +kernel
theorem dX6_checkRaise_17 : decode cX6_checkRaise 17 = .ok (.new 216, 3) := by decide +kernel
theorem dX6_checkRaise_20 : decode cX6_checkRaise 20 = .ok (.dup, 1) := by decide +kernel
theorem dX6_checkRaise_21 : decode cX6_checkRaise 21 = .ok (.ldc 225, 2) := by decide +kernel
theorem dX6_checkRaise_23 : decode cX6_checkRaise 23 = .ok (.invokespecial 220, 3) := by decide +kernel
theorem dX6_checkRaise_26 : decode cX6_checkRaise 26 = .ok (.athrow, 1) := by decide +kernel
theorem dX6_checkRaise_27 : decode cX6_checkRaise 27 = .ok (.return_, 1) := by decide +kernel
set_option maxRecDepth 20000 in
theorem ggX6_checkOpen_X6_checkRaise : GoodIn wsX6_checkOpen wsX6_checkRaise := goodIn_ca (goodIn_r _ [9, 10, 11, 3, 12, 13, 14, 8, 15, 16, 17, 18, 19, 20, 21, 22, 23, 24, 25, 26, 27, 28, 29, 30, 31, 32, 33] (by decide +kernel) (by decide +kernel)) (goodIn_sub (fun _ h => List.mem_cons_of_mem _ (List.mem_append_right _ h)) (by decide +kernel))
set_option maxRecDepth 20000 in
theorem gX6_checkOpen_X6_checkRaise : GoodIn wsX6_checkOpen (wsV RX6 185 RX6 yX6_checkRaise wsX6_checkRaise) := goodIn_app (goodIn_of _ (by decide +kernel)) ggX6_checkOpen_X6_checkRaise
theorem dX6_checkOpen_0 : decode cX6_checkOpen 0 = .ok (.aload_n 0, 1) := by decide +kernel
theorem dX6_checkOpen_1 : decode cX6_checkOpen 1 = .ok (.iload_n 1, 1) := by decide +kernel
theorem dX6_checkOpen_2 : decode cX6_checkOpen 2 = .ok (.invokevirtual 185, 3) := by decide +kernel
theorem dX6_checkOpen_5 : decode cX6_checkOpen 5 = .ok (.aload_n 0, 1) := by decide +kernel
theorem dX6_checkOpen_6 : decode cX6_checkOpen 6 = .ok (.getfield 28, 3) := by decide +kernel
theorem dX6_checkOpen_9 : decode cX6_checkOpen 9 = .ok (.getfield 188, 3) := by decide +kernel
theorem dX6_checkOpen_12 : decode cX6_checkOpen 12 = .ok (.iload_n 1, 1) := by decide +kernel
theorem dX6_checkOpen_13 : decode cX6_checkOpen 13 = .ok (.iaload, 1) := by decide +kernel
theorem dX6_checkOpen_14 : decode cX6_checkOpen 14 = .ok (.ifCond .eq 13, 3) := by decide +kernel
theorem dX6_checkOpen_17 : decode cX6_checkOpen 17 = .ok (.new 68, 3) := by decide +kernel
theorem dX6_checkOpen_20 : decode cX6_checkOpen 20 = .ok (.dup, 1) := by decide +kernel
theorem dX6_checkOpen_21 : decode cX6_checkOpen 21 = .ok (.ldc 227, 2) := by decide +kernel
theorem dX6_checkOpen_23 : decode cX6_checkOpen 23 = .ok (.invokespecial 72, 3) := by decide +kernel
theorem dX6_checkOpen_26 : decode cX6_checkOpen 26 = .ok (.athrow, 1) := by decide +kernel
theorem dX6_checkOpen_27 : decode cX6_checkOpen 27 = .ok (.return_, 1) := by decide +kernel
set_option maxRecDepth 20000 in
theorem ggX6_isLandable_X4_failing : GoodIn wsX6_isLandable wsX4_failing := goodIn_r _ [8, 9, 10, 11, 12, 7, 13, 14, 15, 16, 17, 18, 19, 20, 21, 22, 23, 24, 25, 26, 27, 28, 29, 30, 31, 32, 33, 34, 35, 36, 37, 38, 39, 40, 41, 42, 43, 44, 45, 46, 71, 72, 73, 74, 75, 76, 77, 78, 79, 80, 81, 82, 83, 84, 85, 86, 87, 88, 89, 90] (by decide +kernel) (by decide +kernel)
set_option maxRecDepth 20000 in
theorem gX6_isLandable_X4_failing : GoodIn wsX6_isLandable (wsV RX6 200 RX4 yX4_failing wsX4_failing) := goodIn_app (goodIn_of _ (by decide +kernel)) ggX6_isLandable_X4_failing
set_option maxRecDepth 20000 in
theorem ggX6_isLandable_X4_areApproved : GoodIn wsX6_isLandable wsX4_areApproved := goodIn_r _ [50, 14, 51, 17, 27, 28, 29, 7, 30, 71, 72, 73, 74, 75, 76, 77, 78, 79, 80, 81, 82] (by decide +kernel) (by decide +kernel)
set_option maxRecDepth 20000 in
theorem gX6_isLandable_X4_areApproved : GoodIn wsX6_isLandable (wsV RX6 229 RX4 yX4_areApproved wsX4_areApproved) := goodIn_app (goodIn_of _ (by decide +kernel)) ggX6_isLandable_X4_areApproved
set_option maxRecDepth 20000 in
theorem ggX6_isLandable_X4_packagesOf : GoodIn wsX6_isLandable wsX4_packagesOf := goodIn_r _ [55, 14, 16, 17, 27, 28, 29, 7, 30, 71, 72, 73, 74, 75, 76, 77, 78, 79, 80, 81, 82] (by decide +kernel) (by decide +kernel)
set_option maxRecDepth 20000 in
theorem gX6_isLandable_X4_packagesOf : GoodIn wsX6_isLandable (wsV RX6 232 RX4 yX4_packagesOf wsX4_packagesOf) := goodIn_app (goodIn_of _ (by decide +kernel)) ggX6_isLandable_X4_packagesOf
set_option maxRecDepth 20000 in
theorem ggX6_isLandable_X1_isFrozen : GoodIn wsX6_isLandable wsX1_isFrozen := goodIn_r _ [60, 61, 62, 63, 64, 44, 45, 46, 91, 92, 93, 94] (by decide +kernel) (by decide +kernel)
set_option maxRecDepth 20000 in
theorem gX6_isLandable_X1_isFrozen : GoodIn wsX6_isLandable (wsV RX6 235 RX1 yX1_isFrozen wsX1_isFrozen) := goodIn_app (goodIn_of _ (by decide +kernel)) ggX6_isLandable_X1_isFrozen
theorem dX6_isLandable_0 : decode cX6_isLandable 0 = .ok (.aload_n 0, 1) := by decide +kernel
theorem dX6_isLandable_1 : decode cX6_isLandable 1 = .ok (.getfield 28, 3) := by decide +kernel
theorem dX6_isLandable_4 : decode cX6_isLandable 4 = .ok (.iload_n 1, 1) := by decide +kernel
theorem dX6_isLandable_5 : decode cX6_isLandable 5 = .ok (.invokevirtual 200, 3) := by decide +kernel
theorem dX6_isLandable_8 : decode cX6_isLandable 8 = .ok (.ifCond .ne 40, 3) := by decide +kernel
theorem dX6_isLandable_11 : decode cX6_isLandable 11 = .ok (.aload_n 0, 1) := by decide +kernel
theorem dX6_isLandable_12 : decode cX6_isLandable 12 = .ok (.getfield 28, 3) := by decide +kernel
theorem dX6_isLandable_15 : decode cX6_isLandable 15 = .ok (.iload_n 1, 1) := by decide +kernel
theorem dX6_isLandable_16 : decode cX6_isLandable 16 = .ok (.invokevirtual 229, 3) := by decide +kernel
theorem dX6_isLandable_19 : decode cX6_isLandable 19 = .ok (.ifCond .eq 29, 3) := by decide +kernel
theorem dX6_isLandable_22 : decode cX6_isLandable 22 = .ok (.aload_n 0, 1) := by decide +kernel
theorem dX6_isLandable_23 : decode cX6_isLandable 23 = .ok (.getfield 19, 3) := by decide +kernel
theorem dX6_isLandable_26 : decode cX6_isLandable 26 = .ok (.aload_n 0, 1) := by decide +kernel
theorem dX6_isLandable_27 : decode cX6_isLandable 27 = .ok (.getfield 28, 3) := by decide +kernel
theorem dX6_isLandable_30 : decode cX6_isLandable 30 = .ok (.iload_n 1, 1) := by decide +kernel
theorem dX6_isLandable_31 : decode cX6_isLandable 31 = .ok (.invokevirtual 232, 3) := by decide +kernel
theorem dX6_isLandable_34 : decode cX6_isLandable 34 = .ok (.aload_n 0, 1) := by decide +kernel
theorem dX6_isLandable_35 : decode cX6_isLandable 35 = .ok (.getfield 50, 3) := by decide +kernel
theorem dX6_isLandable_38 : decode cX6_isLandable 38 = .ok (.invokevirtual 235, 3) := by decide +kernel
theorem dX6_isLandable_41 : decode cX6_isLandable 41 = .ok (.ifCond .ne 7, 3) := by decide +kernel
theorem dX6_isLandable_44 : decode cX6_isLandable 44 = .ok (.iconst 1, 1) := by decide +kernel
theorem dX6_isLandable_45 : decode cX6_isLandable 45 = .ok (.goto 4, 3) := by decide +kernel
theorem dX6_isLandable_48 : decode cX6_isLandable 48 = .ok (.iconst 0, 1) := by decide +kernel
theorem dX6_isLandable_49 : decode cX6_isLandable 49 = .ok (.ireturn, 1) := by decide +kernel
