set_option maxRecDepth 20000 in
theorem ggX0_byNeeds_X4_firstFailing : GoodIn wsX0_byNeeds wsX4_firstFailing := goodIn_r _ [8, 9, 10, 11, 12, 7, 13, 14, 15, 16, 17, 18, 19, 20, 21, 22, 23, 24, 25, 26, 27, 28, 29, 30, 31, 32, 33, 34, 35, 36, 37, 38, 39, 40, 41, 42, 43, 44, 45, 46, 51, 52, 53, 54, 55, 56, 57, 58, 59, 60, 61, 62, 63, 64, 65, 66, 67, 68, 69, 70] (by decide +kernel) (by decide +kernel)
set_option maxRecDepth 20000 in
theorem gX0_byNeeds_X4_firstFailing : GoodIn wsX0_byNeeds (wsV RX0 9 RX4 yX4_firstFailing wsX4_firstFailing) := goodIn_app (goodIn_of _ (by decide +kernel)) ggX0_byNeeds_X4_firstFailing
set_option maxRecDepth 20000 in
theorem ggX0_byNeeds_X4_bitOfPackage : GoodIn wsX0_byNeeds wsX4_bitOfPackage := goodIn_r _ [50, 14, 16, 17, 51, 52, 53, 54, 55, 56, 57, 58, 59, 60, 61, 62] (by decide +kernel) (by decide +kernel)
set_option maxRecDepth 20000 in
theorem gX0_byNeeds_X4_bitOfPackage : GoodIn wsX0_byNeeds (wsV RX0 25 RX4 yX4_bitOfPackage wsX4_bitOfPackage) := goodIn_app (goodIn_of _ (by decide +kernel)) ggX0_byNeeds_X4_bitOfPackage
theorem dX0_byNeeds_0 : decode cX0_byNeeds 0 = .ok (.iload_n 1, 1) := by decide +kernel
theorem dX0_byNeeds_1 : decode cX0_byNeeds 1 = .ok (.istore_n 2, 1) := by decide +kernel
theorem dX0_byNeeds_2 : decode cX0_byNeeds 2 = .ok (.iconst 0, 1) := by decide +kernel
theorem dX0_byNeeds_3 : decode cX0_byNeeds 3 = .ok (.istore_n 3, 1) := by decide +kernel
theorem dX0_byNeeds_4 : decode cX0_byNeeds 4 = .ok (.iload_n 3, 1) := by decide +kernel
theorem dX0_byNeeds_5 : decode cX0_byNeeds 5 = .ok (.bipush 10, 2) := by decide +kernel
theorem dX0_byNeeds_7 : decode cX0_byNeeds 7 = .ok (.if_icmp .ge 70, 3) := by decide +kernel
theorem dX0_byNeeds_10 : decode cX0_byNeeds 10 = .ok (.aload_n 0, 1) := by decide +kernel
theorem dX0_byNeeds_11 : decode cX0_byNeeds 11 = .ok (.iload_n 2, 1) := by decide +kernel
theorem dX0_byNeeds_12 : decode cX0_byNeeds 12 = .ok (.invokevirtual 9, 3) := by decide +kernel
theorem dX0_byNeeds_15 : decode cX0_byNeeds 15 = .ok (.istore 4, 2) := by decide +kernel
theorem dX0_byNeeds_17 : decode cX0_byNeeds 17 = .ok (.iload 4, 2) := by decide +kernel
theorem dX0_byNeeds_19 : decode cX0_byNeeds 19 = .ok (.iconst (-1), 1) := by decide +kernel
theorem dX0_byNeeds_20 : decode cX0_byNeeds 20 = .ok (.if_icmp .ne 5, 3) := by decide +kernel
theorem dX0_byNeeds_23 : decode cX0_byNeeds 23 = .ok (.iload_n 2, 1) := by decide +kernel
theorem dX0_byNeeds_24 : decode cX0_byNeeds 24 = .ok (.ireturn, 1) := by decide +kernel
theorem dX0_byNeeds_25 : decode cX0_byNeeds 25 = .ok (.aload_n 0, 1) := by decide +kernel
theorem dX0_byNeeds_26 : decode cX0_byNeeds 26 = .ok (.aload_n 0, 1) := by decide +kernel
theorem dX0_byNeeds_27 : decode cX0_byNeeds 27 = .ok (.getfield 15, 3) := by decide +kernel
theorem dX0_byNeeds_30 : decode cX0_byNeeds 30 = .ok (.getfield 19, 3) := by decide +kernel
theorem dX0_byNeeds_33 : decode cX0_byNeeds 33 = .ok (.iload 4, 2) := by decide +kernel
theorem dX0_byNeeds_35 : decode cX0_byNeeds 35 = .ok (.iaload, 1) := by decide +kernel
theorem dX0_byNeeds_36 : decode cX0_byNeeds 36 = .ok (.invokevirtual 25, 3) := by decide +kernel
theorem dX0_byNeeds_39 : decode cX0_byNeeds 39 = .ok (.aload_n 0, 1) := by decide +kernel
theorem dX0_byNeeds_40 : decode cX0_byNeeds 40 = .ok (.aload_n 0, 1) := by decide +kernel
theorem dX0_byNeeds_41 : decode cX0_byNeeds 41 = .ok (.getfield 15, 3) := by decide +kernel
theorem dX0_byNeeds_44 : decode cX0_byNeeds 44 = .ok (.getfield 28, 3) := by decide +kernel
theorem dX0_byNeeds_47 : decode cX0_byNeeds 47 = .ok (.iload 4, 2) := by decide +kernel
theorem dX0_byNeeds_49 : decode cX0_byNeeds 49 = .ok (.iaload, 1) := by decide +kernel
theorem dX0_byNeeds_50 : decode cX0_byNeeds 50 = .ok (.invokevirtual 25, 3) := by decide +kernel
theorem dX0_byNeeds_53 : decode cX0_byNeeds 53 = .ok (.ior, 1) := by decide +kernel
theorem dX0_byNeeds_54 : decode cX0_byNeeds 54 = .ok (.istore 5, 2) := by decide +kernel
theorem dX0_byNeeds_56 : decode cX0_byNeeds 56 = .ok (.iload 5, 2) := by decide +kernel
theorem dX0_byNeeds_58 : decode cX0_byNeeds 58 = .ok (.iload_n 2, 1) := by decide +kernel
theorem dX0_byNeeds_59 : decode cX0_byNeeds 59 = .ok (.ior, 1) := by decide +kernel
theorem dX0_byNeeds_60 : decode cX0_byNeeds 60 = .ok (.iload_n 2, 1) := by decide +kernel
theorem dX0_byNeeds_61 : decode cX0_byNeeds 61 = .ok (.if_icmp .ne 5, 3) := by decide +kernel
theorem dX0_byNeeds_64 : decode cX0_byNeeds 64 = .ok (.iconst (-1), 1) := by decide +kernel
theorem dX0_byNeeds_65 : decode cX0_byNeeds 65 = .ok (.ireturn, 1) := by decide +kernel
theorem dX0_byNeeds_66 : decode cX0_byNeeds 66 = .ok (.iload_n 2, 1) := by decide +kernel
theorem dX0_byNeeds_67 : decode cX0_byNeeds 67 = .ok (.iload 5, 2) := by decide +kernel
theorem dX0_byNeeds_69 : decode cX0_byNeeds 69 = .ok (.ior, 1) := by decide +kernel
theorem dX0_byNeeds_70 : decode cX0_byNeeds 70 = .ok (.istore_n 2, 1) := by decide +kernel
theorem dX0_byNeeds_71 : decode cX0_byNeeds 71 = .ok (.iinc 3 1, 3) := by decide +kernel
theorem dX0_byNeeds_74 : decode cX0_byNeeds 74 = .ok (.goto (-70), 3) := by decide +kernel
theorem dX0_byNeeds_77 : decode cX0_byNeeds 77 = .ok (.iconst (-1), 1) := by decide +kernel
theorem dX0_byNeeds_78 : decode cX0_byNeeds 78 = .ok (.ireturn, 1) := by decide +kernel
set_option maxRecDepth 20000 in
theorem ggX0_byAllSets_J6_bitCount_0f7a4 : GoodIn wsX0_byAllSets wsJ6_bitCount_0f7a4 := goodIn_r _ [5, 6, 7, 8] (by decide +kernel) (by decide +kernel)
set_option maxRecDepth 20000 in
theorem gX0_byAllSets_J6_bitCount_0f7a4 : GoodIn wsX0_byAllSets (va_wsS RX0 35 yJ6_bitCount_0f7a4 wsJ6_bitCount_0f7a4) := goodIn_app (goodIn_of _ (by decide +kernel)) ggX0_byAllSets_J6_bitCount_0f7a4
set_option maxRecDepth 20000 in
theorem ggX0_byAllSets_X4_failing : GoodIn wsX0_byAllSets wsX4_failing := goodIn_r _ [13, 14, 15, 16, 17, 12, 18, 19, 20, 21, 22, 23, 24, 25, 26, 27, 28, 29, 30, 31, 32, 33, 34, 35, 36, 37, 38, 39, 40, 41, 42, 43, 44, 45, 46, 47, 48, 49, 50, 51, 52, 53, 54, 55, 56, 57, 58, 59, 60, 61, 62, 63, 64, 65, 66, 67, 68, 69, 70, 71] (by decide +kernel) (by decide +kernel)
set_option maxRecDepth 20000 in
theorem gX0_byAllSets_X4_failing : GoodIn wsX0_byAllSets (wsV RX0 40 RX4 yX4_failing wsX4_failing) := goodIn_app (goodIn_of _ (by decide +kernel)) ggX0_byAllSets_X4_failing
theorem dX0_byAllSets_0 : decode cX0_byAllSets 0 = .ok (.iconst (-1), 1) := by decide +kernel
theorem dX0_byAllSets_1 : decode cX0_byAllSets 1 = .ok (.istore_n 2, 1) := by decide +kernel
theorem dX0_byAllSets_2 : decode cX0_byAllSets 2 = .ok (.bipush 11, 2) := by decide +kernel
theorem dX0_byAllSets_4 : decode cX0_byAllSets 4 = .ok (.istore_n 3, 1) := by decide +kernel
theorem dX0_byAllSets_5 : decode cX0_byAllSets 5 = .ok (.iconst 0, 1) := by decide +kernel
theorem dX0_byAllSets_6 : decode cX0_byAllSets 6 = .ok (.istore 4, 2) := by decide +kernel
theorem dX0_byAllSets_8 : decode cX0_byAllSets 8 = .ok (.iload 4, 2) := by decide +kernel
theorem dX0_byAllSets_10 : decode cX0_byAllSets 10 = .ok (.iconst 1, 1) := by decide +kernel
theorem dX0_byAllSets_11 : decode cX0_byAllSets 11 = .ok (.aload_n 0, 1) := by decide +kernel
theorem dX0_byAllSets_12 : decode cX0_byAllSets 12 = .ok (.getfield 31, 3) := by decide +kernel
theorem dX0_byAllSets_15 : decode cX0_byAllSets 15 = .ok (.ishl, 1) := by decide +kernel
theorem dX0_byAllSets_16 : decode cX0_byAllSets 16 = .ok (.if_icmp .ge 43, 3) := by decide +kernel
theorem dX0_byAllSets_19 : decode cX0_byAllSets 19 = .ok (.iload 4, 2) := by decide +kernel
theorem dX0_byAllSets_21 : decode cX0_byAllSets 21 = .ok (.iload_n 1, 1) := by decide +kernel
theorem dX0_byAllSets_22 : decode cX0_byAllSets 22 = .ok (.iand, 1) := by decide +kernel
theorem dX0_byAllSets_23 : decode cX0_byAllSets 23 = .ok (.ifCond .eq 30, 3) := by decide +kernel
theorem dX0_byAllSets_26 : decode cX0_byAllSets 26 = .ok (.iload 4, 2) := by decide +kernel
theorem dX0_byAllSets_28 : decode cX0_byAllSets 28 = .ok (.invokestatic 35, 3) := by decide +kernel
theorem dX0_byAllSets_31 : decode cX0_byAllSets 31 = .ok (.iload_n 3, 1) := by decide +kernel
theorem dX0_byAllSets_32 : decode cX0_byAllSets 32 = .ok (.if_icmp .ge 21, 3) := by decide +kernel
theorem dX0_byAllSets_35 : decode cX0_byAllSets 35 = .ok (.aload_n 0, 1) := by decide +kernel
theorem dX0_byAllSets_36 : decode cX0_byAllSets 36 = .ok (.iload 4, 2) := by decide +kernel
theorem dX0_byAllSets_38 : decode cX0_byAllSets 38 = .ok (.invokevirtual 40, 3) := by decide +kernel
theorem dX0_byAllSets_41 : decode cX0_byAllSets 41 = .ok (.ifCond .ne 12, 3) := by decide +kernel
theorem dX0_byAllSets_44 : decode cX0_byAllSets 44 = .ok (.iload 4, 2) := by decide +kernel
theorem dX0_byAllSets_46 : decode cX0_byAllSets 46 = .ok (.istore_n 2, 1) := by decide +kernel
theorem dX0_byAllSets_47 : decode cX0_byAllSets 47 = .ok (.iload 4, 2) := by decide +kernel
theorem dX0_byAllSets_49 : decode cX0_byAllSets 49 = .ok (.invokestatic 35, 3) := by decide +kernel
theorem dX0_byAllSets_52 : decode cX0_byAllSets 52 = .ok (.istore_n 3, 1) := by decide +kernel
theorem dX0_byAllSets_53 : decode cX0_byAllSets 53 = .ok (.iinc 4 1, 3) := by decide +kernel
theorem dX0_byAllSets_56 : decode cX0_byAllSets 56 = .ok (.goto (-48), 3) := by decide +kernel
theorem dX0_byAllSets_59 : decode cX0_byAllSets 59 = .ok (.iload_n 2, 1) := by decide +kernel
theorem dX0_byAllSets_60 : decode cX0_byAllSets 60 = .ok (.ireturn, 1) := by decide +kernel
theorem dX1_init_0 : decode cX1_init 0 = .ok (.aload_n 0, 1) := by decide +kernel
theorem dX1_init_1 : decode cX1_init 1 = .ok (.invokespecial 3, 3) := by decide +kernel
theorem dX1_init_4 : decode cX1_init 4 = .ok (.aload_n 0, 1) := by decide +kernel
theorem dX1_init_5 : decode cX1_init 5 = .ok (.bipush 10, 2) := by decide +kernel
theorem dX1_init_7 : decode cX1_init 7 = .ok (.newarray .int, 2) := by decide +kernel
theorem dX1_init_9 : decode cX1_init 9 = .ok (.putfield 9, 3) := by decide +kernel
theorem dX1_init_12 : decode cX1_init 12 = .ok (.aload_n 0, 1) := by decide +kernel
theorem dX1_init_13 : decode cX1_init 13 = .ok (.bipush 10, 2) := by decide +kernel
theorem dX1_init_15 : decode cX1_init 15 = .ok (.newarray .int, 2) := by decide +kernel
theorem dX1_init_17 : decode cX1_init 17 = .ok (.putfield 15, 3) := by decide +kernel
theorem dX1_init_20 : decode cX1_init 20 = .ok (.aload_n 0, 1) := by decide +kernel
theorem dX1_init_21 : decode cX1_init 21 = .ok (.bipush 10, 2) := by decide +kernel
theorem dX1_init_23 : decode cX1_init 23 = .ok (.newarray .int, 2) := by decide +kernel
theorem dX1_init_25 : decode cX1_init 25 = .ok (.putfield 18, 3) := by decide +kernel
theorem dX1_init_28 : decode cX1_init 28 = .ok (.aload_n 0, 1) := by decide +kernel
theorem dX1_init_29 : decode cX1_init 29 = .ok (.iconst 0, 1) := by decide +kernel
theorem dX1_init_30 : decode cX1_init 30 = .ok (.putfield 21, 3) := by decide +kernel
theorem dX1_init_33 : decode cX1_init 33 = .ok (.return_, 1) := by decide +kernel
theorem dX1_add_0 : decode cX1_add 0 = .ok (.aload_n 0, 1) := by decide +kernel
theorem dX1_add_1 : decode cX1_add 1 = .ok (.getfield 9, 3) := by decide +kernel
theorem dX1_add_4 : decode cX1_add 4 = .ok (.aload_n 0, 1) := by decide +kernel
theorem dX1_add_5 : decode cX1_add 5 = .ok (.getfield 21, 3) := by decide +kernel
theorem dX1_add_8 : decode cX1_add 8 = .ok (.iload_n 1, 1) := by decide +kernel
theorem dX1_add_9 : decode cX1_add 9 = .ok (.iastore, 1) := by decide +kernel
theorem dX1_add_10 : decode cX1_add 10 = .ok (.aload_n 0, 1) := by decide +kernel
theorem dX1_add_11 : decode cX1_add 11 = .ok (.getfield 15, 3) := by decide +kernel
theorem dX1_add_14 : decode cX1_add 14 = .ok (.aload_n 0, 1) := by decide +kernel
theorem dX1_add_15 : decode cX1_add 15 = .ok (.getfield 21, 3) := by decide +kernel
theorem dX1_add_18 : decode cX1_add 18 = .ok (.iload_n 2, 1) := by decide +kernel
theorem dX1_add_19 : decode cX1_add 19 = .ok (.iastore, 1) := by decide +kernel
theorem dX1_add_20 : decode cX1_add 20 = .ok (.aload_n 0, 1) := by decide +kernel
theorem dX1_add_21 : decode cX1_add 21 = .ok (.getfield 18, 3) := by decide +kernel
theorem dX1_add_24 : decode cX1_add 24 = .ok (.aload_n 0, 1) := by decide +kernel
theorem dX1_add_25 : decode cX1_add 25 = .ok (.getfield 21, 3) := by decide +kernel
theorem dX1_add_28 : decode cX1_add 28 = .ok (.iload_n 3, 1) := by decide +kernel
theorem dX1_add_29 : decode cX1_add 29 = .ok (.iastore, 1) := by decide +kernel
theorem dX1_add_30 : decode cX1_add 30 = .ok (.aload_n 0, 1) := by decide +kernel
theorem dX1_add_31 : decode cX1_add 31 = .ok (.dup, 1) := by decide +kernel
theorem dX1_add_32 : decode cX1_add 32 = .ok (.getfield 21, 3) := by decide +kernel
theorem dX1_add_35 : decode cX1_add 35 = .ok (.iconst 1, 1) := by decide +kernel
theorem dX1_add_36 : decode cX1_add 36 = .ok (.iadd, 1) := by decide +kernel
theorem dX1_add_37 : decode cX1_add 37 = .ok (.putfield 21, 3) := by decide +kernel
theorem dX1_add_40 : decode cX1_add 40 = .ok (.aload_n 0, 1) := by decide +kernel
theorem dX1_add_41 : decode cX1_add 41 = .ok (.getfield 21, 3) := by decide +kernel
theorem dX1_add_44 : decode cX1_add 44 = .ok (.ireturn, 1) := by decide +kernel
set_option maxRecDepth 20000 in
theorem ggX1_isFrozen_X6_isWithin : GoodIn wsX1_isFrozen wsX6_isWithin := goodIn_r _ [7] (by decide +kernel) (by decide +kernel)
set_option maxRecDepth 20000 in
theorem gX1_isFrozen_X6_isWithin_n25 : GoodIn wsX1_isFrozen (wsX6_isWithin) := ggX1_isFrozen_X6_isWithin
theorem dX1_isFrozen_0 : decode cX1_isFrozen 0 = .ok (.iconst 0, 1) := by decide +kernel
theorem dX1_isFrozen_1 : decode cX1_isFrozen 1 = .ok (.istore_n 3, 1) := by decide +kernel
theorem dX1_isFrozen_2 : decode cX1_isFrozen 2 = .ok (.iload_n 3, 1) := by decide +kernel
theorem dX1_isFrozen_3 : decode cX1_isFrozen 3 = .ok (.aload_n 0, 1) := by decide +kernel
theorem dX1_isFrozen_4 : decode cX1_isFrozen 4 = .ok (.getfield 21, 3) := by decide +kernel
theorem dX1_isFrozen_7 : decode cX1_isFrozen 7 = .ok (.if_icmp .ge 41, 3) := by decide +kernel
theorem dX1_isFrozen_10 : decode cX1_isFrozen 10 = .ok (.aload_n 0, 1) := by decide +kernel
theorem dX1_isFrozen_11 : decode cX1_isFrozen 11 = .ok (.getfield 9, 3) := by decide +kernel
theorem dX1_isFrozen_14 : decode cX1_isFrozen 14 = .ok (.iload_n 3, 1) := by decide +kernel
theorem dX1_isFrozen_15 : decode cX1_isFrozen 15 = .ok (.iaload, 1) := by decide +kernel
theorem dX1_isFrozen_16 : decode cX1_isFrozen 16 = .ok (.iload_n 1, 1) := by decide +kernel
theorem dX1_isFrozen_17 : decode cX1_isFrozen 17 = .ok (.iand, 1) := by decide +kernel
theorem dX1_isFrozen_18 : decode cX1_isFrozen 18 = .ok (.ifCond .eq 24, 3) := by decide +kernel
theorem dX1_isFrozen_21 : decode cX1_isFrozen 21 = .ok (.iload_n 2, 1) := by decide +kernel
theorem dX1_isFrozen_22 : decode cX1_isFrozen 22 = .ok (.aload_n 0, 1) := by decide +kernel
theorem dX1_isFrozen_23 : decode cX1_isFrozen 23 = .ok (.getfield 15, 3) := by decide +kernel
theorem dX1_isFrozen_26 : decode cX1_isFrozen 26 = .ok (.iload_n 3, 1) := by decide +kernel
theorem dX1_isFrozen_27 : decode cX1_isFrozen 27 = .ok (.iaload, 1) := by decide +kernel
theorem dX1_isFrozen_28 : decode cX1_isFrozen 28 = .ok (.aload_n 0, 1) := by decide +kernel
theorem dX1_isFrozen_29 : decode cX1_isFrozen 29 = .ok (.getfield 18, 3) := by decide +kernel
theorem dX1_isFrozen_32 : decode cX1_isFrozen 32 = .ok (.iload_n 3, 1) := by decide +kernel
theorem dX1_isFrozen_33 : decode cX1_isFrozen 33 = .ok (.iaload, 1) := by decide +kernel
theorem dX1_isFrozen_34 : decode cX1_isFrozen 34 = .ok (.invokestatic 25, 3) := by decide +kernel
theorem dX1_isFrozen_37 : decode cX1_isFrozen 37 = .ok (.ifCond .eq 5, 3) := by decide +kernel
theorem dX1_isFrozen_40 : decode cX1_isFrozen 40 = .ok (.iconst 1, 1) := by decide +kernel
theorem dX1_isFrozen_41 : decode cX1_isFrozen 41 = .ok (.ireturn, 1) := by decide +kernel
theorem dX1_isFrozen_42 : decode cX1_isFrozen 42 = .ok (.iinc 3 1, 3) := by decide +kernel
theorem dX1_isFrozen_45 : decode cX1_isFrozen 45 = .ok (.goto (-43), 3) := by decide +kernel
theorem dX1_isFrozen_48 : decode cX1_isFrozen 48 = .ok (.iconst 0, 1) := by decide +kernel
theorem dX1_isFrozen_49 : decode cX1_isFrozen 49 = .ok (.ireturn, 1) := by decide +kernel
theorem dX2_init_0 : decode cX2_init 0 = .ok (.aload_n 0, 1) := by decide +kernel
theorem dX2_init_1 : decode cX2_init 1 = .ok (.invokespecial 3, 3) := by decide +kernel
theorem dX2_init_4 : decode cX2_init 4 = .ok (.aload_n 0, 1) := by decide +kernel
theorem dX2_init_5 : decode cX2_init 5 = .ok (.bipush 40, 2) := by decide +kernel
theorem dX2_init_7 : decode cX2_init 7 = .ok (.newarray .boolean, 2) := by decide +kernel
theorem dX2_init_9 : decode cX2_init 9 = .ok (.putfield 9, 3) := by decide +kernel
theorem dX2_init_12 : decode cX2_init 12 = .ok (.aload_n 0, 1) := by decide +kernel
theorem dX2_init_13 : decode cX2_init 13 = .ok (.bipush 7, 2) := by decide +kernel
theorem dX2_init_15 : decode cX2_init 15 = .ok (.putfield 15, 3) := by decide +kernel
theorem dX2_init_18 : decode cX2_init 18 = .ok (.aload_n 0, 1) := by decide +kernel
theorem dX2_init_19 : decode cX2_init 19 = .ok (.aload_n 1, 1) := by decide +kernel
theorem dX2_init_20 : decode cX2_init 20 = .ok (.putfield 19, 3) := by decide +kernel
theorem dX2_init_23 : decode cX2_init 23 = .ok (.aload_n 0, 1) := by decide +kernel
theorem dX2_init_24 : decode cX2_init 24 = .ok (.aload_n 2, 1) := by decide +kernel
theorem dX2_init_25 : decode cX2_init 25 = .ok (.putfield 23, 3) := by decide +kernel
theorem dX2_init_28 : decode cX2_init 28 = .ok (.return_, 1) := by decide +kernel
set_option maxRecDepth 20000 in
theorem ggX2_joinSleepers_X2_sleepsTooLong : GoodIn wsX2_joinSleepers wsX2_sleepsTooLong := goodIn_r _ [9, 1, 10, 11, 12, 13, 14, 15, 16, 17, 18, 19, 20, 21, 22, 23, 24, 25, 26, 27, 28, 29, 30, 31, 32, 33, 34, 35, 36, 37, 38, 39, 40, 41, 42, 43, 44, 45, 46, 47, 48, 49, 50, 51, 52, 53, 54, 55, 56, 57, 58, 59, 107, 108, 109, 110, 111, 112, 113, 114, 115, 116, 117, 118, 119, 120, 121, 122, 123, 124, 125, 126, 127, 128, 129, 130] (by decide +kernel) (by decide +kernel)
set_option maxRecDepth 20000 in
theorem gX2_joinSleepers_X2_sleepsTooLong : GoodIn wsX2_joinSleepers (wsV RX2 36 RX2 yX2_sleepsTooLong wsX2_sleepsTooLong) := goodIn_app (goodIn_of _ (by decide +kernel)) ggX2_joinSleepers_X2_sleepsTooLong
set_option maxRecDepth 20000 in
theorem ggX2_joinSleepers_X2_bestPartner : GoodIn wsX2_joinSleepers wsX2_bestPartner := goodIn_r _ [63, 1, 2, 4, 12, 13, 14, 15, 16, 17, 18, 19, 20, 21, 22, 23, 24, 25, 26, 27, 28, 29, 30, 31, 32, 33, 34, 35, 36, 37, 38, 39, 40, 41, 42, 43, 44, 45, 46, 47, 48, 49, 50, 51, 52, 53, 54, 55, 56, 57, 58, 59, 107, 108, 109, 110, 111, 112, 113, 114, 115, 116, 117, 118, 119, 120, 121, 122, 123, 124, 125, 126, 127, 128, 129, 130] (by decide +kernel) (by decide +kernel)
set_option maxRecDepth 20000 in
theorem gX2_joinSleepers_X2_bestPartner : GoodIn wsX2_joinSleepers (wsV RX2 40 RX2 yX2_bestPartner wsX2_bestPartner) := goodIn_app (goodIn_of _ (by decide +kernel)) ggX2_joinSleepers_X2_bestPartner
set_option maxRecDepth 20000 in
theorem ggX2_joinSleepers_X2_join : GoodIn wsX2_joinSleepers wsX2_join := goodIn_r _ [67, 3, 1, 68, 12, 13, 14, 15, 16, 17, 18, 19, 69, 70, 71, 72, 40, 41, 42, 43, 73, 74, 75, 76, 77, 78, 79, 80, 81, 82, 83, 84, 85, 86, 87, 88, 89, 90, 91, 92, 93, 94, 95, 96, 97, 98, 99, 100, 101, 102, 103, 104, 105, 106, 107, 108, 109, 110, 111, 112, 113, 114, 115, 116, 117, 118, 119, 120, 121, 122, 131, 132] (by decide +kernel) (by decide +kernel)
set_option maxRecDepth 20000 in
theorem gX2_joinSleepers_X2_join : GoodIn wsX2_joinSleepers (wsV RX2 44 RX2 yX2_join wsX2_join) := goodIn_app (goodIn_of _ (by decide +kernel)) ggX2_joinSleepers_X2_join
theorem dX2_joinSleepers_0 : decode cX2_joinSleepers 0 = .ok (.iconst 0, 1) := by decide +kernel
theorem dX2_joinSleepers_1 : decode cX2_joinSleepers 1 = .ok (.istore_n 2, 1) := by decide +kernel
theorem dX2_joinSleepers_2 : decode cX2_joinSleepers 2 = .ok (.iload_n 2, 1) := by decide +kernel
theorem dX2_joinSleepers_3 : decode cX2_joinSleepers 3 = .ok (.aload_n 0, 1) := by decide +kernel
theorem dX2_joinSleepers_4 : decode cX2_joinSleepers 4 = .ok (.getfield 19, 3) := by decide +kernel
theorem dX2_joinSleepers_7 : decode cX2_joinSleepers 7 = .ok (.getfield 27, 3) := by decide +kernel
theorem dX2_joinSleepers_10 : decode cX2_joinSleepers 10 = .ok (.if_icmp .ge 33, 3) := by decide +kernel
theorem dX2_joinSleepers_13 : decode cX2_joinSleepers 13 = .ok (.aload_n 0, 1) := by decide +kernel
theorem dX2_joinSleepers_14 : decode cX2_joinSleepers 14 = .ok (.getfield 9, 3) := by decide +kernel
theorem dX2_joinSleepers_17 : decode cX2_joinSleepers 17 = .ok (.iload_n 2, 1) := by decide +kernel
theorem dX2_joinSleepers_18 : decode cX2_joinSleepers 18 = .ok (.aload_n 0, 1) := by decide +kernel
theorem dX2_joinSleepers_19 : decode cX2_joinSleepers 19 = .ok (.getfield 19, 3) := by decide +kernel
theorem dX2_joinSleepers_22 : decode cX2_joinSleepers 22 = .ok (.getfield 32, 3) := by decide +kernel
theorem dX2_joinSleepers_25 : decode cX2_joinSleepers 25 = .ok (.iload_n 2, 1) := by decide +kernel
theorem dX2_joinSleepers_26 : decode cX2_joinSleepers 26 = .ok (.iaload, 1) := by decide +kernel
theorem dX2_joinSleepers_27 : decode cX2_joinSleepers 27 = .ok (.iload_n 2, 1) := by decide +kernel
theorem dX2_joinSleepers_28 : decode cX2_joinSleepers 28 = .ok (.if_icmp .ne 7, 3) := by decide +kernel
theorem dX2_joinSleepers_31 : decode cX2_joinSleepers 31 = .ok (.iconst 1, 1) := by decide +kernel
theorem dX2_joinSleepers_32 : decode cX2_joinSleepers 32 = .ok (.goto 4, 3) := by decide +kernel
theorem dX2_joinSleepers_35 : decode cX2_joinSleepers 35 = .ok (.iconst 0, 1) := by decide +kernel
theorem dX2_joinSleepers_36 : decode cX2_joinSleepers 36 = .ok (.bastore, 1) := by decide +kernel
theorem dX2_joinSleepers_37 : decode cX2_joinSleepers 37 = .ok (.iinc 2 1, 3) := by decide +kernel
theorem dX2_joinSleepers_40 : decode cX2_joinSleepers 40 = .ok (.goto (-38), 3) := by decide +kernel
theorem dX2_joinSleepers_43 : decode cX2_joinSleepers 43 = .ok (.iconst 0, 1) := by decide +kernel
theorem dX2_joinSleepers_44 : decode cX2_joinSleepers 44 = .ok (.istore_n 2, 1) := by decide +kernel
theorem dX2_joinSleepers_45 : decode cX2_joinSleepers 45 = .ok (.iload_n 2, 1) := by decide +kernel
theorem dX2_joinSleepers_46 : decode cX2_joinSleepers 46 = .ok (.aload_n 0, 1) := by decide +kernel
theorem dX2_joinSleepers_47 : decode cX2_joinSleepers 47 = .ok (.getfield 19, 3) := by decide +kernel
theorem dX2_joinSleepers_50 : decode cX2_joinSleepers 50 = .ok (.getfield 27, 3) := by decide +kernel
theorem dX2_joinSleepers_53 : decode cX2_joinSleepers 53 = .ok (.if_icmp .ge 37, 3) := by decide +kernel
theorem dX2_joinSleepers_56 : decode cX2_joinSleepers 56 = .ok (.aload_n 0, 1) := by decide +kernel
theorem dX2_joinSleepers_57 : decode cX2_joinSleepers 57 = .ok (.getfield 9, 3) := by decide +kernel
theorem dX2_joinSleepers_60 : decode cX2_joinSleepers 60 = .ok (.iload_n 2, 1) := by decide +kernel
theorem dX2_joinSleepers_61 : decode cX2_joinSleepers 61 = .ok (.baload, 1) := by decide +kernel
theorem dX2_joinSleepers_62 : decode cX2_joinSleepers 62 = .ok (.ifCond .eq 22, 3) := by decide +kernel
theorem dX2_joinSleepers_65 : decode cX2_joinSleepers 65 = .ok (.aload_n 0, 1) := by decide +kernel
theorem dX2_joinSleepers_66 : decode cX2_joinSleepers 66 = .ok (.iload_n 2, 1) := by decide +kernel
theorem dX2_joinSleepers_67 : decode cX2_joinSleepers 67 = .ok (.iload_n 1, 1) := by decide +kernel
theorem dX2_joinSleepers_68 : decode cX2_joinSleepers 68 = .ok (.invokevirtual 36, 3) := by decide +kernel
theorem dX2_joinSleepers_71 : decode cX2_joinSleepers 71 = .ok (.ifCond .eq 13, 3) := by decide +kernel
theorem dX2_joinSleepers_74 : decode cX2_joinSleepers 74 = .ok (.aload_n 0, 1) := by decide +kernel
theorem dX2_joinSleepers_75 : decode cX2_joinSleepers 75 = .ok (.iload_n 2, 1) := by decide +kernel
theorem dX2_joinSleepers_76 : decode cX2_joinSleepers 76 = .ok (.aload_n 0, 1) := by decide +kernel
theorem dX2_joinSleepers_77 : decode cX2_joinSleepers 77 = .ok (.iload_n 2, 1) := by decide +kernel
theorem dX2_joinSleepers_78 : decode cX2_joinSleepers 78 = .ok (.invokevirtual 40, 3) := by decide +kernel
theorem dX2_joinSleepers_81 : decode cX2_joinSleepers 81 = .ok (.invokevirtual 44, 3) := by decide +kernel
theorem dX2_joinSleepers_84 : decode cX2_joinSleepers 84 = .ok (.iinc 2 1, 3) := by decide +kernel
theorem dX2_joinSleepers_87 : decode cX2_joinSleepers 87 = .ok (.goto (-42), 3) := by decide +kernel
theorem dX2_joinSleepers_90 : decode cX2_joinSleepers 90 = .ok (.return_, 1) := by decide +kernel
set_option maxRecDepth 20000 in
theorem ggX2_sleepsTooLong_X4_groupOf : GoodIn wsX2_sleepsTooLong wsX4_groupOf := goodIn_r _ [8, 9, 10, 11, 56, 57, 58, 59, 60, 61, 62, 63, 64, 65, 66, 67] (by decide +kernel) (by decide +kernel)
set_option maxRecDepth 20000 in
theorem gX2_sleepsTooLong_X4_groupOf : GoodIn wsX2_sleepsTooLong (wsV RX2 51 RX4 yX4_groupOf wsX4_groupOf) := goodIn_app (goodIn_of _ (by decide +kernel)) ggX2_sleepsTooLong_X4_groupOf
set_option maxRecDepth 20000 in
theorem ggX2_sleepsTooLong_X4_failing : GoodIn wsX2_sleepsTooLong wsX4_failing := goodIn_r _ [15, 16, 17, 18, 19, 7, 20, 9, 21, 22, 11, 23, 24, 25, 26, 27, 28, 29, 30, 31, 32, 33, 34, 35, 36, 37, 38, 39, 40, 41, 42, 43, 44, 45, 46, 47, 48, 49, 50, 51, 56, 57, 58, 59, 60, 61, 62, 63, 64, 65, 66, 67, 68, 69, 70, 71, 72, 73, 74, 75] (by decide +kernel) (by decide +kernel)
set_option maxRecDepth 20000 in
theorem gX2_sleepsTooLong_X4_failing : GoodIn wsX2_sleepsTooLong (wsV RX2 54 RX4 yX4_failing wsX4_failing) := goodIn_app (goodIn_of _ (by decide +kernel)) ggX2_sleepsTooLong_X4_failing
theorem dX2_sleepsTooLong_0 : decode cX2_sleepsTooLong 0 = .ok (.iload_n 2, 1) := by decide +kernel
theorem dX2_sleepsTooLong_1 : decode cX2_sleepsTooLong 1 = .ok (.aload_n 0, 1) := by decide +kernel
theorem dX2_sleepsTooLong_2 : decode cX2_sleepsTooLong 2 = .ok (.getfield 19, 3) := by decide +kernel
theorem dX2_sleepsTooLong_5 : decode cX2_sleepsTooLong 5 = .ok (.getfield 48, 3) := by decide +kernel
theorem dX2_sleepsTooLong_8 : decode cX2_sleepsTooLong 8 = .ok (.iload_n 1, 1) := by decide +kernel
theorem dX2_sleepsTooLong_9 : decode cX2_sleepsTooLong 9 = .ok (.iaload, 1) := by decide +kernel
theorem dX2_sleepsTooLong_10 : decode cX2_sleepsTooLong 10 = .ok (.isub, 1) := by decide +kernel
theorem dX2_sleepsTooLong_11 : decode cX2_sleepsTooLong 11 = .ok (.aload_n 0, 1) := by decide +kernel
theorem dX2_sleepsTooLong_12 : decode cX2_sleepsTooLong 12 = .ok (.getfield 15, 3) := by decide +kernel
theorem dX2_sleepsTooLong_15 : decode cX2_sleepsTooLong 15 = .ok (.if_icmp .lt 25, 3) := by decide +kernel
theorem dX2_sleepsTooLong_18 : decode cX2_sleepsTooLong 18 = .ok (.aload_n 0, 1) := by decide +kernel
theorem dX2_sleepsTooLong_19 : decode cX2_sleepsTooLong 19 = .ok (.getfield 19, 3) := by decide +kernel
theorem dX2_sleepsTooLong_22 : decode cX2_sleepsTooLong 22 = .ok (.aload_n 0, 1) := by decide +kernel
theorem dX2_sleepsTooLong_23 : decode cX2_sleepsTooLong 23 = .ok (.getfield 19, 3) := by decide +kernel
theorem dX2_sleepsTooLong_26 : decode cX2_sleepsTooLong 26 = .ok (.iload_n 1, 1) := by decide +kernel
theorem dX2_sleepsTooLong_27 : decode cX2_sleepsTooLong 27 = .ok (.invokevirtual 51, 3) := by decide +kernel
theorem dX2_sleepsTooLong_30 : decode cX2_sleepsTooLong 30 = .ok (.invokevirtual 54, 3) := by decide +kernel
theorem dX2_sleepsTooLong_33 : decode cX2_sleepsTooLong 33 = .ok (.ifCond .eq 7, 3) := by decide +kernel
theorem dX2_sleepsTooLong_36 : decode cX2_sleepsTooLong 36 = .ok (.iconst 1, 1) := by decide +kernel
theorem dX2_sleepsTooLong_37 : decode cX2_sleepsTooLong 37 = .ok (.goto 4, 3) := by decide +kernel
theorem dX2_sleepsTooLong_40 : decode cX2_sleepsTooLong 40 = .ok (.iconst 0, 1) := by decide +kernel
theorem dX2_sleepsTooLong_41 : decode cX2_sleepsTooLong 41 = .ok (.ireturn, 1) := by decide +kernel
set_option maxRecDepth 20000 in
theorem ggX2_join_X4_groupOf : GoodIn wsX2_join wsX4_groupOf := goodIn_r _ [8, 9, 10, 11, 58, 59, 60, 61, 62, 63, 64, 65, 66, 67, 68, 69] (by decide +kernel) (by decide +kernel)
set_option maxRecDepth 20000 in
theorem gX2_join_X4_groupOf : GoodIn wsX2_join (wsV RX2 51 RX4 yX4_groupOf wsX4_groupOf) := goodIn_app (goodIn_of _ (by decide +kernel)) ggX2_join_X4_groupOf
set_option maxRecDepth 20000 in
theorem ggX2_join_X4_group : GoodIn wsX2_join wsX4_group := goodIn_r _ [15, 9, 11, 10, 16, 17, 18, 7, 19, 58, 59, 60, 61, 62, 63, 64, 65, 66, 67, 68, 69] (by decide +kernel) (by decide +kernel)
set_option maxRecDepth 20000 in
theorem gX2_join_X4_group : GoodIn wsX2_join (wsV RX2 57 RX4 yX4_group wsX4_group) := goodIn_app (goodIn_of _ (by decide +kernel)) ggX2_join_X4_group
set_option maxRecDepth 20000 in
theorem ggX2_join_X5_giveAnew : GoodIn wsX2_join wsX5_giveAnew := goodIn_r _ [24, 25, 26, 27, 28, 17, 18, 7, 19, 29, 30, 31, 23, 32, 33, 34, 35, 36, 37, 38, 39, 40, 41, 42, 43, 44, 45, 46, 47, 48, 49, 50, 51, 52, 53, 70, 71, 58, 59, 60, 61, 62, 63, 64, 65, 66, 67, 68, 69] (by decide +kernel) (by decide +kernel)
set_option maxRecDepth 20000 in
theorem gX2_join_X5_giveAnew : GoodIn wsX2_join (wsV RX2 61 RX5 yX5_giveAnew wsX5_giveAnew) := goodIn_app (goodIn_of _ (by decide +kernel)) ggX2_join_X5_giveAnew
theorem dX2_join_0 : decode cX2_join 0 = .ok (.iload_n 2, 1) := by decide +kernel
theorem dX2_join_1 : decode cX2_join 1 = .ok (.iconst (-1), 1) := by decide +kernel
theorem dX2_join_2 : decode cX2_join 2 = .ok (.if_icmp .ne 4, 3) := by decide +kernel
theorem dX2_join_5 : decode cX2_join 5 = .ok (.return_, 1) := by decide +kernel
theorem dX2_join_6 : decode cX2_join 6 = .ok (.aload_n 0, 1) := by decide +kernel
theorem dX2_join_7 : decode cX2_join 7 = .ok (.getfield 9, 3) := by decide +kernel
theorem dX2_join_10 : decode cX2_join 10 = .ok (.iload_n 2, 1) := by decide +kernel
theorem dX2_join_11 : decode cX2_join 11 = .ok (.iconst 0, 1) := by decide +kernel
theorem dX2_join_12 : decode cX2_join 12 = .ok (.bastore, 1) := by decide +kernel
theorem dX2_join_13 : decode cX2_join 13 = .ok (.aload_n 0, 1) := by decide +kernel
theorem dX2_join_14 : decode cX2_join 14 = .ok (.getfield 19, 3) := by decide +kernel
theorem dX2_join_17 : decode cX2_join 17 = .ok (.iload_n 1, 1) := by decide +kernel
theorem dX2_join_18 : decode cX2_join 18 = .ok (.invokevirtual 51, 3) := by decide +kernel
theorem dX2_join_21 : decode cX2_join 21 = .ok (.aload_n 0, 1) := by decide +kernel
theorem dX2_join_22 : decode cX2_join 22 = .ok (.getfield 19, 3) := by decide +kernel
theorem dX2_join_25 : decode cX2_join 25 = .ok (.iload_n 2, 1) := by decide +kernel
theorem dX2_join_26 : decode cX2_join 26 = .ok (.invokevirtual 51, 3) := by decide +kernel
theorem dX2_join_29 : decode cX2_join 29 = .ok (.ior, 1) := by decide +kernel
theorem dX2_join_30 : decode cX2_join 30 = .ok (.istore_n 3, 1) := by decide +kernel
theorem dX2_join_31 : decode cX2_join 31 = .ok (.aload_n 0, 1) := by decide +kernel
theorem dX2_join_32 : decode cX2_join 32 = .ok (.getfield 19, 3) := by decide +kernel
theorem dX2_join_35 : decode cX2_join 35 = .ok (.iload_n 3, 1) := by decide +kernel
theorem dX2_join_36 : decode cX2_join 36 = .ok (.invokevirtual 57, 3) := by decide +kernel
theorem dX2_join_39 : decode cX2_join 39 = .ok (.aload_n 0, 1) := by decide +kernel
theorem dX2_join_40 : decode cX2_join 40 = .ok (.getfield 23, 3) := by decide +kernel
theorem dX2_join_43 : decode cX2_join 43 = .ok (.iload_n 3, 1) := by decide +kernel
theorem dX2_join_44 : decode cX2_join 44 = .ok (.invokevirtual 61, 3) := by decide +kernel
theorem dX2_join_47 : decode cX2_join 47 = .ok (.return_, 1) := by decide +kernel
set_option maxRecDepth 20000 in
theorem ggX2_bestPartner_X4_groupOf : GoodIn wsX2_bestPartner wsX4_groupOf := goodIn_r _ [8, 9, 10, 11, 56, 57, 58, 59, 60, 61, 62, 63, 64, 65, 66, 67] (by decide +kernel) (by decide +kernel)
set_option maxRecDepth 20000 in
theorem gX2_bestPartner_X4_groupOf : GoodIn wsX2_bestPartner (wsV RX2 51 RX4 yX4_groupOf wsX4_groupOf) := goodIn_app (goodIn_of _ (by decide +kernel)) ggX2_bestPartner_X4_groupOf
set_option maxRecDepth 20000 in
theorem ggX2_bestPartner_X4_failing : GoodIn wsX2_bestPartner wsX4_failing := goodIn_r _ [15, 16, 17, 18, 19, 7, 20, 9, 21, 22, 11, 23, 24, 25, 26, 27, 28, 29, 30, 31, 32, 33, 34, 35, 36, 37, 38, 39, 40, 41, 42, 43, 44, 45, 46, 47, 48, 49, 50, 51, 56, 57, 58, 59, 60, 61, 62, 63, 64, 65, 66, 67, 68, 69, 70, 71, 72, 73, 74, 75] (by decide +kernel) (by decide +kernel)
set_option maxRecDepth 20000 in
theorem gX2_bestPartner_X4_failing : GoodIn wsX2_bestPartner (wsV RX2 54 RX4 yX4_failing wsX4_failing) := goodIn_app (goodIn_of _ (by decide +kernel)) ggX2_bestPartner_X4_failing
theorem dX2_bestPartner_0 : decode cX2_bestPartner 0 = .ok (.aload_n 0, 1) := by decide +kernel
theorem dX2_bestPartner_1 : decode cX2_bestPartner 1 = .ok (.getfield 19, 3) := by decide +kernel
theorem dX2_bestPartner_4 : decode cX2_bestPartner 4 = .ok (.iload_n 1, 1) := by decide +kernel
theorem dX2_bestPartner_5 : decode cX2_bestPartner 5 = .ok (.invokevirtual 51, 3) := by decide +kernel
theorem dX2_bestPartner_8 : decode cX2_bestPartner 8 = .ok (.istore_n 2, 1) := by decide +kernel
theorem dX2_bestPartner_9 : decode cX2_bestPartner 9 = .ok (.iconst (-1), 1) := by decide +kernel
theorem dX2_bestPartner_10 : decode cX2_bestPartner 10 = .ok (.istore_n 3, 1) := by decide +kernel
theorem dX2_bestPartner_11 : decode cX2_bestPartner 11 = .ok (.aload_n 0, 1) := by decide +kernel
theorem dX2_bestPartner_12 : decode cX2_bestPartner 12 = .ok (.getfield 19, 3) := by decide +kernel
theorem dX2_bestPartner_15 : decode cX2_bestPartner 15 = .ok (.iload_n 2, 1) := by decide +kernel
theorem dX2_bestPartner_16 : decode cX2_bestPartner 16 = .ok (.invokevirtual 54, 3) := by decide +kernel
theorem dX2_bestPartner_19 : decode cX2_bestPartner 19 = .ok (.istore 4, 2) := by decide +kernel
theorem dX2_bestPartner_21 : decode cX2_bestPartner 21 = .ok (.iconst 0, 1) := by decide +kernel
theorem dX2_bestPartner_22 : decode cX2_bestPartner 22 = .ok (.istore 5, 2) := by decide +kernel
theorem dX2_bestPartner_24 : decode cX2_bestPartner 24 = .ok (.iload 5, 2) := by decide +kernel
theorem dX2_bestPartner_26 : decode cX2_bestPartner 26 = .ok (.aload_n 0, 1) := by decide +kernel
theorem dX2_bestPartner_27 : decode cX2_bestPartner 27 = .ok (.getfield 19, 3) := by decide +kernel
theorem dX2_bestPartner_30 : decode cX2_bestPartner 30 = .ok (.getfield 27, 3) := by decide +kernel
theorem dX2_bestPartner_33 : decode cX2_bestPartner 33 = .ok (.if_icmp .ge 64, 3) := by decide +kernel
theorem dX2_bestPartner_36 : decode cX2_bestPartner 36 = .ok (.iload 5, 2) := by decide +kernel
theorem dX2_bestPartner_38 : decode cX2_bestPartner 38 = .ok (.iload_n 1, 1) := by decide +kernel
theorem dX2_bestPartner_39 : decode cX2_bestPartner 39 = .ok (.if_icmp .eq 52, 3) := by decide +kernel
theorem dX2_bestPartner_42 : decode cX2_bestPartner 42 = .ok (.aload_n 0, 1) := by decide +kernel
theorem dX2_bestPartner_43 : decode cX2_bestPartner 43 = .ok (.getfield 19, 3) := by decide +kernel
theorem dX2_bestPartner_46 : decode cX2_bestPartner 46 = .ok (.getfield 32, 3) := by decide +kernel
theorem dX2_bestPartner_49 : decode cX2_bestPartner 49 = .ok (.iload 5, 2) := by decide +kernel
theorem dX2_bestPartner_51 : decode cX2_bestPartner 51 = .ok (.iaload, 1) := by decide +kernel
theorem dX2_bestPartner_52 : decode cX2_bestPartner 52 = .ok (.iload 5, 2) := by decide +kernel
theorem dX2_bestPartner_54 : decode cX2_bestPartner 54 = .ok (.if_icmp .ne 37, 3) := by decide +kernel
theorem dX2_bestPartner_57 : decode cX2_bestPartner 57 = .ok (.aload_n 0, 1) := by decide +kernel
theorem dX2_bestPartner_58 : decode cX2_bestPartner 58 = .ok (.getfield 19, 3) := by decide +kernel
theorem dX2_bestPartner_61 : decode cX2_bestPartner 61 = .ok (.iload_n 2, 1) := by decide +kernel
theorem dX2_bestPartner_62 : decode cX2_bestPartner 62 = .ok (.aload_n 0, 1) := by decide +kernel
theorem dX2_bestPartner_63 : decode cX2_bestPartner 63 = .ok (.getfield 19, 3) := by decide +kernel
theorem dX2_bestPartner_66 : decode cX2_bestPartner 66 = .ok (.iload 5, 2) := by decide +kernel
theorem dX2_bestPartner_68 : decode cX2_bestPartner 68 = .ok (.invokevirtual 51, 3) := by decide +kernel
theorem dX2_bestPartner_71 : decode cX2_bestPartner 71 = .ok (.ior, 1) := by decide +kernel
theorem dX2_bestPartner_72 : decode cX2_bestPartner 72 = .ok (.invokevirtual 54, 3) := by decide +kernel
theorem dX2_bestPartner_75 : decode cX2_bestPartner 75 = .ok (.istore 6, 2) := by decide +kernel
theorem dX2_bestPartner_77 : decode cX2_bestPartner 77 = .ok (.iload 6, 2) := by decide +kernel
theorem dX2_bestPartner_79 : decode cX2_bestPartner 79 = .ok (.iload 4, 2) := by decide +kernel
theorem dX2_bestPartner_81 : decode cX2_bestPartner 81 = .ok (.if_icmp .ge 10, 3) := by decide +kernel
theorem dX2_bestPartner_84 : decode cX2_bestPartner 84 = .ok (.iload 5, 2) := by decide +kernel
theorem dX2_bestPartner_86 : decode cX2_bestPartner 86 = .ok (.istore_n 3, 1) := by decide +kernel
theorem dX2_bestPartner_87 : decode cX2_bestPartner 87 = .ok (.iload 6, 2) := by decide +kernel
theorem dX2_bestPartner_89 : decode cX2_bestPartner 89 = .ok (.istore 4, 2) := by decide +kernel
theorem dX2_bestPartner_91 : decode cX2_bestPartner 91 = .ok (.iinc 5 1, 3) := by decide +kernel
theorem dX2_bestPartner_94 : decode cX2_bestPartner 94 = .ok (.goto (-70), 3) := by decide +kernel
theorem dX2_bestPartner_97 : decode cX2_bestPartner 97 = .ok (.iload_n 3, 1) := by decide +kernel
theorem dX2_bestPartner_98 : decode cX2_bestPartner 98 = .ok (.ireturn, 1) := by decide +kernel
set_option maxRecDepth 20000 in
theorem ggX2_part_X4_isIn : GoodIn wsX2_part wsX4_isIn := goodIn_r _ [10] (by decide +kernel) (by decide +kernel)
set_option maxRecDepth 20000 in
theorem gX2_part_X4_isIn : GoodIn wsX2_part (wsV RX2 69 RX4 yX4_isIn wsX4_isIn) := goodIn_app (goodIn_of _ (by decide +kernel)) ggX2_part_X4_isIn
set_option maxRecDepth 20000 in
theorem ggX2_part_X4_group : GoodIn wsX2_part wsX4_group := goodIn_r _ [14, 15, 16, 17, 18, 7, 8, 9, 10, 57, 58, 59, 60, 61, 62, 63, 64, 65, 66, 67, 68] (by decide +kernel) (by decide +kernel)
set_option maxRecDepth 20000 in
theorem gX2_part_X4_group : GoodIn wsX2_part (wsV RX2 57 RX4 yX4_group wsX4_group) := goodIn_app (goodIn_of _ (by decide +kernel)) ggX2_part_X4_group
set_option maxRecDepth 20000 in
theorem ggX2_part_X5_giveAnew : GoodIn wsX2_part wsX5_giveAnew := goodIn_r _ [23, 24, 25, 26, 27, 7, 8, 9, 10, 28, 29, 30, 22, 31, 32, 33, 34, 35, 36, 37, 38, 39, 40, 41, 42, 43, 44, 45, 46, 47, 48, 49, 50, 51, 52, 69, 70, 57, 58, 59, 60, 61, 62, 63, 64, 65, 66, 67, 68] (by decide +kernel) (by decide +kernel)
set_option maxRecDepth 20000 in
theorem gX2_part_X5_giveAnew : GoodIn wsX2_part (wsV RX2 61 RX5 yX5_giveAnew wsX5_giveAnew) := goodIn_app (goodIn_of _ (by decide +kernel)) ggX2_part_X5_giveAnew
theorem dX2_part_0 : decode cX2_part 0 = .ok (.iconst 0, 1) := by decide +kernel
theorem dX2_part_1 : decode cX2_part 1 = .ok (.istore_n 2, 1) := by decide +kernel
theorem dX2_part_2 : decode cX2_part 2 = .ok (.iload_n 2, 1) := by decide +kernel
theorem dX2_part_3 : decode cX2_part 3 = .ok (.aload_n 0, 1) := by decide +kernel
theorem dX2_part_4 : decode cX2_part 4 = .ok (.getfield 19, 3) := by decide +kernel
theorem dX2_part_7 : decode cX2_part 7 = .ok (.getfield 66, 3) := by decide +kernel
theorem dX2_part_10 : decode cX2_part 10 = .ok (.if_icmp .ge 49, 3) := by decide +kernel
theorem dX2_part_13 : decode cX2_part 13 = .ok (.aload_n 0, 1) := by decide +kernel
theorem dX2_part_14 : decode cX2_part 14 = .ok (.getfield 19, 3) := by decide +kernel
theorem dX2_part_17 : decode cX2_part 17 = .ok (.iload_n 2, 1) := by decide +kernel
theorem dX2_part_18 : decode cX2_part 18 = .ok (.iload_n 1, 1) := by decide +kernel
theorem dX2_part_19 : decode cX2_part 19 = .ok (.invokevirtual 69, 3) := by decide +kernel
theorem dX2_part_22 : decode cX2_part 22 = .ok (.ifCond .eq 31, 3) := by decide +kernel
theorem dX2_part_25 : decode cX2_part 25 = .ok (.aload_n 0, 1) := by decide +kernel
theorem dX2_part_26 : decode cX2_part 26 = .ok (.getfield 19, 3) := by decide +kernel
theorem dX2_part_29 : decode cX2_part 29 = .ok (.iconst 1, 1) := by decide +kernel
theorem dX2_part_30 : decode cX2_part 30 = .ok (.iload_n 2, 1) := by decide +kernel
theorem dX2_part_31 : decode cX2_part 31 = .ok (.ishl, 1) := by decide +kernel
theorem dX2_part_32 : decode cX2_part 32 = .ok (.invokevirtual 57, 3) := by decide +kernel
theorem dX2_part_35 : decode cX2_part 35 = .ok (.aload_n 0, 1) := by decide +kernel
theorem dX2_part_36 : decode cX2_part 36 = .ok (.getfield 19, 3) := by decide +kernel
theorem dX2_part_39 : decode cX2_part 39 = .ok (.getfield 72, 3) := by decide +kernel
theorem dX2_part_42 : decode cX2_part 42 = .ok (.aload_n 0, 1) := by decide +kernel
theorem dX2_part_43 : decode cX2_part 43 = .ok (.getfield 19, 3) := by decide +kernel
theorem dX2_part_46 : decode cX2_part 46 = .ok (.getfield 75, 3) := by decide +kernel
theorem dX2_part_49 : decode cX2_part 49 = .ok (.iload_n 2, 1) := by decide +kernel
theorem dX2_part_50 : decode cX2_part 50 = .ok (.iaload, 1) := by decide +kernel
theorem dX2_part_51 : decode cX2_part 51 = .ok (.iconst 0, 1) := by decide +kernel
theorem dX2_part_52 : decode cX2_part 52 = .ok (.bastore, 1) := by decide +kernel
theorem dX2_part_53 : decode cX2_part 53 = .ok (.iinc 2 1, 3) := by decide +kernel
theorem dX2_part_56 : decode cX2_part 56 = .ok (.goto (-54), 3) := by decide +kernel
theorem dX2_part_59 : decode cX2_part 59 = .ok (.aload_n 0, 1) := by decide +kernel
theorem dX2_part_60 : decode cX2_part 60 = .ok (.getfield 23, 3) := by decide +kernel
theorem dX2_part_63 : decode cX2_part 63 = .ok (.iload_n 1, 1) := by decide +kernel
theorem dX2_part_64 : decode cX2_part 64 = .ok (.invokevirtual 61, 3) := by decide +kernel
theorem dX2_part_67 : decode cX2_part 67 = .ok (.return_, 1) := by decide +kernel
set_option maxRecDepth 20000 in
theorem ggX2_leave_X2_mateOf : GoodIn wsX2_leave wsX2_mateOf := goodIn_r _ [7, 1, 8, 9, 10, 75, 76, 77, 78, 79, 80, 81, 82, 83, 84, 85, 86, 87, 88, 89, 90] (by decide +kernel) (by decide +kernel)
set_option maxRecDepth 20000 in
theorem gX2_leave_X2_mateOf : GoodIn wsX2_leave (wsV RX2 78 RX2 yX2_mateOf wsX2_mateOf) := goodIn_app (goodIn_of _ (by decide +kernel)) ggX2_leave_X2_mateOf
set_option maxRecDepth 20000 in
theorem ggX2_leave_X4_groupOf : GoodIn wsX2_leave wsX4_groupOf := goodIn_r _ [15, 16, 17, 18, 79, 80, 81, 82, 83, 84, 85, 86, 87, 88, 89, 90] (by decide +kernel) (by decide +kernel)
set_option maxRecDepth 20000 in
theorem gX2_leave_X4_groupOf : GoodIn wsX2_leave (wsV RX2 51 RX4 yX4_groupOf wsX4_groupOf) := goodIn_app (goodIn_of _ (by decide +kernel)) ggX2_leave_X4_groupOf
set_option maxRecDepth 20000 in
theorem ggX2_leave_X4_bitOf : GoodIn wsX2_leave wsX4_bitOf := goodIn_r _ [22, 16, 18, 79, 80, 81, 82, 83, 84, 85, 86, 87, 88, 89, 90] (by decide +kernel) (by decide +kernel)
set_option maxRecDepth 20000 in
theorem gX2_leave_X4_bitOf : GoodIn wsX2_leave (wsV RX2 81 RX4 yX4_bitOf wsX4_bitOf) := goodIn_app (goodIn_of _ (by decide +kernel)) ggX2_leave_X4_bitOf
set_option maxRecDepth 20000 in
theorem ggX2_leave_X4_group : GoodIn wsX2_leave wsX4_group := goodIn_r _ [26, 16, 18, 17, 27, 28, 29, 14, 30, 79, 80, 81, 82, 83, 84, 85, 86, 87, 88, 89, 90] (by decide +kernel) (by decide +kernel)
set_option maxRecDepth 20000 in
theorem gX2_leave_X4_group : GoodIn wsX2_leave (wsV RX2 57 RX4 yX4_group wsX4_group) := goodIn_app (goodIn_of _ (by decide +kernel)) ggX2_leave_X4_group
set_option maxRecDepth 20000 in
theorem ggX2_leave_X4_end : GoodIn wsX2_leave wsX4_end := goodIn_r _ [34, 35, 17, 36, 37, 38, 14, 39, 16, 40, 18, 79, 80, 81, 82, 83, 84, 85, 86, 87, 88, 89, 90] (by decide +kernel) (by decide +kernel)
set_option maxRecDepth 20000 in
theorem gX2_leave_X4_end : GoodIn wsX2_leave (wsV RX2 84 RX4 yX4_end wsX4_end) := goodIn_app (goodIn_of _ (by decide +kernel)) ggX2_leave_X4_end
set_option maxRecDepth 20000 in
theorem ggX2_leave_X5_giveAnew : GoodIn wsX2_leave wsX5_giveAnew := goodIn_r _ [45, 46, 47, 48, 49, 28, 29, 14, 30, 50, 51, 52, 44, 53, 54, 55, 56, 57, 58, 59, 60, 61, 62, 63, 64, 65, 66, 67, 68, 69, 70, 71, 72, 73, 74, 91, 92, 79, 80, 81, 82, 83, 84, 85, 86, 87, 88, 89, 90] (by decide +kernel) (by decide +kernel)
set_option maxRecDepth 20000 in
theorem gX2_leave_X5_giveAnew : GoodIn wsX2_leave (wsV RX2 61 RX5 yX5_giveAnew wsX5_giveAnew) := goodIn_app (goodIn_of _ (by decide +kernel)) ggX2_leave_X5_giveAnew
theorem dX2_leave_0 : decode cX2_leave 0 = .ok (.aload_n 0, 1) := by decide +kernel
theorem dX2_leave_1 : decode cX2_leave 1 = .ok (.iload_n 1, 1) := by decide +kernel
theorem dX2_leave_2 : decode cX2_leave 2 = .ok (.invokevirtual 78, 3) := by decide +kernel
theorem dX2_leave_5 : decode cX2_leave 5 = .ok (.istore_n 2, 1) := by decide +kernel
theorem dX2_leave_6 : decode cX2_leave 6 = .ok (.aload_n 0, 1) := by decide +kernel
theorem dX2_leave_7 : decode cX2_leave 7 = .ok (.getfield 19, 3) := by decide +kernel
theorem dX2_leave_10 : decode cX2_leave 10 = .ok (.aload_n 0, 1) := by decide +kernel
theorem dX2_leave_11 : decode cX2_leave 11 = .ok (.getfield 19, 3) := by decide +kernel
theorem dX2_leave_14 : decode cX2_leave 14 = .ok (.iload_n 1, 1) := by decide +kernel
theorem dX2_leave_15 : decode cX2_leave 15 = .ok (.invokevirtual 51, 3) := by decide +kernel
theorem dX2_leave_18 : decode cX2_leave 18 = .ok (.aload_n 0, 1) := by decide +kernel
theorem dX2_leave_19 : decode cX2_leave 19 = .ok (.getfield 19, 3) := by decide +kernel
theorem dX2_leave_22 : decode cX2_leave 22 = .ok (.iload_n 1, 1) := by decide +kernel
theorem dX2_leave_23 : decode cX2_leave 23 = .ok (.invokevirtual 81, 3) := by decide +kernel
theorem dX2_leave_26 : decode cX2_leave 26 = .ok (.iconst (-1), 1) := by decide +kernel
theorem dX2_leave_27 : decode cX2_leave 27 = .ok (.ixor, 1) := by decide +kernel
theorem dX2_leave_28 : decode cX2_leave 28 = .ok (.iand, 1) := by decide +kernel
theorem dX2_leave_29 : decode cX2_leave 29 = .ok (.invokevirtual 57, 3) := by decide +kernel
theorem dX2_leave_32 : decode cX2_leave 32 = .ok (.aload_n 0, 1) := by decide +kernel
theorem dX2_leave_33 : decode cX2_leave 33 = .ok (.getfield 19, 3) := by decide +kernel
theorem dX2_leave_36 : decode cX2_leave 36 = .ok (.iload_n 1, 1) := by decide +kernel
theorem dX2_leave_37 : decode cX2_leave 37 = .ok (.iconst 3, 1) := by decide +kernel
theorem dX2_leave_38 : decode cX2_leave 38 = .ok (.invokevirtual 84, 3) := by decide +kernel
theorem dX2_leave_41 : decode cX2_leave 41 = .ok (.iload_n 2, 1) := by decide +kernel
theorem dX2_leave_42 : decode cX2_leave 42 = .ok (.iconst (-1), 1) := by decide +kernel
theorem dX2_leave_43 : decode cX2_leave 43 = .ok (.if_icmp .eq 18, 3) := by decide +kernel
theorem dX2_leave_46 : decode cX2_leave 46 = .ok (.aload_n 0, 1) := by decide +kernel
theorem dX2_leave_47 : decode cX2_leave 47 = .ok (.getfield 23, 3) := by decide +kernel
theorem dX2_leave_50 : decode cX2_leave 50 = .ok (.aload_n 0, 1) := by decide +kernel
theorem dX2_leave_51 : decode cX2_leave 51 = .ok (.getfield 19, 3) := by decide +kernel
theorem dX2_leave_54 : decode cX2_leave 54 = .ok (.iload_n 2, 1) := by decide +kernel
theorem dX2_leave_55 : decode cX2_leave 55 = .ok (.invokevirtual 51, 3) := by decide +kernel
theorem dX2_leave_58 : decode cX2_leave 58 = .ok (.invokevirtual 61, 3) := by decide +kernel
theorem dX2_leave_61 : decode cX2_leave 61 = .ok (.return_, 1) := by decide +kernel
theorem dX2_mateOf_0 : decode cX2_mateOf 0 = .ok (.iconst 0, 1) := by decide +kernel
theorem dX2_mateOf_1 : decode cX2_mateOf 1 = .ok (.istore_n 2, 1) := by decide +kernel
theorem dX2_mateOf_2 : decode cX2_mateOf 2 = .ok (.iload_n 2, 1) := by decide +kernel
theorem dX2_mateOf_3 : decode cX2_mateOf 3 = .ok (.aload_n 0, 1) := by decide +kernel
theorem dX2_mateOf_4 : decode cX2_mateOf 4 = .ok (.getfield 19, 3) := by decide +kernel
theorem dX2_mateOf_7 : decode cX2_mateOf 7 = .ok (.getfield 66, 3) := by decide +kernel
theorem dX2_mateOf_10 : decode cX2_mateOf 10 = .ok (.if_icmp .ge 47, 3) := by decide +kernel
theorem dX2_mateOf_13 : decode cX2_mateOf 13 = .ok (.aload_n 0, 1) := by decide +kernel
theorem dX2_mateOf_14 : decode cX2_mateOf 14 = .ok (.getfield 19, 3) := by decide +kernel
theorem dX2_mateOf_17 : decode cX2_mateOf 17 = .ok (.getfield 75, 3) := by decide +kernel
theorem dX2_mateOf_20 : decode cX2_mateOf 20 = .ok (.iload_n 2, 1) := by decide +kernel
theorem dX2_mateOf_21 : decode cX2_mateOf 21 = .ok (.iaload, 1) := by decide +kernel
theorem dX2_mateOf_22 : decode cX2_mateOf 22 = .ok (.istore_n 3, 1) := by decide +kernel
theorem dX2_mateOf_23 : decode cX2_mateOf 23 = .ok (.iload_n 3, 1) := by decide +kernel
theorem dX2_mateOf_24 : decode cX2_mateOf 24 = .ok (.iload_n 1, 1) := by decide +kernel
theorem dX2_mateOf_25 : decode cX2_mateOf 25 = .ok (.if_icmp .eq 26, 3) := by decide +kernel
theorem dX2_mateOf_28 : decode cX2_mateOf 28 = .ok (.aload_n 0, 1) := by decide +kernel
theorem dX2_mateOf_29 : decode cX2_mateOf 29 = .ok (.getfield 19, 3) := by decide +kernel
theorem dX2_mateOf_32 : decode cX2_mateOf 32 = .ok (.getfield 32, 3) := by decide +kernel
theorem dX2_mateOf_35 : decode cX2_mateOf 35 = .ok (.iload_n 3, 1) := by decide +kernel
theorem dX2_mateOf_36 : decode cX2_mateOf 36 = .ok (.iaload, 1) := by decide +kernel
theorem dX2_mateOf_37 : decode cX2_mateOf 37 = .ok (.aload_n 0, 1) := by decide +kernel
theorem dX2_mateOf_38 : decode cX2_mateOf 38 = .ok (.getfield 19, 3) := by decide +kernel
theorem dX2_mateOf_41 : decode cX2_mateOf 41 = .ok (.getfield 32, 3) := by decide +kernel
theorem dX2_mateOf_44 : decode cX2_mateOf 44 = .ok (.iload_n 1, 1) := by decide +kernel
theorem dX2_mateOf_45 : decode cX2_mateOf 45 = .ok (.iaload, 1) := by decide +kernel
theorem dX2_mateOf_46 : decode cX2_mateOf 46 = .ok (.if_icmp .ne 5, 3) := by decide +kernel
theorem dX2_mateOf_49 : decode cX2_mateOf 49 = .ok (.iload_n 3, 1) := by decide +kernel
theorem dX2_mateOf_50 : decode cX2_mateOf 50 = .ok (.ireturn, 1) := by decide +kernel
theorem dX2_mateOf_51 : decode cX2_mateOf 51 = .ok (.iinc 2 1, 3) := by decide +kernel
theorem dX2_mateOf_54 : decode cX2_mateOf 54 = .ok (.goto (-52), 3) := by decide +kernel
theorem dX2_mateOf_57 : decode cX2_mateOf 57 = .ok (.iconst (-1), 1) := by decide +kernel
theorem dX2_mateOf_58 : decode cX2_mateOf 58 = .ok (.ireturn, 1) := by decide +kernel
theorem dX3_init_0 : decode cX3_init 0 = .ok (.aload_n 0, 1) := by decide +kernel
theorem dX3_init_1 : decode cX3_init 1 = .ok (.invokespecial 3, 3) := by decide +kernel
theorem dX3_init_4 : decode cX3_init 4 = .ok (.aload_n 0, 1) := by decide +kernel
theorem dX3_init_5 : decode cX3_init 5 = .ok (.bipush 12, 2) := by decide +kernel
theorem dX3_init_7 : decode cX3_init 7 = .ok (.newarray .int, 2) := by decide +kernel
theorem dX3_init_9 : decode cX3_init 9 = .ok (.putfield 9, 3) := by decide +kernel
theorem dX3_init_12 : decode cX3_init 12 = .ok (.aload_n 0, 1) := by decide +kernel
theorem dX3_init_13 : decode cX3_init 13 = .ok (.bipush 12, 2) := by decide +kernel
theorem dX3_init_15 : decode cX3_init 15 = .ok (.newarray .int, 2) := by decide +kernel
theorem dX3_init_17 : decode cX3_init 17 = .ok (.putfield 15, 3) := by decide +kernel
theorem dX3_init_20 : decode cX3_init 20 = .ok (.aload_n 0, 1) := by decide +kernel
theorem dX3_init_21 : decode cX3_init 21 = .ok (.bipush 20, 2) := by decide +kernel
theorem dX3_init_23 : decode cX3_init 23 = .ok (.newarray .int, 2) := by decide +kernel
theorem dX3_init_25 : decode cX3_init 25 = .ok (.putfield 18, 3) := by decide +kernel
theorem dX3_init_28 : decode cX3_init 28 = .ok (.aload_n 0, 1) := by decide +kernel
theorem dX3_init_29 : decode cX3_init 29 = .ok (.bipush 20, 2) := by decide +kernel
theorem dX3_init_31 : decode cX3_init 31 = .ok (.newarray .int, 2) := by decide +kernel
theorem dX3_init_33 : decode cX3_init 33 = .ok (.putfield 21, 3) := by decide +kernel
theorem dX3_init_36 : decode cX3_init 36 = .ok (.aload_n 0, 1) := by decide +kernel
theorem dX3_init_37 : decode cX3_init 37 = .ok (.bipush 20, 2) := by decide +kernel
theorem dX3_init_39 : decode cX3_init 39 = .ok (.newarray .int, 2) := by decide +kernel
theorem dX3_init_41 : decode cX3_init 41 = .ok (.putfield 24, 3) := by decide +kernel
theorem dX3_init_44 : decode cX3_init 44 = .ok (.aload_n 0, 1) := by decide +kernel
theorem dX3_init_45 : decode cX3_init 45 = .ok (.bipush 20, 2) := by decide +kernel
theorem dX3_init_47 : decode cX3_init 47 = .ok (.newarray .int, 2) := by decide +kernel
theorem dX3_init_49 : decode cX3_init 49 = .ok (.putfield 27, 3) := by decide +kernel
theorem dX3_init_52 : decode cX3_init 52 = .ok (.aload_n 0, 1) := by decide +kernel
theorem dX3_init_53 : decode cX3_init 53 = .ok (.iconst 0, 1) := by decide +kernel
theorem dX3_init_54 : decode cX3_init 54 = .ok (.putfield 30, 3) := by decide +kernel
theorem dX3_init_57 : decode cX3_init 57 = .ok (.aload_n 0, 1) := by decide +kernel
theorem dX3_init_58 : decode cX3_init 58 = .ok (.iconst 0, 1) := by decide +kernel
theorem dX3_init_59 : decode cX3_init 59 = .ok (.putfield 34, 3) := by decide +kernel
theorem dX3_init_62 : decode cX3_init 62 = .ok (.return_, 1) := by decide +kernel
theorem dX3_add_0 : decode cX3_add 0 = .ok (.aload_n 0, 1) := by decide +kernel
theorem dX3_add_1 : decode cX3_add 1 = .ok (.getfield 9, 3) := by decide +kernel
theorem dX3_add_4 : decode cX3_add 4 = .ok (.aload_n 0, 1) := by decide +kernel
theorem dX3_add_5 : decode cX3_add 5 = .ok (.getfield 30, 3) := by decide +kernel
theorem dX3_add_8 : decode cX3_add 8 = .ok (.iload_n 1, 1) := by decide +kernel
theorem dX3_add_9 : decode cX3_add 9 = .ok (.iastore, 1) := by decide +kernel
theorem dX3_add_10 : decode cX3_add 10 = .ok (.aload_n 0, 1) := by decide +kernel
theorem dX3_add_11 : decode cX3_add 11 = .ok (.dup, 1) := by decide +kernel
theorem dX3_add_12 : decode cX3_add 12 = .ok (.getfield 30, 3) := by decide +kernel
theorem dX3_add_15 : decode cX3_add 15 = .ok (.iconst 1, 1) := by decide +kernel
theorem dX3_add_16 : decode cX3_add 16 = .ok (.iadd, 1) := by decide +kernel
theorem dX3_add_17 : decode cX3_add 17 = .ok (.putfield 30, 3) := by decide +kernel
theorem dX3_add_20 : decode cX3_add 20 = .ok (.aload_n 0, 1) := by decide +kernel
theorem dX3_add_21 : decode cX3_add 21 = .ok (.getfield 30, 3) := by decide +kernel
theorem dX3_add_24 : decode cX3_add 24 = .ok (.iconst 1, 1) := by decide +kernel
theorem dX3_add_25 : decode cX3_add 25 = .ok (.isub, 1) := by decide +kernel
theorem dX3_add_26 : decode cX3_add 26 = .ok (.ireturn, 1) := by decide +kernel
theorem dX3_addNeed_0 : decode cX3_addNeed 0 = .ok (.aload_n 0, 1) := by decide +kernel
theorem dX3_addNeed_1 : decode cX3_addNeed 1 = .ok (.getfield 18, 3) := by decide +kernel
theorem dX3_addNeed_4 : decode cX3_addNeed 4 = .ok (.aload_n 0, 1) := by decide +kernel
theorem dX3_addNeed_5 : decode cX3_addNeed 5 = .ok (.getfield 34, 3) := by decide +kernel
theorem dX3_addNeed_8 : decode cX3_addNeed 8 = .ok (.iload_n 1, 1) := by decide +kernel
theorem dX3_addNeed_9 : decode cX3_addNeed 9 = .ok (.iastore, 1) := by decide +kernel
theorem dX3_addNeed_10 : decode cX3_addNeed 10 = .ok (.aload_n 0, 1) := by decide +kernel
theorem dX3_addNeed_11 : decode cX3_addNeed 11 = .ok (.getfield 21, 3) := by decide +kernel
theorem dX3_addNeed_14 : decode cX3_addNeed 14 = .ok (.aload_n 0, 1) := by decide +kernel
theorem dX3_addNeed_15 : decode cX3_addNeed 15 = .ok (.getfield 34, 3) := by decide +kernel
theorem dX3_addNeed_18 : decode cX3_addNeed 18 = .ok (.iload_n 2, 1) := by decide +kernel
theorem dX3_addNeed_19 : decode cX3_addNeed 19 = .ok (.iastore, 1) := by decide +kernel
theorem dX3_addNeed_20 : decode cX3_addNeed 20 = .ok (.aload_n 0, 1) := by decide +kernel
theorem dX3_addNeed_21 : decode cX3_addNeed 21 = .ok (.getfield 24, 3) := by decide +kernel
theorem dX3_addNeed_24 : decode cX3_addNeed 24 = .ok (.aload_n 0, 1) := by decide +kernel
theorem dX3_addNeed_25 : decode cX3_addNeed 25 = .ok (.getfield 34, 3) := by decide +kernel
theorem dX3_addNeed_28 : decode cX3_addNeed 28 = .ok (.iload_n 3, 1) := by decide +kernel
theorem dX3_addNeed_29 : decode cX3_addNeed 29 = .ok (.iastore, 1) := by decide +kernel
theorem dX3_addNeed_30 : decode cX3_addNeed 30 = .ok (.aload_n 0, 1) := by decide +kernel
theorem dX3_addNeed_31 : decode cX3_addNeed 31 = .ok (.getfield 27, 3) := by decide +kernel
theorem dX3_addNeed_34 : decode cX3_addNeed 34 = .ok (.aload_n 0, 1) := by decide +kernel
theorem dX3_addNeed_35 : decode cX3_addNeed 35 = .ok (.getfield 34, 3) := by decide +kernel
theorem dX3_addNeed_38 : decode cX3_addNeed 38 = .ok (.iload 4, 2) := by decide +kernel
theorem dX3_addNeed_40 : decode cX3_addNeed 40 = .ok (.iastore, 1) := by decide +kernel
theorem dX3_addNeed_41 : decode cX3_addNeed 41 = .ok (.aload_n 0, 1) := by decide +kernel
theorem dX3_addNeed_42 : decode cX3_addNeed 42 = .ok (.dup, 1) := by decide +kernel
theorem dX3_addNeed_43 : decode cX3_addNeed 43 = .ok (.getfield 34, 3) := by decide +kernel
theorem dX3_addNeed_46 : decode cX3_addNeed 46 = .ok (.iconst 1, 1) := by decide +kernel
theorem dX3_addNeed_47 : decode cX3_addNeed 47 = .ok (.iadd, 1) := by decide +kernel
theorem dX3_addNeed_48 : decode cX3_addNeed 48 = .ok (.putfield 34, 3) := by decide +kernel
theorem dX3_addNeed_51 : decode cX3_addNeed 51 = .ok (.aload_n 0, 1) := by decide +kernel
theorem dX3_addNeed_52 : decode cX3_addNeed 52 = .ok (.getfield 34, 3) := by decide +kernel
theorem dX3_addNeed_55 : decode cX3_addNeed 55 = .ok (.ireturn, 1) := by decide +kernel
theorem dX3_startPlan_0 : decode cX3_startPlan 0 = .ok (.iconst 0, 1) := by decide +kernel
theorem dX3_startPlan_1 : decode cX3_startPlan 1 = .ok (.istore_n 1, 1) := by decide +kernel
theorem dX3_startPlan_2 : decode cX3_startPlan 2 = .ok (.iload_n 1, 1) := by decide +kernel
theorem dX3_startPlan_3 : decode cX3_startPlan 3 = .ok (.aload_n 0, 1) := by decide +kernel
theorem dX3_startPlan_4 : decode cX3_startPlan 4 = .ok (.getfield 30, 3) := by decide +kernel
theorem dX3_startPlan_7 : decode cX3_startPlan 7 = .ok (.if_icmp .ge 21, 3) := by decide +kernel
theorem dX3_startPlan_10 : decode cX3_startPlan 10 = .ok (.aload_n 0, 1) := by decide +kernel
theorem dX3_startPlan_11 : decode cX3_startPlan 11 = .ok (.getfield 15, 3) := by decide +kernel
theorem dX3_startPlan_14 : decode cX3_startPlan 14 = .ok (.iload_n 1, 1) := by decide +kernel
theorem dX3_startPlan_15 : decode cX3_startPlan 15 = .ok (.aload_n 0, 1) := by decide +kernel
theorem dX3_startPlan_16 : decode cX3_startPlan 16 = .ok (.getfield 9, 3) := by decide +kernel
theorem dX3_startPlan_19 : decode cX3_startPlan 19 = .ok (.iload_n 1, 1) := by decide +kernel
theorem dX3_startPlan_20 : decode cX3_startPlan 20 = .ok (.iaload, 1) := by decide +kernel
theorem dX3_startPlan_21 : decode cX3_startPlan 21 = .ok (.iastore, 1) := by decide +kernel
theorem dX3_startPlan_22 : decode cX3_startPlan 22 = .ok (.iinc 1 1, 3) := by decide +kernel
theorem dX3_startPlan_25 : decode cX3_startPlan 25 = .ok (.goto (-23), 3) := by decide +kernel
theorem dX3_startPlan_28 : decode cX3_startPlan 28 = .ok (.return_, 1) := by decide +kernel
set_option maxRecDepth 20000 in
theorem ggX3_failingInPlan_X3_holdsInPlan : GoodIn wsX3_failingInPlan wsX3_holdsInPlan := goodIn_r _ [6, 7, 8, 9, 10, 11, 12, 13, 14, 15, 16, 17, 18, 19, 20, 21, 22] (by decide +kernel) (by decide +kernel)
set_option maxRecDepth 20000 in
theorem gX3_failingInPlan_X3_holdsInPlan : GoodIn wsX3_failingInPlan (wsV RX3 37 RX3 yX3_holdsInPlan wsX3_holdsInPlan) := goodIn_app (goodIn_of _ (by decide +kernel)) ggX3_failingInPlan_X3_holdsInPlan
theorem dX3_failingInPlan_0 : decode cX3_failingInPlan 0 = .ok (.iconst 0, 1) := by decide +kernel
theorem dX3_failingInPlan_1 : decode cX3_failingInPlan 1 = .ok (.istore_n 1, 1) := by decide +kernel
theorem dX3_failingInPlan_2 : decode cX3_failingInPlan 2 = .ok (.iconst 0, 1) := by decide +kernel
theorem dX3_failingInPlan_3 : decode cX3_failingInPlan 3 = .ok (.istore_n 2, 1) := by decide +kernel
theorem dX3_failingInPlan_4 : decode cX3_failingInPlan 4 = .ok (.iload_n 2, 1) := by decide +kernel
theorem dX3_failingInPlan_5 : decode cX3_failingInPlan 5 = .ok (.aload_n 0, 1) := by decide +kernel
theorem dX3_failingInPlan_6 : decode cX3_failingInPlan 6 = .ok (.getfield 34, 3) := by decide +kernel
theorem dX3_failingInPlan_9 : decode cX3_failingInPlan 9 = .ok (.if_icmp .ge 20, 3) := by decide +kernel
theorem dX3_failingInPlan_12 : decode cX3_failingInPlan 12 = .ok (.aload_n 0, 1) := by decide +kernel
theorem dX3_failingInPlan_13 : decode cX3_failingInPlan 13 = .ok (.iload_n 2, 1) := by decide +kernel
theorem dX3_failingInPlan_14 : decode cX3_failingInPlan 14 = .ok (.invokevirtual 37, 3) := by decide +kernel
theorem dX3_failingInPlan_17 : decode cX3_failingInPlan 17 = .ok (.ifCond .ne 6, 3) := by decide +kernel
theorem dX3_failingInPlan_20 : decode cX3_failingInPlan 20 = .ok (.iinc 1 1, 3) := by decide +kernel
theorem dX3_failingInPlan_23 : decode cX3_failingInPlan 23 = .ok (.iinc 2 1, 3) := by decide +kernel
theorem dX3_failingInPlan_26 : decode cX3_failingInPlan 26 = .ok (.goto (-22), 3) := by decide +kernel
theorem dX3_failingInPlan_29 : decode cX3_failingInPlan 29 = .ok (.iload_n 1, 1) := by decide +kernel
theorem dX3_failingInPlan_30 : decode cX3_failingInPlan 30 = .ok (.ireturn, 1) := by decide +kernel
set_option maxRecDepth 20000 in
theorem ggX3_firstFailingInPlan_X3_holdsInPlan : GoodIn wsX3_firstFailingInPlan wsX3_holdsInPlan := goodIn_r _ [6, 7, 8, 9, 10, 11, 12, 13, 14, 15, 16, 17, 18, 19, 20, 21, 22] (by decide +kernel) (by decide +kernel)
set_option maxRecDepth 20000 in
theorem gX3_firstFailingInPlan_X3_holdsInPlan : GoodIn wsX3_firstFailingInPlan (wsV RX3 37 RX3 yX3_holdsInPlan wsX3_holdsInPlan) := goodIn_app (goodIn_of _ (by decide +kernel)) ggX3_firstFailingInPlan_X3_holdsInPlan
theorem dX3_firstFailingInPlan_0 : decode cX3_firstFailingInPlan 0 = .ok (.iconst 0, 1) := by decide +kernel
theorem dX3_firstFailingInPlan_1 : decode cX3_firstFailingInPlan 1 = .ok (.istore_n 1, 1) := by decide +kernel
theorem dX3_firstFailingInPlan_2 : decode cX3_firstFailingInPlan 2 = .ok (.iload_n 1, 1) := by decide +kernel
theorem dX3_firstFailingInPlan_3 : decode cX3_firstFailingInPlan 3 = .ok (.aload_n 0, 1) := by decide +kernel
theorem dX3_firstFailingInPlan_4 : decode cX3_firstFailingInPlan 4 = .ok (.getfield 34, 3) := by decide +kernel
theorem dX3_firstFailingInPlan_7 : decode cX3_firstFailingInPlan 7 = .ok (.if_icmp .ge 19, 3) := by decide +kernel
theorem dX3_firstFailingInPlan_10 : decode cX3_firstFailingInPlan 10 = .ok (.aload_n 0, 1) := by decide +kernel
theorem dX3_firstFailingInPlan_11 : decode cX3_firstFailingInPlan 11 = .ok (.iload_n 1, 1) := by decide +kernel
theorem dX3_firstFailingInPlan_12 : decode cX3_firstFailingInPlan 12 = .ok (.invokevirtual 37, 3) := by decide +kernel
theorem dX3_firstFailingInPlan_15 : decode cX3_firstFailingInPlan 15 = .ok (.ifCond .ne 5, 3) := by decide +kernel
theorem dX3_firstFailingInPlan_18 : decode cX3_firstFailingInPlan 18 = .ok (.iload_n 1, 1) := by decide +kernel
theorem dX3_firstFailingInPlan_19 : decode cX3_firstFailingInPlan 19 = .ok (.ireturn, 1) := by decide +kernel
theorem dX3_firstFailingInPlan_20 : decode cX3_firstFailingInPlan 20 = .ok (.iinc 1 1, 3) := by decide +kernel
theorem dX3_firstFailingInPlan_23 : decode cX3_firstFailingInPlan 23 = .ok (.goto (-21), 3) := by decide +kernel
theorem dX3_firstFailingInPlan_26 : decode cX3_firstFailingInPlan 26 = .ok (.iconst (-1), 1) := by decide +kernel
theorem dX3_firstFailingInPlan_27 : decode cX3_firstFailingInPlan 27 = .ok (.ireturn, 1) := by decide +kernel
set_option maxRecDepth 20000 in
theorem ggX3_holdsInPlan_X6_isWithin : GoodIn wsX3_holdsInPlan wsX6_isWithin := goodIn_r _ [8] (by decide +kernel) (by decide +kernel)
set_option maxRecDepth 20000 in
theorem gX3_holdsInPlan_X6_isWithin_n41 : GoodIn wsX3_holdsInPlan (wsX6_isWithin) := ggX3_holdsInPlan_X6_isWithin
theorem dX3_holdsInPlan_0 : decode cX3_holdsInPlan 0 = .ok (.aload_n 0, 1) := by decide +kernel
theorem dX3_holdsInPlan_1 : decode cX3_holdsInPlan 1 = .ok (.getfield 15, 3) := by decide +kernel
theorem dX3_holdsInPlan_4 : decode cX3_holdsInPlan 4 = .ok (.aload_n 0, 1) := by decide +kernel
theorem dX3_holdsInPlan_5 : decode cX3_holdsInPlan 5 = .ok (.getfield 21, 3) := by decide +kernel
theorem dX3_holdsInPlan_8 : decode cX3_holdsInPlan 8 = .ok (.iload_n 1, 1) := by decide +kernel
theorem dX3_holdsInPlan_9 : decode cX3_holdsInPlan 9 = .ok (.iaload, 1) := by decide +kernel
theorem dX3_holdsInPlan_10 : decode cX3_holdsInPlan 10 = .ok (.iaload, 1) := by decide +kernel
theorem dX3_holdsInPlan_11 : decode cX3_holdsInPlan 11 = .ok (.aload_n 0, 1) := by decide +kernel
theorem dX3_holdsInPlan_12 : decode cX3_holdsInPlan 12 = .ok (.getfield 15, 3) := by decide +kernel
theorem dX3_holdsInPlan_15 : decode cX3_holdsInPlan 15 = .ok (.aload_n 0, 1) := by decide +kernel
theorem dX3_holdsInPlan_16 : decode cX3_holdsInPlan 16 = .ok (.getfield 18, 3) := by decide +kernel
theorem dX3_holdsInPlan_19 : decode cX3_holdsInPlan 19 = .ok (.iload_n 1, 1) := by decide +kernel
theorem dX3_holdsInPlan_20 : decode cX3_holdsInPlan 20 = .ok (.iaload, 1) := by decide +kernel
theorem dX3_holdsInPlan_21 : decode cX3_holdsInPlan 21 = .ok (.iaload, 1) := by decide +kernel
theorem dX3_holdsInPlan_22 : decode cX3_holdsInPlan 22 = .ok (.isub, 1) := by decide +kernel
theorem dX3_holdsInPlan_23 : decode cX3_holdsInPlan 23 = .ok (.istore_n 2, 1) := by decide +kernel
theorem dX3_holdsInPlan_24 : decode cX3_holdsInPlan 24 = .ok (.iload_n 2, 1) := by decide +kernel
theorem dX3_holdsInPlan_25 : decode cX3_holdsInPlan 25 = .ok (.aload_n 0, 1) := by decide +kernel
theorem dX3_holdsInPlan_26 : decode cX3_holdsInPlan 26 = .ok (.getfield 24, 3) := by decide +kernel
theorem dX3_holdsInPlan_29 : decode cX3_holdsInPlan 29 = .ok (.iload_n 1, 1) := by decide +kernel
theorem dX3_holdsInPlan_30 : decode cX3_holdsInPlan 30 = .ok (.iaload, 1) := by decide +kernel
theorem dX3_holdsInPlan_31 : decode cX3_holdsInPlan 31 = .ok (.aload_n 0, 1) := by decide +kernel
theorem dX3_holdsInPlan_32 : decode cX3_holdsInPlan 32 = .ok (.getfield 27, 3) := by decide +kernel
theorem dX3_holdsInPlan_35 : decode cX3_holdsInPlan 35 = .ok (.iload_n 1, 1) := by decide +kernel
theorem dX3_holdsInPlan_36 : decode cX3_holdsInPlan 36 = .ok (.iaload, 1) := by decide +kernel
theorem dX3_holdsInPlan_37 : decode cX3_holdsInPlan 37 = .ok (.invokestatic 41, 3) := by decide +kernel
theorem dX3_holdsInPlan_40 : decode cX3_holdsInPlan 40 = .ok (.ireturn, 1) := by decide +kernel
theorem dX4_init_0 : decode cX4_init 0 = .ok (.aload_n 0, 1) := by decide +kernel
theorem dX4_init_1 : decode cX4_init 1 = .ok (.invokespecial 3, 3) := by decide +kernel
theorem dX4_init_4 : decode cX4_init 4 = .ok (.aload_n 0, 1) := by decide +kernel
theorem dX4_init_5 : decode cX4_init 5 = .ok (.bipush 40, 2) := by decide +kernel
theorem dX4_init_7 : decode cX4_init 7 = .ok (.newarray .int, 2) := by decide +kernel
theorem dX4_init_9 : decode cX4_init 9 = .ok (.putfield 9, 3) := by decide +kernel
theorem dX4_init_12 : decode cX4_init 12 = .ok (.aload_n 0, 1) := by decide +kernel
theorem dX4_init_13 : decode cX4_init 13 = .ok (.bipush 40, 2) := by decide +kernel
theorem dX4_init_15 : decode cX4_init 15 = .ok (.newarray .int, 2) := by decide +kernel
theorem dX4_init_17 : decode cX4_init 17 = .ok (.putfield 15, 3) := by decide +kernel
theorem dX4_init_20 : decode cX4_init 20 = .ok (.aload_n 0, 1) := by decide +kernel
theorem dX4_init_21 : decode cX4_init 21 = .ok (.bipush 40, 2) := by decide +kernel
theorem dX4_init_23 : decode cX4_init 23 = .ok (.newarray .int, 2) := by decide +kernel
theorem dX4_init_25 : decode cX4_init 25 = .ok (.putfield 18, 3) := by decide +kernel
theorem dX4_init_28 : decode cX4_init 28 = .ok (.aload_n 0, 1) := by decide +kernel
theorem dX4_init_29 : decode cX4_init 29 = .ok (.bipush 40, 2) := by decide +kernel
theorem dX4_init_31 : decode cX4_init 31 = .ok (.newarray .int, 2) := by decide +kernel
theorem dX4_init_33 : decode cX4_init 33 = .ok (.putfield 21, 3) := by decide +kernel
theorem dX4_init_36 : decode cX4_init 36 = .ok (.aload_n 0, 1) := by decide +kernel
theorem dX4_init_37 : decode cX4_init 37 = .ok (.bipush 40, 2) := by decide +kernel
theorem dX4_init_39 : decode cX4_init 39 = .ok (.newarray .int, 2) := by decide +kernel
theorem dX4_init_41 : decode cX4_init 41 = .ok (.putfield 24, 3) := by decide +kernel
theorem dX4_init_44 : decode cX4_init 44 = .ok (.aload_n 0, 1) := by decide +kernel
theorem dX4_init_45 : decode cX4_init 45 = .ok (.bipush 40, 2) := by decide +kernel
theorem dX4_init_47 : decode cX4_init 47 = .ok (.newarray .int, 2) := by decide +kernel
theorem dX4_init_49 : decode cX4_init 49 = .ok (.putfield 27, 3) := by decide +kernel
theorem dX4_init_52 : decode cX4_init 52 = .ok (.aload_n 0, 1) := by decide +kernel
theorem dX4_init_53 : decode cX4_init 53 = .ok (.bipush 40, 2) := by decide +kernel
theorem dX4_init_55 : decode cX4_init 55 = .ok (.newarray .boolean, 2) := by decide +kernel
theorem dX4_init_57 : decode cX4_init 57 = .ok (.putfield 30, 3) := by decide +kernel
theorem dX4_init_60 : decode cX4_init 60 = .ok (.aload_n 0, 1) := by decide +kernel
theorem dX4_init_61 : decode cX4_init 61 = .ok (.bipush 40, 2) := by decide +kernel
theorem dX4_init_63 : decode cX4_init 63 = .ok (.newarray .int, 2) := by decide +kernel
theorem dX4_init_65 : decode cX4_init 65 = .ok (.putfield 34, 3) := by decide +kernel
theorem dX4_init_68 : decode cX4_init 68 = .ok (.aload_n 0, 1) := by decide +kernel
theorem dX4_init_69 : decode cX4_init 69 = .ok (.bipush 10, 2) := by decide +kernel
theorem dX4_init_71 : decode cX4_init 71 = .ok (.newarray .int, 2) := by decide +kernel
theorem dX4_init_73 : decode cX4_init 73 = .ok (.putfield 37, 3) := by decide +kernel
theorem dX4_init_76 : decode cX4_init 76 = .ok (.aload_n 0, 1) := by decide +kernel
theorem dX4_init_77 : decode cX4_init 77 = .ok (.iconst 0, 1) := by decide +kernel
theorem dX4_init_78 : decode cX4_init 78 = .ok (.putfield 40, 3) := by decide +kernel
theorem dX4_init_81 : decode cX4_init 81 = .ok (.aload_n 0, 1) := by decide +kernel
theorem dX4_init_82 : decode cX4_init 82 = .ok (.iconst 0, 1) := by decide +kernel
theorem dX4_init_83 : decode cX4_init 83 = .ok (.putfield 44, 3) := by decide +kernel
theorem dX4_init_86 : decode cX4_init 86 = .ok (.aload_n 0, 1) := by decide +kernel
theorem dX4_init_87 : decode cX4_init 87 = .ok (.aload_n 1, 1) := by decide +kernel
theorem dX4_init_88 : decode cX4_init 88 = .ok (.putfield 47, 3) := by decide +kernel
theorem dX4_init_91 : decode cX4_init 91 = .ok (.return_, 1) := by decide +kernel
set_option maxRecDepth 20000 in
theorem ggX4_add_X4_listOpen : GoodIn wsX4_add wsX4_listOpen := goodIn_r _ [14, 15, 1, 6, 16, 17, 18, 19, 20, 21, 22, 23, 24, 25, 26, 27, 28] (by decide +kernel) (by decide +kernel)
set_option maxRecDepth 20000 in
theorem gX4_add_X4_listOpen : GoodIn wsX4_add (wsV RX4 51 RX4 yX4_listOpen wsX4_listOpen) := goodIn_app (goodIn_of _ (by decide +kernel)) ggX4_add_X4_listOpen
theorem dX4_add_0 : decode cX4_add 0 = .ok (.aload_n 0, 1) := by decide +kernel
theorem dX4_add_1 : decode cX4_add 1 = .ok (.getfield 40, 3) := by decide +kernel
theorem dX4_add_4 : decode cX4_add 4 = .ok (.istore 5, 2) := by decide +kernel
theorem dX4_add_6 : decode cX4_add 6 = .ok (.aload_n 0, 1) := by decide +kernel
theorem dX4_add_7 : decode cX4_add 7 = .ok (.getfield 9, 3) := by decide +kernel
theorem dX4_add_10 : decode cX4_add 10 = .ok (.iload 5, 2) := by decide +kernel
theorem dX4_add_12 : decode cX4_add 12 = .ok (.iload_n 1, 1) := by decide +kernel
theorem dX4_add_13 : decode cX4_add 13 = .ok (.iastore, 1) := by decide +kernel
theorem dX4_add_14 : decode cX4_add 14 = .ok (.aload_n 0, 1) := by decide +kernel
theorem dX4_add_15 : decode cX4_add 15 = .ok (.getfield 15, 3) := by decide +kernel
theorem dX4_add_18 : decode cX4_add 18 = .ok (.iload 5, 2) := by decide +kernel
theorem dX4_add_20 : decode cX4_add 20 = .ok (.iload_n 2, 1) := by decide +kernel
theorem dX4_add_21 : decode cX4_add 21 = .ok (.iastore, 1) := by decide +kernel
theorem dX4_add_22 : decode cX4_add 22 = .ok (.aload_n 0, 1) := by decide +kernel
theorem dX4_add_23 : decode cX4_add 23 = .ok (.getfield 18, 3) := by decide +kernel
theorem dX4_add_26 : decode cX4_add 26 = .ok (.iload 5, 2) := by decide +kernel
theorem dX4_add_28 : decode cX4_add 28 = .ok (.iload_n 3, 1) := by decide +kernel
theorem dX4_add_29 : decode cX4_add 29 = .ok (.iastore, 1) := by decide +kernel
theorem dX4_add_30 : decode cX4_add 30 = .ok (.aload_n 0, 1) := by decide +kernel
theorem dX4_add_31 : decode cX4_add 31 = .ok (.getfield 21, 3) := by decide +kernel
theorem dX4_add_34 : decode cX4_add 34 = .ok (.iload 5, 2) := by decide +kernel
theorem dX4_add_36 : decode cX4_add 36 = .ok (.iload 4, 2) := by decide +kernel
theorem dX4_add_38 : decode cX4_add 38 = .ok (.iastore, 1) := by decide +kernel
theorem dX4_add_39 : decode cX4_add 39 = .ok (.aload_n 0, 1) := by decide +kernel
theorem dX4_add_40 : decode cX4_add 40 = .ok (.getfield 24, 3) := by decide +kernel
theorem dX4_add_43 : decode cX4_add 43 = .ok (.iload 5, 2) := by decide +kernel
theorem dX4_add_45 : decode cX4_add 45 = .ok (.iconst 0, 1) := by decide +kernel
theorem dX4_add_46 : decode cX4_add 46 = .ok (.iastore, 1) := by decide +kernel
theorem dX4_add_47 : decode cX4_add 47 = .ok (.aload_n 0, 1) := by decide +kernel
theorem dX4_add_48 : decode cX4_add 48 = .ok (.getfield 27, 3) := by decide +kernel
theorem dX4_add_51 : decode cX4_add 51 = .ok (.iload 5, 2) := by decide +kernel
theorem dX4_add_53 : decode cX4_add 53 = .ok (.iconst (-1), 1) := by decide +kernel
theorem dX4_add_54 : decode cX4_add 54 = .ok (.iastore, 1) := by decide +kernel
theorem dX4_add_55 : decode cX4_add 55 = .ok (.aload_n 0, 1) := by decide +kernel
theorem dX4_add_56 : decode cX4_add 56 = .ok (.getfield 30, 3) := by decide +kernel
theorem dX4_add_59 : decode cX4_add 59 = .ok (.iload 5, 2) := by decide +kernel
theorem dX4_add_61 : decode cX4_add 61 = .ok (.iconst 0, 1) := by decide +kernel
theorem dX4_add_62 : decode cX4_add 62 = .ok (.bastore, 1) := by decide +kernel
theorem dX4_add_63 : decode cX4_add 63 = .ok (.aload_n 0, 1) := by decide +kernel
theorem dX4_add_64 : decode cX4_add 64 = .ok (.getfield 34, 3) := by decide +kernel
theorem dX4_add_67 : decode cX4_add 67 = .ok (.iload 5, 2) := by decide +kernel
theorem dX4_add_69 : decode cX4_add 69 = .ok (.iload 5, 2) := by decide +kernel
theorem dX4_add_71 : decode cX4_add 71 = .ok (.iastore, 1) := by decide +kernel
theorem dX4_add_72 : decode cX4_add 72 = .ok (.aload_n 0, 1) := by decide +kernel
theorem dX4_add_73 : decode cX4_add 73 = .ok (.dup, 1) := by decide +kernel
theorem dX4_add_74 : decode cX4_add 74 = .ok (.getfield 40, 3) := by decide +kernel
theorem dX4_add_77 : decode cX4_add 77 = .ok (.iconst 1, 1) := by decide +kernel
theorem dX4_add_78 : decode cX4_add 78 = .ok (.iadd, 1) := by decide +kernel
theorem dX4_add_79 : decode cX4_add 79 = .ok (.putfield 40, 3) := by decide +kernel
theorem dX4_add_82 : decode cX4_add 82 = .ok (.aload_n 0, 1) := by decide +kernel
theorem dX4_add_83 : decode cX4_add 83 = .ok (.invokevirtual 51, 3) := by decide +kernel
theorem dX4_add_86 : decode cX4_add 86 = .ok (.iload 5, 2) := by decide +kernel
theorem dX4_add_88 : decode cX4_add 88 = .ok (.ireturn, 1) := by decide +kernel
set_option maxRecDepth 20000 in
theorem ggX4_end_X4_listOpen : GoodIn wsX4_end wsX4_listOpen := goodIn_r _ [7, 8, 9, 1, 10, 11, 12, 13, 14, 15, 16, 17, 18, 19, 20, 21, 22] (by decide +kernel) (by decide +kernel)
set_option maxRecDepth 20000 in
theorem gX4_end_X4_listOpen : GoodIn wsX4_end (wsV RX4 51 RX4 yX4_listOpen wsX4_listOpen) := goodIn_app (goodIn_of _ (by decide +kernel)) ggX4_end_X4_listOpen
theorem dX4_end_0 : decode cX4_end 0 = .ok (.aload_n 0, 1) := by decide +kernel
theorem dX4_end_1 : decode cX4_end 1 = .ok (.getfield 24, 3) := by decide +kernel
theorem dX4_end_4 : decode cX4_end 4 = .ok (.iload_n 1, 1) := by decide +kernel
theorem dX4_end_5 : decode cX4_end 5 = .ok (.iload_n 2, 1) := by decide +kernel
theorem dX4_end_6 : decode cX4_end 6 = .ok (.iastore, 1) := by decide +kernel
theorem dX4_end_7 : decode cX4_end 7 = .ok (.aload_n 0, 1) := by decide +kernel
theorem dX4_end_8 : decode cX4_end 8 = .ok (.getfield 34, 3) := by decide +kernel
theorem dX4_end_11 : decode cX4_end 11 = .ok (.iload_n 1, 1) := by decide +kernel
theorem dX4_end_12 : decode cX4_end 12 = .ok (.iconst (-1), 1) := by decide +kernel
theorem dX4_end_13 : decode cX4_end 13 = .ok (.iastore, 1) := by decide +kernel
theorem dX4_end_14 : decode cX4_end 14 = .ok (.aload_n 0, 1) := by decide +kernel
theorem dX4_end_15 : decode cX4_end 15 = .ok (.invokevirtual 51, 3) := by decide +kernel
theorem dX4_end_18 : decode cX4_end 18 = .ok (.return_, 1) := by decide +kernel
theorem dX4_listOpen_0 : decode cX4_listOpen 0 = .ok (.aload_n 0, 1) := by decide +kernel
theorem dX4_listOpen_1 : decode cX4_listOpen 1 = .ok (.iconst 0, 1) := by decide +kernel
theorem dX4_listOpen_2 : decode cX4_listOpen 2 = .ok (.putfield 44, 3) := by decide +kernel
theorem dX4_listOpen_5 : decode cX4_listOpen 5 = .ok (.iconst 0, 1) := by decide +kernel
theorem dX4_listOpen_6 : decode cX4_listOpen 6 = .ok (.istore_n 1, 1) := by decide +kernel
theorem dX4_listOpen_7 : decode cX4_listOpen 7 = .ok (.iload_n 1, 1) := by decide +kernel
theorem dX4_listOpen_8 : decode cX4_listOpen 8 = .ok (.aload_n 0, 1) := by decide +kernel
theorem dX4_listOpen_9 : decode cX4_listOpen 9 = .ok (.getfield 40, 3) := by decide +kernel
theorem dX4_listOpen_12 : decode cX4_listOpen 12 = .ok (.if_icmp .ge 47, 3) := by decide +kernel
theorem dX4_listOpen_15 : decode cX4_listOpen 15 = .ok (.aload_n 0, 1) := by decide +kernel
theorem dX4_listOpen_16 : decode cX4_listOpen 16 = .ok (.getfield 24, 3) := by decide +kernel
theorem dX4_listOpen_19 : decode cX4_listOpen 19 = .ok (.iload_n 1, 1) := by decide +kernel
theorem dX4_listOpen_20 : decode cX4_listOpen 20 = .ok (.iaload, 1) := by decide +kernel
theorem dX4_listOpen_21 : decode cX4_listOpen 21 = .ok (.ifCond .ne 32, 3) := by decide +kernel
theorem dX4_listOpen_24 : decode cX4_listOpen 24 = .ok (.aload_n 0, 1) := by decide +kernel
theorem dX4_listOpen_25 : decode cX4_listOpen 25 = .ok (.getfield 44, 3) := by decide +kernel
theorem dX4_listOpen_28 : decode cX4_listOpen 28 = .ok (.bipush 10, 2) := by decide +kernel
theorem dX4_listOpen_30 : decode cX4_listOpen 30 = .ok (.if_icmp .ge 23, 3) := by decide +kernel
theorem dX4_listOpen_33 : decode cX4_listOpen 33 = .ok (.aload_n 0, 1) := by decide +kernel
theorem dX4_listOpen_34 : decode cX4_listOpen 34 = .ok (.getfield 37, 3) := by decide +kernel
theorem dX4_listOpen_37 : decode cX4_listOpen 37 = .ok (.aload_n 0, 1) := by decide +kernel
theorem dX4_listOpen_38 : decode cX4_listOpen 38 = .ok (.getfield 44, 3) := by decide +kernel
theorem dX4_listOpen_41 : decode cX4_listOpen 41 = .ok (.iload_n 1, 1) := by decide +kernel
theorem dX4_listOpen_42 : decode cX4_listOpen 42 = .ok (.iastore, 1) := by decide +kernel
theorem dX4_listOpen_43 : decode cX4_listOpen 43 = .ok (.aload_n 0, 1) := by decide +kernel
theorem dX4_listOpen_44 : decode cX4_listOpen 44 = .ok (.dup, 1) := by decide +kernel
theorem dX4_listOpen_45 : decode cX4_listOpen 45 = .ok (.getfield 44, 3) := by decide +kernel
theorem dX4_listOpen_48 : decode cX4_listOpen 48 = .ok (.iconst 1, 1) := by decide +kernel
theorem dX4_listOpen_49 : decode cX4_listOpen 49 = .ok (.iadd, 1) := by decide +kernel
theorem dX4_listOpen_50 : decode cX4_listOpen 50 = .ok (.putfield 44, 3) := by decide +kernel
theorem dX4_listOpen_53 : decode cX4_listOpen 53 = .ok (.iinc 1 1, 3) := by decide +kernel
theorem dX4_listOpen_56 : decode cX4_listOpen 56 = .ok (.goto (-49), 3) := by decide +kernel
theorem dX4_listOpen_59 : decode cX4_listOpen 59 = .ok (.return_, 1) := by decide +kernel
theorem dX4_isIn_0 : decode cX4_isIn 0 = .ok (.iload_n 2, 1) := by decide +kernel
theorem dX4_isIn_1 : decode cX4_isIn 1 = .ok (.iload_n 1, 1) := by decide +kernel
theorem dX4_isIn_2 : decode cX4_isIn 2 = .ok (.ishr, 1) := by decide +kernel
theorem dX4_isIn_3 : decode cX4_isIn 3 = .ok (.iconst 1, 1) := by decide +kernel
theorem dX4_isIn_4 : decode cX4_isIn 4 = .ok (.iand, 1) := by decide +kernel
theorem dX4_isIn_5 : decode cX4_isIn 5 = .ok (.ifCond .eq 7, 3) := by decide +kernel
theorem dX4_isIn_8 : decode cX4_isIn 8 = .ok (.iconst 1, 1) := by decide +kernel
theorem dX4_isIn_9 : decode cX4_isIn 9 = .ok (.goto 4, 3) := by decide +kernel
theorem dX4_isIn_12 : decode cX4_isIn 12 = .ok (.iconst 0, 1) := by decide +kernel
theorem dX4_isIn_13 : decode cX4_isIn 13 = .ok (.ireturn, 1) := by decide +kernel
theorem dX4_bitOf_0 : decode cX4_bitOf 0 = .ok (.iconst 0, 1) := by decide +kernel
theorem dX4_bitOf_1 : decode cX4_bitOf 1 = .ok (.istore_n 2, 1) := by decide +kernel
theorem dX4_bitOf_2 : decode cX4_bitOf 2 = .ok (.iload_n 2, 1) := by decide +kernel
theorem dX4_bitOf_3 : decode cX4_bitOf 3 = .ok (.aload_n 0, 1) := by decide +kernel
theorem dX4_bitOf_4 : decode cX4_bitOf 4 = .ok (.getfield 44, 3) := by decide +kernel
theorem dX4_bitOf_7 : decode cX4_bitOf 7 = .ok (.if_icmp .ge 23, 3) := by decide +kernel
theorem dX4_bitOf_10 : decode cX4_bitOf 10 = .ok (.aload_n 0, 1) := by decide +kernel
theorem dX4_bitOf_11 : decode cX4_bitOf 11 = .ok (.getfield 37, 3) := by decide +kernel
theorem dX4_bitOf_14 : decode cX4_bitOf 14 = .ok (.iload_n 2, 1) := by decide +kernel
theorem dX4_bitOf_15 : decode cX4_bitOf 15 = .ok (.iaload, 1) := by decide +kernel
theorem dX4_bitOf_16 : decode cX4_bitOf 16 = .ok (.iload_n 1, 1) := by decide +kernel
theorem dX4_bitOf_17 : decode cX4_bitOf 17 = .ok (.if_icmp .ne 7, 3) := by decide +kernel
theorem dX4_bitOf_20 : decode cX4_bitOf 20 = .ok (.iconst 1, 1) := by decide +kernel
theorem dX4_bitOf_21 : decode cX4_bitOf 21 = .ok (.iload_n 2, 1) := by decide +kernel
theorem dX4_bitOf_22 : decode cX4_bitOf 22 = .ok (.ishl, 1) := by decide +kernel
theorem dX4_bitOf_23 : decode cX4_bitOf 23 = .ok (.ireturn, 1) := by decide +kernel
theorem dX4_bitOf_24 : decode cX4_bitOf 24 = .ok (.iinc 2 1, 3) := by decide +kernel
theorem dX4_bitOf_27 : decode cX4_bitOf 27 = .ok (.goto (-25), 3) := by decide +kernel
theorem dX4_bitOf_30 : decode cX4_bitOf 30 = .ok (.iconst 0, 1) := by decide +kernel
theorem dX4_bitOf_31 : decode cX4_bitOf 31 = .ok (.ireturn, 1) := by decide +kernel
theorem dX4_bitOfPackage_0 : decode cX4_bitOfPackage 0 = .ok (.iconst 0, 1) := by decide +kernel
theorem dX4_bitOfPackage_1 : decode cX4_bitOfPackage 1 = .ok (.istore_n 2, 1) := by decide +kernel
theorem dX4_bitOfPackage_2 : decode cX4_bitOfPackage 2 = .ok (.iload_n 2, 1) := by decide +kernel
theorem dX4_bitOfPackage_3 : decode cX4_bitOfPackage 3 = .ok (.aload_n 0, 1) := by decide +kernel
theorem dX4_bitOfPackage_4 : decode cX4_bitOfPackage 4 = .ok (.getfield 44, 3) := by decide +kernel
theorem dX4_bitOfPackage_7 : decode cX4_bitOfPackage 7 = .ok (.if_icmp .ge 28, 3) := by decide +kernel
theorem dX4_bitOfPackage_10 : decode cX4_bitOfPackage 10 = .ok (.aload_n 0, 1) := by decide +kernel
theorem dX4_bitOfPackage_11 : decode cX4_bitOfPackage 11 = .ok (.getfield 9, 3) := by decide +kernel
theorem dX4_bitOfPackage_14 : decode cX4_bitOfPackage 14 = .ok (.aload_n 0, 1) := by decide +kernel
theorem dX4_bitOfPackage_15 : decode cX4_bitOfPackage 15 = .ok (.getfield 37, 3) := by decide +kernel
theorem dX4_bitOfPackage_18 : decode cX4_bitOfPackage 18 = .ok (.iload_n 2, 1) := by decide +kernel
theorem dX4_bitOfPackage_19 : decode cX4_bitOfPackage 19 = .ok (.iaload, 1) := by decide +kernel
theorem dX4_bitOfPackage_20 : decode cX4_bitOfPackage 20 = .ok (.iaload, 1) := by decide +kernel
theorem dX4_bitOfPackage_21 : decode cX4_bitOfPackage 21 = .ok (.iload_n 1, 1) := by decide +kernel
theorem dX4_bitOfPackage_22 : decode cX4_bitOfPackage 22 = .ok (.if_icmp .ne 7, 3) := by decide +kernel
theorem dX4_bitOfPackage_25 : decode cX4_bitOfPackage 25 = .ok (.iconst 1, 1) := by decide +kernel
theorem dX4_bitOfPackage_26 : decode cX4_bitOfPackage 26 = .ok (.iload_n 2, 1) := by decide +kernel
theorem dX4_bitOfPackage_27 : decode cX4_bitOfPackage 27 = .ok (.ishl, 1) := by decide +kernel
theorem dX4_bitOfPackage_28 : decode cX4_bitOfPackage 28 = .ok (.ireturn, 1) := by decide +kernel
theorem dX4_bitOfPackage_29 : decode cX4_bitOfPackage 29 = .ok (.iinc 2 1, 3) := by decide +kernel
theorem dX4_bitOfPackage_32 : decode cX4_bitOfPackage 32 = .ok (.goto (-30), 3) := by decide +kernel
theorem dX4_bitOfPackage_35 : decode cX4_bitOfPackage 35 = .ok (.iconst 0, 1) := by decide +kernel
theorem dX4_bitOfPackage_36 : decode cX4_bitOfPackage 36 = .ok (.ireturn, 1) := by decide +kernel
theorem dX4_groupOf_0 : decode cX4_groupOf 0 = .ok (.iconst 0, 1) := by decide +kernel
theorem dX4_groupOf_1 : decode cX4_groupOf 1 = .ok (.istore_n 2, 1) := by decide +kernel
theorem dX4_groupOf_2 : decode cX4_groupOf 2 = .ok (.iconst 0, 1) := by decide +kernel
theorem dX4_groupOf_3 : decode cX4_groupOf 3 = .ok (.istore_n 3, 1) := by decide +kernel
theorem dX4_groupOf_4 : decode cX4_groupOf 4 = .ok (.iload_n 3, 1) := by decide +kernel
theorem dX4_groupOf_5 : decode cX4_groupOf 5 = .ok (.aload_n 0, 1) := by decide +kernel
theorem dX4_groupOf_6 : decode cX4_groupOf 6 = .ok (.getfield 44, 3) := by decide +kernel
theorem dX4_groupOf_9 : decode cX4_groupOf 9 = .ok (.if_icmp .ge 35, 3) := by decide +kernel
theorem dX4_groupOf_12 : decode cX4_groupOf 12 = .ok (.aload_n 0, 1) := by decide +kernel
theorem dX4_groupOf_13 : decode cX4_groupOf 13 = .ok (.getfield 34, 3) := by decide +kernel
theorem dX4_groupOf_16 : decode cX4_groupOf 16 = .ok (.aload_n 0, 1) := by decide +kernel
theorem dX4_groupOf_17 : decode cX4_groupOf 17 = .ok (.getfield 37, 3) := by decide +kernel
theorem dX4_groupOf_20 : decode cX4_groupOf 20 = .ok (.iload_n 3, 1) := by decide +kernel
theorem dX4_groupOf_21 : decode cX4_groupOf 21 = .ok (.iaload, 1) := by decide +kernel
theorem dX4_groupOf_22 : decode cX4_groupOf 22 = .ok (.iaload, 1) := by decide +kernel
theorem dX4_groupOf_23 : decode cX4_groupOf 23 = .ok (.aload_n 0, 1) := by decide +kernel
theorem dX4_groupOf_24 : decode cX4_groupOf 24 = .ok (.getfield 34, 3) := by decide +kernel
theorem dX4_groupOf_27 : decode cX4_groupOf 27 = .ok (.iload_n 1, 1) := by decide +kernel
theorem dX4_groupOf_28 : decode cX4_groupOf 28 = .ok (.iaload, 1) := by decide +kernel
theorem dX4_groupOf_29 : decode cX4_groupOf 29 = .ok (.if_icmp .ne 9, 3) := by decide +kernel
theorem dX4_groupOf_32 : decode cX4_groupOf 32 = .ok (.iload_n 2, 1) := by decide +kernel
theorem dX4_groupOf_33 : decode cX4_groupOf 33 = .ok (.iconst 1, 1) := by decide +kernel
theorem dX4_groupOf_34 : decode cX4_groupOf 34 = .ok (.iload_n 3, 1) := by decide +kernel
theorem dX4_groupOf_35 : decode cX4_groupOf 35 = .ok (.ishl, 1) := by decide +kernel
theorem dX4_groupOf_36 : decode cX4_groupOf 36 = .ok (.ior, 1) := by decide +kernel
theorem dX4_groupOf_37 : decode cX4_groupOf 37 = .ok (.istore_n 2, 1) := by decide +kernel
theorem dX4_groupOf_38 : decode cX4_groupOf 38 = .ok (.iinc 3 1, 3) := by decide +kernel
theorem dX4_groupOf_41 : decode cX4_groupOf 41 = .ok (.goto (-37), 3) := by decide +kernel
theorem dX4_groupOf_44 : decode cX4_groupOf 44 = .ok (.iload_n 2, 1) := by decide +kernel
theorem dX4_groupOf_45 : decode cX4_groupOf 45 = .ok (.ireturn, 1) := by decide +kernel
set_option maxRecDepth 20000 in
theorem ggX4_group_X4_isIn : GoodIn wsX4_group wsX4_isIn := goodIn_r _ [8] (by decide +kernel) (by decide +kernel)
set_option maxRecDepth 20000 in
theorem gX4_group_X4_isIn : GoodIn wsX4_group (wsV RX4 54 RX4 yX4_isIn wsX4_isIn) := goodIn_app (goodIn_of _ (by decide +kernel)) ggX4_group_X4_isIn
theorem dX4_group_0 : decode cX4_group 0 = .ok (.iconst (-1), 1) := by decide +kernel
theorem dX4_group_1 : decode cX4_group 1 = .ok (.istore_n 2, 1) := by decide +kernel
theorem dX4_group_2 : decode cX4_group 2 = .ok (.iconst 0, 1) := by decide +kernel
theorem dX4_group_3 : decode cX4_group 3 = .ok (.istore_n 3, 1) := by decide +kernel
theorem dX4_group_4 : decode cX4_group 4 = .ok (.iload_n 3, 1) := by decide +kernel
theorem dX4_group_5 : decode cX4_group 5 = .ok (.aload_n 0, 1) := by decide +kernel
theorem dX4_group_6 : decode cX4_group 6 = .ok (.getfield 44, 3) := by decide +kernel
theorem dX4_group_9 : decode cX4_group 9 = .ok (.if_icmp .ge 46, 3) := by decide +kernel
theorem dX4_group_12 : decode cX4_group 12 = .ok (.aload_n 0, 1) := by decide +kernel
theorem dX4_group_13 : decode cX4_group 13 = .ok (.iload_n 3, 1) := by decide +kernel
theorem dX4_group_14 : decode cX4_group 14 = .ok (.iload_n 1, 1) := by decide +kernel
theorem dX4_group_15 : decode cX4_group 15 = .ok (.invokevirtual 54, 3) := by decide +kernel
theorem dX4_group_18 : decode cX4_group 18 = .ok (.ifCond .eq 31, 3) := by decide +kernel
theorem dX4_group_21 : decode cX4_group 21 = .ok (.iload_n 2, 1) := by decide +kernel
theorem dX4_group_22 : decode cX4_group 22 = .ok (.iconst (-1), 1) := by decide +kernel
theorem dX4_group_23 : decode cX4_group 23 = .ok (.if_icmp .ne 12, 3) := by decide +kernel
theorem dX4_group_26 : decode cX4_group 26 = .ok (.aload_n 0, 1) := by decide +kernel
theorem dX4_group_27 : decode cX4_group 27 = .ok (.getfield 37, 3) := by decide +kernel
theorem dX4_group_30 : decode cX4_group 30 = .ok (.iload_n 3, 1) := by decide +kernel
theorem dX4_group_31 : decode cX4_group 31 = .ok (.iaload, 1) := by decide +kernel
theorem dX4_group_32 : decode cX4_group 32 = .ok (.goto 4, 3) := by decide +kernel
theorem dX4_group_35 : decode cX4_group 35 = .ok (.iload_n 2, 1) := by decide +kernel
theorem dX4_group_36 : decode cX4_group 36 = .ok (.istore_n 2, 1) := by decide +kernel
theorem dX4_group_37 : decode cX4_group 37 = .ok (.aload_n 0, 1) := by decide +kernel
theorem dX4_group_38 : decode cX4_group 38 = .ok (.getfield 34, 3) := by decide +kernel
theorem dX4_group_41 : decode cX4_group 41 = .ok (.aload_n 0, 1) := by decide +kernel
theorem dX4_group_42 : decode cX4_group 42 = .ok (.getfield 37, 3) := by decide +kernel
theorem dX4_group_45 : decode cX4_group 45 = .ok (.iload_n 3, 1) := by decide +kernel
theorem dX4_group_46 : decode cX4_group 46 = .ok (.iaload, 1) := by decide +kernel
theorem dX4_group_47 : decode cX4_group 47 = .ok (.iload_n 2, 1) := by decide +kernel
theorem dX4_group_48 : decode cX4_group 48 = .ok (.iastore, 1) := by decide +kernel
theorem dX4_group_49 : decode cX4_group 49 = .ok (.iinc 3 1, 3) := by decide +kernel
theorem dX4_group_52 : decode cX4_group 52 = .ok (.goto (-48), 3) := by decide +kernel
theorem dX4_group_55 : decode cX4_group 55 = .ok (.return_, 1) := by decide +kernel
set_option maxRecDepth 20000 in
theorem ggX4_areApproved_X4_isIn : GoodIn wsX4_areApproved wsX4_isIn := goodIn_r _ [8] (by decide +kernel) (by decide +kernel)
set_option maxRecDepth 20000 in
theorem gX4_areApproved_X4_isIn : GoodIn wsX4_areApproved (wsV RX4 54 RX4 yX4_isIn wsX4_isIn) := goodIn_app (goodIn_of _ (by decide +kernel)) ggX4_areApproved_X4_isIn
theorem dX4_areApproved_0 : decode cX4_areApproved 0 = .ok (.iconst 0, 1) := by decide +kernel
theorem dX4_areApproved_1 : decode cX4_areApproved 1 = .ok (.istore_n 2, 1) := by decide +kernel
theorem dX4_areApproved_2 : decode cX4_areApproved 2 = .ok (.iload_n 2, 1) := by decide +kernel
theorem dX4_areApproved_3 : decode cX4_areApproved 3 = .ok (.aload_n 0, 1) := by decide +kernel
theorem dX4_areApproved_4 : decode cX4_areApproved 4 = .ok (.getfield 44, 3) := by decide +kernel
theorem dX4_areApproved_7 : decode cX4_areApproved 7 = .ok (.if_icmp .ge 34, 3) := by decide +kernel
theorem dX4_areApproved_10 : decode cX4_areApproved 10 = .ok (.aload_n 0, 1) := by decide +kernel
theorem dX4_areApproved_11 : decode cX4_areApproved 11 = .ok (.iload_n 2, 1) := by decide +kernel
theorem dX4_areApproved_12 : decode cX4_areApproved 12 = .ok (.iload_n 1, 1) := by decide +kernel
theorem dX4_areApproved_13 : decode cX4_areApproved 13 = .ok (.invokevirtual 54, 3) := by decide +kernel
theorem dX4_areApproved_16 : decode cX4_areApproved 16 = .ok (.ifCond .eq 19, 3) := by decide +kernel
theorem dX4_areApproved_19 : decode cX4_areApproved 19 = .ok (.aload_n 0, 1) := by decide +kernel
theorem dX4_areApproved_20 : decode cX4_areApproved 20 = .ok (.getfield 30, 3) := by decide +kernel
theorem dX4_areApproved_23 : decode cX4_areApproved 23 = .ok (.aload_n 0, 1) := by decide +kernel
theorem dX4_areApproved_24 : decode cX4_areApproved 24 = .ok (.getfield 37, 3) := by decide +kernel
theorem dX4_areApproved_27 : decode cX4_areApproved 27 = .ok (.iload_n 2, 1) := by decide +kernel
theorem dX4_areApproved_28 : decode cX4_areApproved 28 = .ok (.iaload, 1) := by decide +kernel
theorem dX4_areApproved_29 : decode cX4_areApproved 29 = .ok (.baload, 1) := by decide +kernel
theorem dX4_areApproved_30 : decode cX4_areApproved 30 = .ok (.ifCond .ne 5, 3) := by decide +kernel
theorem dX4_areApproved_33 : decode cX4_areApproved 33 = .ok (.iconst 0, 1) := by decide +kernel
theorem dX4_areApproved_34 : decode cX4_areApproved 34 = .ok (.ireturn, 1) := by decide +kernel
theorem dX4_areApproved_35 : decode cX4_areApproved 35 = .ok (.iinc 2 1, 3) := by decide +kernel
theorem dX4_areApproved_38 : decode cX4_areApproved 38 = .ok (.goto (-36), 3) := by decide +kernel
theorem dX4_areApproved_41 : decode cX4_areApproved 41 = .ok (.iconst 1, 1) := by decide +kernel
theorem dX4_areApproved_42 : decode cX4_areApproved 42 = .ok (.ireturn, 1) := by decide +kernel
set_option maxRecDepth 20000 in
theorem ggX4_packagesOf_X4_isIn : GoodIn wsX4_packagesOf wsX4_isIn := goodIn_r _ [8] (by decide +kernel) (by decide +kernel)
set_option maxRecDepth 20000 in
theorem gX4_packagesOf_X4_isIn : GoodIn wsX4_packagesOf (wsV RX4 54 RX4 yX4_isIn wsX4_isIn) := goodIn_app (goodIn_of _ (by decide +kernel)) ggX4_packagesOf_X4_isIn
theorem dX4_packagesOf_0 : decode cX4_packagesOf 0 = .ok (.iconst 0, 1) := by decide +kernel
theorem dX4_packagesOf_1 : decode cX4_packagesOf 1 = .ok (.istore_n 2, 1) := by decide +kernel
theorem dX4_packagesOf_2 : decode cX4_packagesOf 2 = .ok (.iconst 0, 1) := by decide +kernel
theorem dX4_packagesOf_3 : decode cX4_packagesOf 3 = .ok (.istore_n 3, 1) := by decide +kernel
theorem dX4_packagesOf_4 : decode cX4_packagesOf 4 = .ok (.iload_n 3, 1) := by decide +kernel
theorem dX4_packagesOf_5 : decode cX4_packagesOf 5 = .ok (.aload_n 0, 1) := by decide +kernel
theorem dX4_packagesOf_6 : decode cX4_packagesOf 6 = .ok (.getfield 44, 3) := by decide +kernel
theorem dX4_packagesOf_9 : decode cX4_packagesOf 9 = .ok (.if_icmp .ge 34, 3) := by decide +kernel
theorem dX4_packagesOf_12 : decode cX4_packagesOf 12 = .ok (.aload_n 0, 1) := by decide +kernel
theorem dX4_packagesOf_13 : decode cX4_packagesOf 13 = .ok (.iload_n 3, 1) := by decide +kernel
theorem dX4_packagesOf_14 : decode cX4_packagesOf 14 = .ok (.iload_n 1, 1) := by decide +kernel
theorem dX4_packagesOf_15 : decode cX4_packagesOf 15 = .ok (.invokevirtual 54, 3) := by decide +kernel
theorem dX4_packagesOf_18 : decode cX4_packagesOf 18 = .ok (.ifCond .eq 19, 3) := by decide +kernel
theorem dX4_packagesOf_21 : decode cX4_packagesOf 21 = .ok (.iload_n 2, 1) := by decide +kernel
theorem dX4_packagesOf_22 : decode cX4_packagesOf 22 = .ok (.iconst 1, 1) := by decide +kernel
theorem dX4_packagesOf_23 : decode cX4_packagesOf 23 = .ok (.aload_n 0, 1) := by decide +kernel
theorem dX4_packagesOf_24 : decode cX4_packagesOf 24 = .ok (.getfield 9, 3) := by decide +kernel
theorem dX4_packagesOf_27 : decode cX4_packagesOf 27 = .ok (.aload_n 0, 1) := by decide +kernel
theorem dX4_packagesOf_28 : decode cX4_packagesOf 28 = .ok (.getfield 37, 3) := by decide +kernel
theorem dX4_packagesOf_31 : decode cX4_packagesOf 31 = .ok (.iload_n 3, 1) := by decide +kernel
theorem dX4_packagesOf_32 : decode cX4_packagesOf 32 = .ok (.iaload, 1) := by decide +kernel
theorem dX4_packagesOf_33 : decode cX4_packagesOf 33 = .ok (.iaload, 1) := by decide +kernel
theorem dX4_packagesOf_34 : decode cX4_packagesOf 34 = .ok (.ishl, 1) := by decide +kernel
theorem dX4_packagesOf_35 : decode cX4_packagesOf 35 = .ok (.ior, 1) := by decide +kernel
theorem dX4_packagesOf_36 : decode cX4_packagesOf 36 = .ok (.istore_n 2, 1) := by decide +kernel
theorem dX4_packagesOf_37 : decode cX4_packagesOf 37 = .ok (.iinc 3 1, 3) := by decide +kernel
theorem dX4_packagesOf_40 : decode cX4_packagesOf 40 = .ok (.goto (-36), 3) := by decide +kernel
theorem dX4_packagesOf_43 : decode cX4_packagesOf 43 = .ok (.iload_n 2, 1) := by decide +kernel
theorem dX4_packagesOf_44 : decode cX4_packagesOf 44 = .ok (.ireturn, 1) := by decide +kernel
set_option maxRecDepth 20000 in
theorem ggX4_release_X4_isIn : GoodIn wsX4_release wsX4_isIn := goodIn_r _ [11] (by decide +kernel) (by decide +kernel)
set_option maxRecDepth 20000 in
theorem gX4_release_X4_isIn : GoodIn wsX4_release (wsV RX4 54 RX4 yX4_isIn wsX4_isIn) := goodIn_app (goodIn_of _ (by decide +kernel)) ggX4_release_X4_isIn
set_option maxRecDepth 20000 in
theorem ggX4_release_X4_end : GoodIn wsX4_release wsX4_end := goodIn_r _ [15, 16, 17, 18, 19, 20, 10, 21, 1, 22, 2, 23, 24, 25, 26, 27, 28, 29, 30, 31, 32, 33, 34] (by decide +kernel) (by decide +kernel)
set_option maxRecDepth 20000 in
theorem gX4_release_X4_end : GoodIn wsX4_release (wsV RX4 61 RX4 yX4_end wsX4_end) := goodIn_app (goodIn_of _ (by decide +kernel)) ggX4_release_X4_end
theorem dX4_release_0 : decode cX4_release 0 = .ok (.iload_n 1, 1) := by decide +kernel
theorem dX4_release_1 : decode cX4_release 1 = .ok (.istore_n 2, 1) := by decide +kernel
theorem dX4_release_2 : decode cX4_release 2 = .ok (.aload_n 0, 1) := by decide +kernel
theorem dX4_release_3 : decode cX4_release 3 = .ok (.getfield 44, 3) := by decide +kernel
theorem dX4_release_6 : decode cX4_release 6 = .ok (.iconst 1, 1) := by decide +kernel
theorem dX4_release_7 : decode cX4_release 7 = .ok (.isub, 1) := by decide +kernel
theorem dX4_release_8 : decode cX4_release 8 = .ok (.istore_n 3, 1) := by decide +kernel
theorem dX4_release_9 : decode cX4_release 9 = .ok (.iload_n 3, 1) := by decide +kernel
theorem dX4_release_10 : decode cX4_release 10 = .ok (.ifCond .lt 55, 3) := by decide +kernel
theorem dX4_release_13 : decode cX4_release 13 = .ok (.aload_n 0, 1) := by decide +kernel
theorem dX4_release_14 : decode cX4_release 14 = .ok (.iload_n 3, 1) := by decide +kernel
theorem dX4_release_15 : decode cX4_release 15 = .ok (.iload_n 2, 1) := by decide +kernel
theorem dX4_release_16 : decode cX4_release 16 = .ok (.invokevirtual 54, 3) := by decide +kernel
theorem dX4_release_19 : decode cX4_release 19 = .ok (.ifCond .eq 40, 3) := by decide +kernel
theorem dX4_release_22 : decode cX4_release 22 = .ok (.aload_n 0, 1) := by decide +kernel
theorem dX4_release_23 : decode cX4_release 23 = .ok (.getfield 37, 3) := by decide +kernel
theorem dX4_release_26 : decode cX4_release 26 = .ok (.iload_n 3, 1) := by decide +kernel
theorem dX4_release_27 : decode cX4_release 27 = .ok (.iaload, 1) := by decide +kernel
theorem dX4_release_28 : decode cX4_release 28 = .ok (.istore 4, 2) := by decide +kernel
theorem dX4_release_30 : decode cX4_release 30 = .ok (.aload_n 0, 1) := by decide +kernel
theorem dX4_release_31 : decode cX4_release 31 = .ok (.getfield 47, 3) := by decide +kernel
theorem dX4_release_34 : decode cX4_release 34 = .ok (.getfield 58, 3) := by decide +kernel
theorem dX4_release_37 : decode cX4_release 37 = .ok (.aload_n 0, 1) := by decide +kernel
theorem dX4_release_38 : decode cX4_release 38 = .ok (.getfield 9, 3) := by decide +kernel
theorem dX4_release_41 : decode cX4_release 41 = .ok (.iload 4, 2) := by decide +kernel
theorem dX4_release_43 : decode cX4_release 43 = .ok (.iaload, 1) := by decide +kernel
theorem dX4_release_44 : decode cX4_release 44 = .ok (.aload_n 0, 1) := by decide +kernel
theorem dX4_release_45 : decode cX4_release 45 = .ok (.getfield 15, 3) := by decide +kernel
theorem dX4_release_48 : decode cX4_release 48 = .ok (.iload 4, 2) := by decide +kernel
theorem dX4_release_50 : decode cX4_release 50 = .ok (.iaload, 1) := by decide +kernel
theorem dX4_release_51 : decode cX4_release 51 = .ok (.iastore, 1) := by decide +kernel
theorem dX4_release_52 : decode cX4_release 52 = .ok (.aload_n 0, 1) := by decide +kernel
theorem dX4_release_53 : decode cX4_release 53 = .ok (.iload 4, 2) := by decide +kernel
theorem dX4_release_55 : decode cX4_release 55 = .ok (.iconst 1, 1) := by decide +kernel
theorem dX4_release_56 : decode cX4_release 56 = .ok (.invokevirtual 61, 3) := by decide +kernel
theorem dX4_release_59 : decode cX4_release 59 = .ok (.iinc 3 (-1), 3) := by decide +kernel
theorem dX4_release_62 : decode cX4_release 62 = .ok (.goto (-53), 3) := by decide +kernel
theorem dX4_release_65 : decode cX4_release 65 = .ok (.return_, 1) := by decide +kernel
set_option maxRecDepth 20000 in
theorem ggX4_failing_X4_plan : GoodIn wsX4_failing wsX4_plan := goodIn_r _ [6, 1, 7, 8, 9, 10, 11, 12, 13, 14, 15, 16, 17, 18, 19, 20, 21, 22, 5, 23, 40, 41, 42, 43, 44, 45, 46, 47, 48, 49, 50, 51, 52, 53, 54, 55, 56, 57, 58, 59] (by decide +kernel) (by decide +kernel)
set_option maxRecDepth 20000 in
theorem gX4_failing_X4_plan : GoodIn wsX4_failing (wsV RX4 65 RX4 yX4_plan wsX4_plan) := goodIn_app (goodIn_of _ (by decide +kernel)) ggX4_failing_X4_plan
set_option maxRecDepth 20000 in
theorem ggX4_failing_X3_failingInPlan : GoodIn wsX4_failing wsX3_failingInPlan := goodIn_r _ [27, 28, 29, 30, 31, 15, 32, 18, 33, 34, 35, 36, 37, 38, 39, 52, 53, 54, 55, 56, 57, 58, 59] (by decide +kernel) (by decide +kernel)
set_option maxRecDepth 20000 in
theorem gX4_failing_X3_failingInPlan : GoodIn wsX4_failing (wsV RX4 69 RX3 yX3_failingInPlan wsX3_failingInPlan) := goodIn_app (goodIn_of _ (by decide +kernel)) ggX4_failing_X3_failingInPlan
theorem dX4_failing_0 : decode cX4_failing 0 = .ok (.aload_n 0, 1) := by decide +kernel
theorem dX4_failing_1 : decode cX4_failing 1 = .ok (.iload_n 1, 1) := by decide +kernel
theorem dX4_failing_2 : decode cX4_failing 2 = .ok (.invokevirtual 65, 3) := by decide +kernel
theorem dX4_failing_5 : decode cX4_failing 5 = .ok (.aload_n 0, 1) := by decide +kernel
theorem dX4_failing_6 : decode cX4_failing 6 = .ok (.getfield 47, 3) := by decide +kernel
theorem dX4_failing_9 : decode cX4_failing 9 = .ok (.invokevirtual 69, 3) := by decide +kernel
theorem dX4_failing_12 : decode cX4_failing 12 = .ok (.ireturn, 1) := by decide +kernel
set_option maxRecDepth 20000 in
theorem ggX4_firstFailing_X4_plan : GoodIn wsX4_firstFailing wsX4_plan := goodIn_r _ [6, 1, 7, 8, 9, 10, 11, 12, 13, 14, 15, 16, 17, 18, 19, 20, 21, 22, 5, 23, 40, 41, 42, 43, 44, 45, 46, 47, 48, 49, 50, 51, 52, 53, 54, 55, 56, 57, 58, 59] (by decide +kernel) (by decide +kernel)
set_option maxRecDepth 20000 in
theorem gX4_firstFailing_X4_plan : GoodIn wsX4_firstFailing (wsV RX4 65 RX4 yX4_plan wsX4_plan) := goodIn_app (goodIn_of _ (by decide +kernel)) ggX4_firstFailing_X4_plan
set_option maxRecDepth 20000 in
theorem ggX4_firstFailing_X3_firstFailingInPlan : GoodIn wsX4_firstFailing wsX3_firstFailingInPlan := goodIn_r _ [27, 28, 29, 30, 31, 15, 32, 18, 33, 34, 35, 36, 37, 38, 39, 52, 53, 54, 55, 56, 57, 58, 59] (by decide +kernel) (by decide +kernel)
set_option maxRecDepth 20000 in
theorem gX4_firstFailing_X3_firstFailingInPlan : GoodIn wsX4_firstFailing (wsV RX4 73 RX3 yX3_firstFailingInPlan wsX3_firstFailingInPlan) := goodIn_app (goodIn_of _ (by decide +kernel)) ggX4_firstFailing_X3_firstFailingInPlan
theorem dX4_firstFailing_0 : decode cX4_firstFailing 0 = .ok (.aload_n 0, 1) := by decide +kernel
theorem dX4_firstFailing_1 : decode cX4_firstFailing 1 = .ok (.iload_n 1, 1) := by decide +kernel
theorem dX4_firstFailing_2 : decode cX4_firstFailing 2 = .ok (.invokevirtual 65, 3) := by decide +kernel
theorem dX4_firstFailing_5 : decode cX4_firstFailing 5 = .ok (.aload_n 0, 1) := by decide +kernel
theorem dX4_firstFailing_6 : decode cX4_firstFailing 6 = .ok (.getfield 47, 3) := by decide +kernel
theorem dX4_firstFailing_9 : decode cX4_firstFailing 9 = .ok (.invokevirtual 73, 3) := by decide +kernel
theorem dX4_firstFailing_12 : decode cX4_firstFailing 12 = .ok (.ireturn, 1) := by decide +kernel
set_option maxRecDepth 20000 in
theorem ggX4_plan_X3_startPlan : GoodIn wsX4_plan wsX3_startPlan := goodIn_r _ [11, 12, 13, 14, 32, 33, 34, 35, 36, 37, 38, 39] (by decide +kernel) (by decide +kernel)
set_option maxRecDepth 20000 in
theorem gX4_plan_X3_startPlan : GoodIn wsX4_plan (wsV RX4 76 RX3 yX3_startPlan wsX3_startPlan) := goodIn_app (goodIn_of _ (by decide +kernel)) ggX4_plan_X3_startPlan
set_option maxRecDepth 20000 in
theorem ggX4_plan_X4_isIn : GoodIn wsX4_plan wsX4_isIn := goodIn_r _ [19] (by decide +kernel) (by decide +kernel)
set_option maxRecDepth 20000 in
theorem gX4_plan_X4_isIn : GoodIn wsX4_plan (wsV RX4 54 RX4 yX4_isIn wsX4_isIn) := goodIn_app (goodIn_of _ (by decide +kernel)) ggX4_plan_X4_isIn
theorem dX4_plan_0 : decode cX4_plan 0 = .ok (.aload_n 0, 1) := by decide +kernel
theorem dX4_plan_1 : decode cX4_plan 1 = .ok (.getfield 47, 3) := by decide +kernel
theorem dX4_plan_4 : decode cX4_plan 4 = .ok (.invokevirtual 76, 3) := by decide +kernel
theorem dX4_plan_7 : decode cX4_plan 7 = .ok (.iconst 0, 1) := by decide +kernel
theorem dX4_plan_8 : decode cX4_plan 8 = .ok (.istore_n 2, 1) := by decide +kernel
theorem dX4_plan_9 : decode cX4_plan 9 = .ok (.iload_n 2, 1) := by decide +kernel
theorem dX4_plan_10 : decode cX4_plan 10 = .ok (.aload_n 0, 1) := by decide +kernel
theorem dX4_plan_11 : decode cX4_plan 11 = .ok (.getfield 44, 3) := by decide +kernel
theorem dX4_plan_14 : decode cX4_plan 14 = .ok (.if_icmp .ge 48, 3) := by decide +kernel
theorem dX4_plan_17 : decode cX4_plan 17 = .ok (.aload_n 0, 1) := by decide +kernel
theorem dX4_plan_18 : decode cX4_plan 18 = .ok (.iload_n 2, 1) := by decide +kernel
theorem dX4_plan_19 : decode cX4_plan 19 = .ok (.iload_n 1, 1) := by decide +kernel
theorem dX4_plan_20 : decode cX4_plan 20 = .ok (.invokevirtual 54, 3) := by decide +kernel
theorem dX4_plan_23 : decode cX4_plan 23 = .ok (.ifCond .eq 33, 3) := by decide +kernel
theorem dX4_plan_26 : decode cX4_plan 26 = .ok (.aload_n 0, 1) := by decide +kernel
theorem dX4_plan_27 : decode cX4_plan 27 = .ok (.getfield 47, 3) := by decide +kernel
theorem dX4_plan_30 : decode cX4_plan 30 = .ok (.getfield 79, 3) := by decide +kernel
theorem dX4_plan_33 : decode cX4_plan 33 = .ok (.aload_n 0, 1) := by decide +kernel
theorem dX4_plan_34 : decode cX4_plan 34 = .ok (.getfield 9, 3) := by decide +kernel
theorem dX4_plan_37 : decode cX4_plan 37 = .ok (.aload_n 0, 1) := by decide +kernel
theorem dX4_plan_38 : decode cX4_plan 38 = .ok (.getfield 37, 3) := by decide +kernel
theorem dX4_plan_41 : decode cX4_plan 41 = .ok (.iload_n 2, 1) := by decide +kernel
theorem dX4_plan_42 : decode cX4_plan 42 = .ok (.iaload, 1) := by decide +kernel
theorem dX4_plan_43 : decode cX4_plan 43 = .ok (.iaload, 1) := by decide +kernel
theorem dX4_plan_44 : decode cX4_plan 44 = .ok (.aload_n 0, 1) := by decide +kernel
theorem dX4_plan_45 : decode cX4_plan 45 = .ok (.getfield 15, 3) := by decide +kernel
theorem dX4_plan_48 : decode cX4_plan 48 = .ok (.aload_n 0, 1) := by decide +kernel
theorem dX4_plan_49 : decode cX4_plan 49 = .ok (.getfield 37, 3) := by decide +kernel
theorem dX4_plan_52 : decode cX4_plan 52 = .ok (.iload_n 2, 1) := by decide +kernel
theorem dX4_plan_53 : decode cX4_plan 53 = .ok (.iaload, 1) := by decide +kernel
theorem dX4_plan_54 : decode cX4_plan 54 = .ok (.iaload, 1) := by decide +kernel
theorem dX4_plan_55 : decode cX4_plan 55 = .ok (.iastore, 1) := by decide +kernel
theorem dX4_plan_56 : decode cX4_plan 56 = .ok (.iinc 2 1, 3) := by decide +kernel
theorem dX4_plan_59 : decode cX4_plan 59 = .ok (.goto (-50), 3) := by decide +kernel
theorem dX4_plan_62 : decode cX4_plan 62 = .ok (.return_, 1) := by decide +kernel
theorem dX5_init_0 : decode cX5_init 0 = .ok (.aload_n 0, 1) := by decide +kernel
theorem dX5_init_1 : decode cX5_init 1 = .ok (.invokespecial 3, 3) := by decide +kernel
theorem dX5_init_4 : decode cX5_init 4 = .ok (.aload_n 0, 1) := by decide +kernel
theorem dX5_init_5 : decode cX5_init 5 = .ok (.bipush 6, 2) := by decide +kernel
theorem dX5_init_7 : decode cX5_init 7 = .ok (.newarray .int, 2) := by decide +kernel
theorem dX5_init_9 : decode cX5_init 9 = .ok (.putfield 9, 3) := by decide +kernel
theorem dX5_init_12 : decode cX5_init 12 = .ok (.aload_n 0, 1) := by decide +kernel
theorem dX5_init_13 : decode cX5_init 13 = .ok (.aload_n 1, 1) := by decide +kernel
theorem dX5_init_14 : decode cX5_init 14 = .ok (.putfield 15, 3) := by decide +kernel
theorem dX5_init_17 : decode cX5_init 17 = .ok (.iconst 0, 1) := by decide +kernel
theorem dX5_init_18 : decode cX5_init 18 = .ok (.istore_n 2, 1) := by decide +kernel
theorem dX5_init_19 : decode cX5_init 19 = .ok (.iload_n 2, 1) := by decide +kernel
theorem dX5_init_20 : decode cX5_init 20 = .ok (.bipush 6, 2) := by decide +kernel
theorem dX5_init_22 : decode cX5_init 22 = .ok (.if_icmp .ge 16, 3) := by decide +kernel
theorem dX5_init_25 : decode cX5_init 25 = .ok (.aload_n 0, 1) := by decide +kernel
theorem dX5_init_26 : decode cX5_init 26 = .ok (.getfield 9, 3) := by decide +kernel
theorem dX5_init_29 : decode cX5_init 29 = .ok (.iload_n 2, 1) := by decide +kernel
theorem dX5_init_30 : decode cX5_init 30 = .ok (.iconst 5, 1) := by decide +kernel
theorem dX5_init_31 : decode cX5_init 31 = .ok (.iastore, 1) := by decide +kernel
theorem dX5_init_32 : decode cX5_init 32 = .ok (.iinc 2 1, 3) := by decide +kernel
theorem dX5_init_35 : decode cX5_init 35 = .ok (.goto (-16), 3) := by decide +kernel
theorem dX5_init_38 : decode cX5_init 38 = .ok (.return_, 1) := by decide +kernel
theorem dX5_loadWithout_0 : decode cX5_loadWithout 0 = .ok (.iconst 0, 1) := by decide +kernel
theorem dX5_loadWithout_1 : decode cX5_loadWithout 1 = .ok (.istore_n 3, 1) := by decide +kernel
theorem dX5_loadWithout_2 : decode cX5_loadWithout 2 = .ok (.iconst 0, 1) := by decide +kernel
theorem dX5_loadWithout_3 : decode cX5_loadWithout 3 = .ok (.istore 4, 2) := by decide +kernel
theorem dX5_loadWithout_5 : decode cX5_loadWithout 5 = .ok (.iload 4, 2) := by decide +kernel
theorem dX5_loadWithout_7 : decode cX5_loadWithout 7 = .ok (.aload_n 0, 1) := by decide +kernel
theorem dX5_loadWithout_8 : decode cX5_loadWithout 8 = .ok (.getfield 15, 3) := by decide +kernel
theorem dX5_loadWithout_11 : decode cX5_loadWithout 11 = .ok (.getfield 19, 3) := by decide +kernel
theorem dX5_loadWithout_14 : decode cX5_loadWithout 14 = .ok (.if_icmp .ge 44, 3) := by decide +kernel
theorem dX5_loadWithout_17 : decode cX5_loadWithout 17 = .ok (.aload_n 0, 1) := by decide +kernel
theorem dX5_loadWithout_18 : decode cX5_loadWithout 18 = .ok (.getfield 15, 3) := by decide +kernel
theorem dX5_loadWithout_21 : decode cX5_loadWithout 21 = .ok (.getfield 25, 3) := by decide +kernel
theorem dX5_loadWithout_24 : decode cX5_loadWithout 24 = .ok (.iload 4, 2) := by decide +kernel
theorem dX5_loadWithout_26 : decode cX5_loadWithout 26 = .ok (.iaload, 1) := by decide +kernel
theorem dX5_loadWithout_27 : decode cX5_loadWithout 27 = .ok (.istore 5, 2) := by decide +kernel
theorem dX5_loadWithout_29 : decode cX5_loadWithout 29 = .ok (.iload 5, 2) := by decide +kernel
theorem dX5_loadWithout_31 : decode cX5_loadWithout 31 = .ok (.iload_n 2, 1) := by decide +kernel
theorem dX5_loadWithout_32 : decode cX5_loadWithout 32 = .ok (.if_icmp .eq 20, 3) := by decide +kernel
theorem dX5_loadWithout_35 : decode cX5_loadWithout 35 = .ok (.aload_n 0, 1) := by decide +kernel
theorem dX5_loadWithout_36 : decode cX5_loadWithout 36 = .ok (.getfield 15, 3) := by decide +kernel
theorem dX5_loadWithout_39 : decode cX5_loadWithout 39 = .ok (.getfield 28, 3) := by decide +kernel
theorem dX5_loadWithout_42 : decode cX5_loadWithout 42 = .ok (.iload 5, 2) := by decide +kernel
theorem dX5_loadWithout_44 : decode cX5_loadWithout 44 = .ok (.iaload, 1) := by decide +kernel
theorem dX5_loadWithout_45 : decode cX5_loadWithout 45 = .ok (.iload_n 1, 1) := by decide +kernel
theorem dX5_loadWithout_46 : decode cX5_loadWithout 46 = .ok (.if_icmp .ne 6, 3) := by decide +kernel
theorem dX5_loadWithout_49 : decode cX5_loadWithout 49 = .ok (.iinc 3 1, 3) := by decide +kernel
theorem dX5_loadWithout_52 : decode cX5_loadWithout 52 = .ok (.iinc 4 1, 3) := by decide +kernel
theorem dX5_loadWithout_55 : decode cX5_loadWithout 55 = .ok (.goto (-50), 3) := by decide +kernel
theorem dX5_loadWithout_58 : decode cX5_loadWithout 58 = .ok (.iload_n 3, 1) := by decide +kernel
theorem dX5_loadWithout_59 : decode cX5_loadWithout 59 = .ok (.ireturn, 1) := by decide +kernel
set_option maxRecDepth 20000 in
theorem ggX5_giveAnew_X4_isIn : GoodIn wsX5_giveAnew wsX4_isIn := goodIn_r _ [8] (by decide +kernel) (by decide +kernel)
set_option maxRecDepth 20000 in
theorem gX5_giveAnew_X4_isIn : GoodIn wsX5_giveAnew (wsV RX5 31 RX4 yX4_isIn wsX4_isIn) := goodIn_app (goodIn_of _ (by decide +kernel)) ggX5_giveAnew_X4_isIn
set_option maxRecDepth 20000 in
theorem ggX5_giveAnew_X5_hasOwnReviewer : GoodIn wsX5_giveAnew wsX5_hasOwnReviewer := goodIn_r _ [13, 1, 14, 15, 16, 17, 12, 18, 2, 3, 19, 35, 36, 37, 38, 39, 40, 41, 42, 43, 44, 45, 46, 47, 48] (by decide +kernel) (by decide +kernel)
set_option maxRecDepth 20000 in
theorem gX5_giveAnew_X5_hasOwnReviewer : GoodIn wsX5_giveAnew (wsV RX5 35 RX5 yX5_hasOwnReviewer wsX5_hasOwnReviewer) := goodIn_app (goodIn_of _ (by decide +kernel)) ggX5_giveAnew_X5_hasOwnReviewer
set_option maxRecDepth 20000 in
theorem ggX5_giveAnew_X5_bestFor : GoodIn wsX5_giveAnew wsX5_bestFor := goodIn_r _ [23, 24, 1, 25, 26, 27, 28, 12, 29, 2, 3, 14, 15, 16, 17, 18, 19, 35, 36, 37, 38, 39, 40, 41, 42, 43, 44, 45, 46, 47, 48] (by decide +kernel) (by decide +kernel)
set_option maxRecDepth 20000 in
theorem gX5_giveAnew_X5_bestFor : GoodIn wsX5_giveAnew (wsV RX5 39 RX5 yX5_bestFor wsX5_bestFor) := goodIn_app (goodIn_of _ (by decide +kernel)) ggX5_giveAnew_X5_bestFor
set_option maxRecDepth 20000 in
theorem ggX5_giveAnew_X5_give : GoodIn wsX5_giveAnew wsX5_give := goodIn_r _ [33, 1, 14, 34, 35, 36, 37, 38, 39, 40, 41, 42, 43, 44, 45, 46, 47, 48] (by decide +kernel) (by decide +kernel)
set_option maxRecDepth 20000 in
theorem gX5_giveAnew_X5_give : GoodIn wsX5_giveAnew (wsV RX5 43 RX5 yX5_give wsX5_give) := goodIn_app (goodIn_of _ (by decide +kernel)) ggX5_giveAnew_X5_give
theorem dX5_giveAnew_0 : decode cX5_giveAnew 0 = .ok (.iconst 0, 1) := by decide +kernel
theorem dX5_giveAnew_1 : decode cX5_giveAnew 1 = .ok (.istore_n 2, 1) := by decide +kernel
theorem dX5_giveAnew_2 : decode cX5_giveAnew 2 = .ok (.iload_n 2, 1) := by decide +kernel
theorem dX5_giveAnew_3 : decode cX5_giveAnew 3 = .ok (.aload_n 0, 1) := by decide +kernel
theorem dX5_giveAnew_4 : decode cX5_giveAnew 4 = .ok (.getfield 15, 3) := by decide +kernel
theorem dX5_giveAnew_7 : decode cX5_giveAnew 7 = .ok (.getfield 19, 3) := by decide +kernel
theorem dX5_giveAnew_10 : decode cX5_giveAnew 10 = .ok (.if_icmp .ge 49, 3) := by decide +kernel
theorem dX5_giveAnew_13 : decode cX5_giveAnew 13 = .ok (.aload_n 0, 1) := by decide +kernel
theorem dX5_giveAnew_14 : decode cX5_giveAnew 14 = .ok (.getfield 15, 3) := by decide +kernel
theorem dX5_giveAnew_17 : decode cX5_giveAnew 17 = .ok (.getfield 25, 3) := by decide +kernel
theorem dX5_giveAnew_20 : decode cX5_giveAnew 20 = .ok (.iload_n 2, 1) := by decide +kernel
theorem dX5_giveAnew_21 : decode cX5_giveAnew 21 = .ok (.iaload, 1) := by decide +kernel
theorem dX5_giveAnew_22 : decode cX5_giveAnew 22 = .ok (.istore_n 3, 1) := by decide +kernel
theorem dX5_giveAnew_23 : decode cX5_giveAnew 23 = .ok (.aload_n 0, 1) := by decide +kernel
theorem dX5_giveAnew_24 : decode cX5_giveAnew 24 = .ok (.getfield 15, 3) := by decide +kernel
theorem dX5_giveAnew_27 : decode cX5_giveAnew 27 = .ok (.iload_n 2, 1) := by decide +kernel
theorem dX5_giveAnew_28 : decode cX5_giveAnew 28 = .ok (.iload_n 1, 1) := by decide +kernel
theorem dX5_giveAnew_29 : decode cX5_giveAnew 29 = .ok (.invokevirtual 31, 3) := by decide +kernel
theorem dX5_giveAnew_32 : decode cX5_giveAnew 32 = .ok (.ifCond .eq 21, 3) := by decide +kernel
theorem dX5_giveAnew_35 : decode cX5_giveAnew 35 = .ok (.aload_n 0, 1) := by decide +kernel
theorem dX5_giveAnew_36 : decode cX5_giveAnew 36 = .ok (.iload_n 3, 1) := by decide +kernel
theorem dX5_giveAnew_37 : decode cX5_giveAnew 37 = .ok (.invokevirtual 35, 3) := by decide +kernel
theorem dX5_giveAnew_40 : decode cX5_giveAnew 40 = .ok (.ifCond .ne 13, 3) := by decide +kernel
theorem dX5_giveAnew_43 : decode cX5_giveAnew 43 = .ok (.aload_n 0, 1) := by decide +kernel
theorem dX5_giveAnew_44 : decode cX5_giveAnew 44 = .ok (.iload_n 3, 1) := by decide +kernel
theorem dX5_giveAnew_45 : decode cX5_giveAnew 45 = .ok (.aload_n 0, 1) := by decide +kernel
theorem dX5_giveAnew_46 : decode cX5_giveAnew 46 = .ok (.iload_n 3, 1) := by decide +kernel
theorem dX5_giveAnew_47 : decode cX5_giveAnew 47 = .ok (.invokevirtual 39, 3) := by decide +kernel
theorem dX5_giveAnew_50 : decode cX5_giveAnew 50 = .ok (.invokevirtual 43, 3) := by decide +kernel
theorem dX5_giveAnew_53 : decode cX5_giveAnew 53 = .ok (.iinc 2 1, 3) := by decide +kernel
theorem dX5_giveAnew_56 : decode cX5_giveAnew 56 = .ok (.goto (-54), 3) := by decide +kernel
theorem dX5_giveAnew_59 : decode cX5_giveAnew 59 = .ok (.return_, 1) := by decide +kernel
set_option maxRecDepth 20000 in
theorem ggX5_hasOwnReviewer_X5_reviewsAnother : GoodIn wsX5_hasOwnReviewer wsX5_reviewsAnother := goodIn_r _ [7, 1, 8, 9, 10, 2, 11, 12, 13, 14, 15, 16, 17, 18, 19, 20, 21, 22, 23, 24] (by decide +kernel) (by decide +kernel)
set_option maxRecDepth 20000 in
theorem gX5_hasOwnReviewer_X5_reviewsAnother : GoodIn wsX5_hasOwnReviewer (wsV RX5 47 RX5 yX5_reviewsAnother wsX5_reviewsAnother) := goodIn_app (goodIn_of _ (by decide +kernel)) ggX5_hasOwnReviewer_X5_reviewsAnother
theorem dX5_hasOwnReviewer_0 : decode cX5_hasOwnReviewer 0 = .ok (.aload_n 0, 1) := by decide +kernel
theorem dX5_hasOwnReviewer_1 : decode cX5_hasOwnReviewer 1 = .ok (.getfield 15, 3) := by decide +kernel
theorem dX5_hasOwnReviewer_4 : decode cX5_hasOwnReviewer 4 = .ok (.getfield 28, 3) := by decide +kernel
theorem dX5_hasOwnReviewer_7 : decode cX5_hasOwnReviewer 7 = .ok (.iload_n 1, 1) := by decide +kernel
theorem dX5_hasOwnReviewer_8 : decode cX5_hasOwnReviewer 8 = .ok (.iaload, 1) := by decide +kernel
theorem dX5_hasOwnReviewer_9 : decode cX5_hasOwnReviewer 9 = .ok (.istore_n 2, 1) := by decide +kernel
theorem dX5_hasOwnReviewer_10 : decode cX5_hasOwnReviewer 10 = .ok (.iload_n 2, 1) := by decide +kernel
theorem dX5_hasOwnReviewer_11 : decode cX5_hasOwnReviewer 11 = .ok (.iconst (-1), 1) := by decide +kernel
theorem dX5_hasOwnReviewer_12 : decode cX5_hasOwnReviewer 12 = .ok (.if_icmp .eq 17, 3) := by decide +kernel
theorem dX5_hasOwnReviewer_15 : decode cX5_hasOwnReviewer 15 = .ok (.aload_n 0, 1) := by decide +kernel
theorem dX5_hasOwnReviewer_16 : decode cX5_hasOwnReviewer 16 = .ok (.iload_n 2, 1) := by decide +kernel
theorem dX5_hasOwnReviewer_17 : decode cX5_hasOwnReviewer 17 = .ok (.iload_n 1, 1) := by decide +kernel
theorem dX5_hasOwnReviewer_18 : decode cX5_hasOwnReviewer 18 = .ok (.iload_n 1, 1) := by decide +kernel
theorem dX5_hasOwnReviewer_19 : decode cX5_hasOwnReviewer 19 = .ok (.invokevirtual 47, 3) := by decide +kernel
theorem dX5_hasOwnReviewer_22 : decode cX5_hasOwnReviewer 22 = .ok (.ifCond .ne 7, 3) := by decide +kernel
theorem dX5_hasOwnReviewer_25 : decode cX5_hasOwnReviewer 25 = .ok (.iconst 1, 1) := by decide +kernel
theorem dX5_hasOwnReviewer_26 : decode cX5_hasOwnReviewer 26 = .ok (.goto 4, 3) := by decide +kernel
theorem dX5_hasOwnReviewer_29 : decode cX5_hasOwnReviewer 29 = .ok (.iconst 0, 1) := by decide +kernel
theorem dX5_hasOwnReviewer_30 : decode cX5_hasOwnReviewer 30 = .ok (.ireturn, 1) := by decide +kernel
theorem dX5_reviewsAnother_0 : decode cX5_reviewsAnother 0 = .ok (.iconst 0, 1) := by decide +kernel
theorem dX5_reviewsAnother_1 : decode cX5_reviewsAnother 1 = .ok (.istore 4, 2) := by decide +kernel
theorem dX5_reviewsAnother_3 : decode cX5_reviewsAnother 3 = .ok (.iload 4, 2) := by decide +kernel
theorem dX5_reviewsAnother_5 : decode cX5_reviewsAnother 5 = .ok (.aload_n 0, 1) := by decide +kernel
theorem dX5_reviewsAnother_6 : decode cX5_reviewsAnother 6 = .ok (.getfield 15, 3) := by decide +kernel
theorem dX5_reviewsAnother_9 : decode cX5_reviewsAnother 9 = .ok (.getfield 19, 3) := by decide +kernel
theorem dX5_reviewsAnother_12 : decode cX5_reviewsAnother 12 = .ok (.if_icmp .ge 71, 3) := by decide +kernel
theorem dX5_reviewsAnother_15 : decode cX5_reviewsAnother 15 = .ok (.aload_n 0, 1) := by decide +kernel
theorem dX5_reviewsAnother_16 : decode cX5_reviewsAnother 16 = .ok (.getfield 15, 3) := by decide +kernel
theorem dX5_reviewsAnother_19 : decode cX5_reviewsAnother 19 = .ok (.getfield 25, 3) := by decide +kernel
theorem dX5_reviewsAnother_22 : decode cX5_reviewsAnother 22 = .ok (.iload 4, 2) := by decide +kernel
theorem dX5_reviewsAnother_24 : decode cX5_reviewsAnother 24 = .ok (.iaload, 1) := by decide +kernel
theorem dX5_reviewsAnother_25 : decode cX5_reviewsAnother 25 = .ok (.istore 5, 2) := by decide +kernel
theorem dX5_reviewsAnother_27 : decode cX5_reviewsAnother 27 = .ok (.iload 5, 2) := by decide +kernel
theorem dX5_reviewsAnother_29 : decode cX5_reviewsAnother 29 = .ok (.iload_n 2, 1) := by decide +kernel
theorem dX5_reviewsAnother_30 : decode cX5_reviewsAnother 30 = .ok (.if_icmp .eq 47, 3) := by decide +kernel
theorem dX5_reviewsAnother_33 : decode cX5_reviewsAnother 33 = .ok (.iload 5, 2) := by decide +kernel
theorem dX5_reviewsAnother_35 : decode cX5_reviewsAnother 35 = .ok (.iload_n 3, 1) := by decide +kernel
theorem dX5_reviewsAnother_36 : decode cX5_reviewsAnother 36 = .ok (.if_icmp .ge 41, 3) := by decide +kernel
theorem dX5_reviewsAnother_39 : decode cX5_reviewsAnother 39 = .ok (.aload_n 0, 1) := by decide +kernel
theorem dX5_reviewsAnother_40 : decode cX5_reviewsAnother 40 = .ok (.getfield 15, 3) := by decide +kernel
theorem dX5_reviewsAnother_43 : decode cX5_reviewsAnother 43 = .ok (.getfield 51, 3) := by decide +kernel
theorem dX5_reviewsAnother_46 : decode cX5_reviewsAnother 46 = .ok (.iload 5, 2) := by decide +kernel
theorem dX5_reviewsAnother_48 : decode cX5_reviewsAnother 48 = .ok (.iaload, 1) := by decide +kernel
theorem dX5_reviewsAnother_49 : decode cX5_reviewsAnother 49 = .ok (.aload_n 0, 1) := by decide +kernel
theorem dX5_reviewsAnother_50 : decode cX5_reviewsAnother 50 = .ok (.getfield 15, 3) := by decide +kernel
theorem dX5_reviewsAnother_53 : decode cX5_reviewsAnother 53 = .ok (.getfield 51, 3) := by decide +kernel
theorem dX5_reviewsAnother_56 : decode cX5_reviewsAnother 56 = .ok (.iload_n 2, 1) := by decide +kernel
theorem dX5_reviewsAnother_57 : decode cX5_reviewsAnother 57 = .ok (.iaload, 1) := by decide +kernel
theorem dX5_reviewsAnother_58 : decode cX5_reviewsAnother 58 = .ok (.if_icmp .ne 19, 3) := by decide +kernel
theorem dX5_reviewsAnother_61 : decode cX5_reviewsAnother 61 = .ok (.aload_n 0, 1) := by decide +kernel
theorem dX5_reviewsAnother_62 : decode cX5_reviewsAnother 62 = .ok (.getfield 15, 3) := by decide +kernel
theorem dX5_reviewsAnother_65 : decode cX5_reviewsAnother 65 = .ok (.getfield 28, 3) := by decide +kernel
theorem dX5_reviewsAnother_68 : decode cX5_reviewsAnother 68 = .ok (.iload 5, 2) := by decide +kernel
theorem dX5_reviewsAnother_70 : decode cX5_reviewsAnother 70 = .ok (.iaload, 1) := by decide +kernel
theorem dX5_reviewsAnother_71 : decode cX5_reviewsAnother 71 = .ok (.iload_n 1, 1) := by decide +kernel
theorem dX5_reviewsAnother_72 : decode cX5_reviewsAnother 72 = .ok (.if_icmp .ne 5, 3) := by decide +kernel
theorem dX5_reviewsAnother_75 : decode cX5_reviewsAnother 75 = .ok (.iconst 1, 1) := by decide +kernel
theorem dX5_reviewsAnother_76 : decode cX5_reviewsAnother 76 = .ok (.ireturn, 1) := by decide +kernel
theorem dX5_reviewsAnother_77 : decode cX5_reviewsAnother 77 = .ok (.iinc 4 1, 3) := by decide +kernel
theorem dX5_reviewsAnother_80 : decode cX5_reviewsAnother 80 = .ok (.goto (-77), 3) := by decide +kernel
theorem dX5_reviewsAnother_83 : decode cX5_reviewsAnother 83 = .ok (.iconst 0, 1) := by decide +kernel
theorem dX5_reviewsAnother_84 : decode cX5_reviewsAnother 84 = .ok (.ireturn, 1) := by decide +kernel
set_option maxRecDepth 20000 in
theorem ggX5_bestFor_X5_loadWithout : GoodIn wsX5_bestFor wsX5_loadWithout := goodIn_r _ [8, 2, 9, 10, 11, 17, 18, 19, 20, 21, 22, 23, 24, 25, 26, 27, 28, 29, 30] (by decide +kernel) (by decide +kernel)
set_option maxRecDepth 20000 in
theorem gX5_bestFor_X5_loadWithout : GoodIn wsX5_bestFor (wsV RX5 54 RX5 yX5_loadWithout wsX5_loadWithout) := goodIn_app (goodIn_of _ (by decide +kernel)) ggX5_bestFor_X5_loadWithout
set_option maxRecDepth 20000 in
theorem ggX5_bestFor_X5_reviewsAnother : GoodIn wsX5_bestFor wsX5_reviewsAnother := goodIn_r _ [15, 2, 9, 10, 16, 11, 17, 18, 19, 20, 21, 22, 23, 24, 25, 26, 27, 28, 29, 30] (by decide +kernel) (by decide +kernel)
set_option maxRecDepth 20000 in
theorem gX5_bestFor_X5_reviewsAnother : GoodIn wsX5_bestFor (wsV RX5 47 RX5 yX5_reviewsAnother wsX5_reviewsAnother) := goodIn_app (goodIn_of _ (by decide +kernel)) ggX5_bestFor_X5_reviewsAnother
theorem dX5_bestFor_0 : decode cX5_bestFor 0 = .ok (.iconst (-1), 1) := by decide +kernel
theorem dX5_bestFor_1 : decode cX5_bestFor 1 = .ok (.istore_n 2, 1) := by decide +kernel
theorem dX5_bestFor_2 : decode cX5_bestFor 2 = .ok (.bipush 11, 2) := by decide +kernel
theorem dX5_bestFor_4 : decode cX5_bestFor 4 = .ok (.istore_n 3, 1) := by decide +kernel
theorem dX5_bestFor_5 : decode cX5_bestFor 5 = .ok (.iconst 0, 1) := by decide +kernel
theorem dX5_bestFor_6 : decode cX5_bestFor 6 = .ok (.istore 4, 2) := by decide +kernel
theorem dX5_bestFor_8 : decode cX5_bestFor 8 = .ok (.iload 4, 2) := by decide +kernel
theorem dX5_bestFor_10 : decode cX5_bestFor 10 = .ok (.bipush 6, 2) := by decide +kernel
theorem dX5_bestFor_12 : decode cX5_bestFor 12 = .ok (.if_icmp .ge 61, 3) := by decide +kernel
theorem dX5_bestFor_15 : decode cX5_bestFor 15 = .ok (.aload_n 0, 1) := by decide +kernel
theorem dX5_bestFor_16 : decode cX5_bestFor 16 = .ok (.iload 4, 2) := by decide +kernel
theorem dX5_bestFor_18 : decode cX5_bestFor 18 = .ok (.iload_n 1, 1) := by decide +kernel
theorem dX5_bestFor_19 : decode cX5_bestFor 19 = .ok (.invokevirtual 54, 3) := by decide +kernel
theorem dX5_bestFor_22 : decode cX5_bestFor 22 = .ok (.istore 5, 2) := by decide +kernel
theorem dX5_bestFor_24 : decode cX5_bestFor 24 = .ok (.iload 5, 2) := by decide +kernel
theorem dX5_bestFor_26 : decode cX5_bestFor 26 = .ok (.iload_n 3, 1) := by decide +kernel
theorem dX5_bestFor_27 : decode cX5_bestFor 27 = .ok (.if_icmp .ge 40, 3) := by decide +kernel
theorem dX5_bestFor_30 : decode cX5_bestFor 30 = .ok (.aload_n 0, 1) := by decide +kernel
theorem dX5_bestFor_31 : decode cX5_bestFor 31 = .ok (.getfield 9, 3) := by decide +kernel
theorem dX5_bestFor_34 : decode cX5_bestFor 34 = .ok (.iload 4, 2) := by decide +kernel
theorem dX5_bestFor_36 : decode cX5_bestFor 36 = .ok (.iaload, 1) := by decide +kernel
theorem dX5_bestFor_37 : decode cX5_bestFor 37 = .ok (.aload_n 0, 1) := by decide +kernel
theorem dX5_bestFor_38 : decode cX5_bestFor 38 = .ok (.getfield 15, 3) := by decide +kernel
theorem dX5_bestFor_41 : decode cX5_bestFor 41 = .ok (.getfield 58, 3) := by decide +kernel
theorem dX5_bestFor_44 : decode cX5_bestFor 44 = .ok (.iload_n 1, 1) := by decide +kernel
theorem dX5_bestFor_45 : decode cX5_bestFor 45 = .ok (.iaload, 1) := by decide +kernel
theorem dX5_bestFor_46 : decode cX5_bestFor 46 = .ok (.if_icmp .lt 21, 3) := by decide +kernel
theorem dX5_bestFor_49 : decode cX5_bestFor 49 = .ok (.aload_n 0, 1) := by decide +kernel
theorem dX5_bestFor_50 : decode cX5_bestFor 50 = .ok (.iload 4, 2) := by decide +kernel
theorem dX5_bestFor_52 : decode cX5_bestFor 52 = .ok (.iload_n 1, 1) := by decide +kernel
theorem dX5_bestFor_53 : decode cX5_bestFor 53 = .ok (.bipush 40, 2) := by decide +kernel
theorem dX5_bestFor_55 : decode cX5_bestFor 55 = .ok (.invokevirtual 47, 3) := by decide +kernel
theorem dX5_bestFor_58 : decode cX5_bestFor 58 = .ok (.ifCond .ne 9, 3) := by decide +kernel
theorem dX5_bestFor_61 : decode cX5_bestFor 61 = .ok (.iload 4, 2) := by decide +kernel
theorem dX5_bestFor_63 : decode cX5_bestFor 63 = .ok (.istore_n 2, 1) := by decide +kernel
theorem dX5_bestFor_64 : decode cX5_bestFor 64 = .ok (.iload 5, 2) := by decide +kernel
theorem dX5_bestFor_66 : decode cX5_bestFor 66 = .ok (.istore_n 3, 1) := by decide +kernel
theorem dX5_bestFor_67 : decode cX5_bestFor 67 = .ok (.iinc 4 1, 3) := by decide +kernel
theorem dX5_bestFor_70 : decode cX5_bestFor 70 = .ok (.goto (-62), 3) := by decide +kernel
theorem dX5_bestFor_73 : decode cX5_bestFor 73 = .ok (.iload_n 2, 1) := by decide +kernel
theorem dX5_bestFor_74 : decode cX5_bestFor 74 = .ok (.ireturn, 1) := by decide +kernel
theorem dX5_give_0 : decode cX5_give 0 = .ok (.aload_n 0, 1) := by decide +kernel
theorem dX5_give_1 : decode cX5_give 1 = .ok (.getfield 15, 3) := by decide +kernel
theorem dX5_give_4 : decode cX5_give 4 = .ok (.getfield 28, 3) := by decide +kernel
theorem dX5_give_7 : decode cX5_give 7 = .ok (.iload_n 1, 1) := by decide +kernel
theorem dX5_give_8 : decode cX5_give 8 = .ok (.iaload, 1) := by decide +kernel
theorem dX5_give_9 : decode cX5_give 9 = .ok (.iload_n 2, 1) := by decide +kernel
theorem dX5_give_10 : decode cX5_give 10 = .ok (.if_icmp .eq 23, 3) := by decide +kernel
theorem dX5_give_13 : decode cX5_give 13 = .ok (.aload_n 0, 1) := by decide +kernel
theorem dX5_give_14 : decode cX5_give 14 = .ok (.getfield 15, 3) := by decide +kernel
theorem dX5_give_17 : decode cX5_give 17 = .ok (.getfield 28, 3) := by decide +kernel
theorem dX5_give_20 : decode cX5_give 20 = .ok (.iload_n 1, 1) := by decide +kernel
theorem dX5_give_21 : decode cX5_give 21 = .ok (.iload_n 2, 1) := by decide +kernel
theorem dX5_give_22 : decode cX5_give 22 = .ok (.iastore, 1) := by decide +kernel
theorem dX5_give_23 : decode cX5_give 23 = .ok (.aload_n 0, 1) := by decide +kernel
theorem dX5_give_24 : decode cX5_give 24 = .ok (.getfield 15, 3) := by decide +kernel
theorem dX5_give_27 : decode cX5_give 27 = .ok (.getfield 61, 3) := by decide +kernel
theorem dX5_give_30 : decode cX5_give 30 = .ok (.iload_n 1, 1) := by decide +kernel
theorem dX5_give_31 : decode cX5_give 31 = .ok (.iconst 0, 1) := by decide +kernel
theorem dX5_give_32 : decode cX5_give 32 = .ok (.bastore, 1) := by decide +kernel
theorem dX5_give_33 : decode cX5_give 33 = .ok (.return_, 1) := by decide +kernel
theorem dJ6_bitCount_0f7a4_0 : decode cJ6_bitCount_0f7a4 0 = .ok (.iload_n 0, 1) := by decide +kernel
theorem dJ6_bitCount_0f7a4_1 : decode cJ6_bitCount_0f7a4 1 = .ok (.iload_n 0, 1) := by decide +kernel
theorem dJ6_bitCount_0f7a4_2 : decode cJ6_bitCount_0f7a4 2 = .ok (.iconst 1, 1) := by decide +kernel
theorem dJ6_bitCount_0f7a4_3 : decode cJ6_bitCount_0f7a4 3 = .ok (.iushr, 1) := by decide +kernel
theorem dJ6_bitCount_0f7a4_4 : decode cJ6_bitCount_0f7a4 4 = .ok (.ldc_w 265, 3) := by decide +kernel
theorem dJ6_bitCount_0f7a4_7 : decode cJ6_bitCount_0f7a4 7 = .ok (.iand, 1) := by decide +kernel
theorem dJ6_bitCount_0f7a4_8 : decode cJ6_bitCount_0f7a4 8 = .ok (.isub, 1) := by decide +kernel
theorem dJ6_bitCount_0f7a4_9 : decode cJ6_bitCount_0f7a4 9 = .ok (.istore_n 0, 1) := by decide +kernel
theorem dJ6_bitCount_0f7a4_10 : decode cJ6_bitCount_0f7a4 10 = .ok (.iload_n 0, 1) := by decide +kernel
theorem dJ6_bitCount_0f7a4_11 : decode cJ6_bitCount_0f7a4 11 = .ok (.ldc_w 266, 3) := by decide +kernel
theorem dJ6_bitCount_0f7a4_14 : decode cJ6_bitCount_0f7a4 14 = .ok (.iand, 1) := by decide +kernel
theorem dJ6_bitCount_0f7a4_15 : decode cJ6_bitCount_0f7a4 15 = .ok (.iload_n 0, 1) := by decide +kernel
theorem dJ6_bitCount_0f7a4_16 : decode cJ6_bitCount_0f7a4 16 = .ok (.iconst 2, 1) := by decide +kernel
theorem dJ6_bitCount_0f7a4_17 : decode cJ6_bitCount_0f7a4 17 = .ok (.iushr, 1) := by decide +kernel
theorem dJ6_bitCount_0f7a4_18 : decode cJ6_bitCount_0f7a4 18 = .ok (.ldc_w 266, 3) := by decide +kernel
theorem dJ6_bitCount_0f7a4_21 : decode cJ6_bitCount_0f7a4 21 = .ok (.iand, 1) := by decide +kernel
theorem dJ6_bitCount_0f7a4_22 : decode cJ6_bitCount_0f7a4 22 = .ok (.iadd, 1) := by decide +kernel
theorem dJ6_bitCount_0f7a4_23 : decode cJ6_bitCount_0f7a4 23 = .ok (.istore_n 0, 1) := by decide +kernel
theorem dJ6_bitCount_0f7a4_24 : decode cJ6_bitCount_0f7a4 24 = .ok (.iload_n 0, 1) := by decide +kernel
theorem dJ6_bitCount_0f7a4_25 : decode cJ6_bitCount_0f7a4 25 = .ok (.iload_n 0, 1) := by decide +kernel
theorem dJ6_bitCount_0f7a4_26 : decode cJ6_bitCount_0f7a4 26 = .ok (.iconst 4, 1) := by decide +kernel
theorem dJ6_bitCount_0f7a4_27 : decode cJ6_bitCount_0f7a4 27 = .ok (.iushr, 1) := by decide +kernel
theorem dJ6_bitCount_0f7a4_28 : decode cJ6_bitCount_0f7a4 28 = .ok (.iadd, 1) := by decide +kernel
theorem dJ6_bitCount_0f7a4_29 : decode cJ6_bitCount_0f7a4 29 = .ok (.ldc_w 267, 3) := by decide +kernel
theorem dJ6_bitCount_0f7a4_32 : decode cJ6_bitCount_0f7a4 32 = .ok (.iand, 1) := by decide +kernel
theorem dJ6_bitCount_0f7a4_33 : decode cJ6_bitCount_0f7a4 33 = .ok (.istore_n 0, 1) := by decide +kernel
theorem dJ6_bitCount_0f7a4_34 : decode cJ6_bitCount_0f7a4 34 = .ok (.iload_n 0, 1) := by decide +kernel
theorem dJ6_bitCount_0f7a4_35 : decode cJ6_bitCount_0f7a4 35 = .ok (.iload_n 0, 1) := by decide +kernel
theorem dJ6_bitCount_0f7a4_36 : decode cJ6_bitCount_0f7a4 36 = .ok (.bipush 8, 2) := by decide +kernel
theorem dJ6_bitCount_0f7a4_38 : decode cJ6_bitCount_0f7a4 38 = .ok (.iushr, 1) := by decide +kernel
theorem dJ6_bitCount_0f7a4_39 : decode cJ6_bitCount_0f7a4 39 = .ok (.iadd, 1) := by decide +kernel
theorem dJ6_bitCount_0f7a4_40 : decode cJ6_bitCount_0f7a4 40 = .ok (.istore_n 0, 1) := by decide +kernel
theorem dJ6_bitCount_0f7a4_41 : decode cJ6_bitCount_0f7a4 41 = .ok (.iload_n 0, 1) := by decide +kernel
theorem dJ6_bitCount_0f7a4_42 : decode cJ6_bitCount_0f7a4 42 = .ok (.iload_n 0, 1) := by decide +kernel
theorem dJ6_bitCount_0f7a4_43 : decode cJ6_bitCount_0f7a4 43 = .ok (.bipush 16, 2) := by decide +kernel
theorem dJ6_bitCount_0f7a4_45 : decode cJ6_bitCount_0f7a4 45 = .ok (.iushr, 1) := by decide +kernel
theorem dJ6_bitCount_0f7a4_46 : decode cJ6_bitCount_0f7a4 46 = .ok (.iadd, 1) := by decide +kernel
theorem dJ6_bitCount_0f7a4_47 : decode cJ6_bitCount_0f7a4 47 = .ok (.istore_n 0, 1) := by decide +kernel
theorem dJ6_bitCount_0f7a4_48 : decode cJ6_bitCount_0f7a4 48 = .ok (.iload_n 0, 1) := by decide +kernel
theorem dJ6_bitCount_0f7a4_49 : decode cJ6_bitCount_0f7a4 49 = .ok (.bipush 63, 2) := by decide +kernel
theorem dJ6_bitCount_0f7a4_51 : decode cJ6_bitCount_0f7a4 51 = .ok (.iand, 1) := by decide +kernel
theorem dJ6_bitCount_0f7a4_52 : decode cJ6_bitCount_0f7a4 52 = .ok (.ireturn, 1) := by decide +kernel
