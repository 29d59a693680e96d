set_option maxRecDepth 20000 in
theorem ggL_pack_X6_pack : GoodIn wsL_pack wsX6_pack := goodIn_ca (goodIn_ca (goodIn_r _ [7, 8, 9, 10, 11, 12, 13, 14, 15, 6, 16, 17, 18, 19, 20, 21, 22, 23, 24, 25, 26, 27, 28, 29, 30, 31, 32, 33, 34, 35, 36, 37] (by decide +kernel) (by decide +kernel)) (goodIn_sub (fun _ h => List.mem_cons_of_mem _ (List.mem_append_left _ (List.mem_append_right _ h))) (by decide +kernel))) (goodIn_sub (fun _ h => List.mem_cons_of_mem _ (List.mem_append_right _ h)) (by decide +kernel))
set_option maxRecDepth 20000 in
theorem gL_pack_X6_pack : GoodIn wsL_pack (wsV RL 7 RX6 yX6_pack wsX6_pack) := goodIn_app (goodIn_of _ (by decide +kernel)) ggL_pack_X6_pack
theorem dL_pack_0 : decode cL_pack 0 = .ok (.aload_n 2, 1) := by decide +kernel
theorem dL_pack_1 : decode cL_pack 1 = .ok (.iconst 0, 1) := by decide +kernel
theorem dL_pack_2 : decode cL_pack 2 = .ok (.aload_n 0, 1) := by decide +kernel
theorem dL_pack_3 : decode cL_pack 3 = .ok (.iload_n 1, 1) := by decide +kernel
theorem dL_pack_4 : decode cL_pack 4 = .ok (.invokevirtual 7, 3) := by decide +kernel
theorem dL_pack_7 : decode cL_pack 7 = .ok (.i2l, 1) := by decide +kernel
theorem dL_pack_8 : decode cL_pack 8 = .ok (.lastore, 1) := by decide +kernel
theorem dL_pack_9 : decode cL_pack 9 = .ok (.goto 9, 3) := by decide +kernel
theorem dL_pack_12 : decode cL_pack 12 = .ok (.astore_n 3, 1) := by decide +kernel
theorem dL_pack_13 : decode cL_pack 13 = .ok (.iconst 1, 1) := by decide +kernel
theorem dL_pack_14 : decode cL_pack 14 = .ok (.ireturn, 1) := by decide +kernel
theorem dL_pack_15 : decode cL_pack 15 = .ok (.astore_n 3, 1) := by decide +kernel
theorem dL_pack_16 : decode cL_pack 16 = .ok (.iconst 2, 1) := by decide +kernel
theorem dL_pack_17 : decode cL_pack 17 = .ok (.ireturn, 1) := by decide +kernel
theorem dL_pack_18 : decode cL_pack 18 = .ok (.iconst 0, 1) := by decide +kernel
theorem dL_pack_19 : decode cL_pack 19 = .ok (.ireturn, 1) := by decide +kernel
set_option maxRecDepth 20000 in
theorem ggL_need_X6_need : GoodIn wsL_need wsX6_need := goodIn_ca (goodIn_ca (goodIn_ca (goodIn_r _ [8, 9, 10, 11, 12, 13, 14, 15, 16, 17, 18, 7, 19, 20, 21, 22, 23, 24, 25, 26, 27, 28, 29, 30, 31, 32, 33, 34, 35, 36, 37, 38, 39, 40, 41, 42, 43, 44, 45, 46, 47, 48, 49] (by decide +kernel) (by decide +kernel)) (goodIn_sub (fun _ h => List.mem_cons_of_mem _ (List.mem_append_left _ (List.mem_append_left _ (List.mem_append_right _ h)))) (by decide +kernel))) (goodIn_sub (fun _ h => List.mem_cons_of_mem _ (List.mem_append_left _ (List.mem_append_right _ h))) (by decide +kernel))) (goodIn_sub (fun _ h => List.mem_cons_of_mem _ (List.mem_append_right _ h)) (by decide +kernel))
set_option maxRecDepth 20000 in
theorem gL_need_X6_need : GoodIn wsL_need (wsV RL 17 RX6 yX6_need wsX6_need) := goodIn_app (goodIn_of _ (by decide +kernel)) ggL_need_X6_need
theorem dL_need_0 : decode cL_need 0 = .ok (.aload 5, 2) := by decide +kernel
theorem dL_need_2 : decode cL_need 2 = .ok (.iconst 0, 1) := by decide +kernel
theorem dL_need_3 : decode cL_need 3 = .ok (.aload_n 0, 1) := by decide +kernel
theorem dL_need_4 : decode cL_need 4 = .ok (.iload_n 1, 1) := by decide +kernel
theorem dL_need_5 : decode cL_need 5 = .ok (.iload_n 2, 1) := by decide +kernel
theorem dL_need_6 : decode cL_need 6 = .ok (.iload_n 3, 1) := by decide +kernel
theorem dL_need_7 : decode cL_need 7 = .ok (.iload 4, 2) := by decide +kernel
theorem dL_need_9 : decode cL_need 9 = .ok (.invokevirtual 17, 3) := by decide +kernel
theorem dL_need_12 : decode cL_need 12 = .ok (.i2l, 1) := by decide +kernel
theorem dL_need_13 : decode cL_need 13 = .ok (.lastore, 1) := by decide +kernel
theorem dL_need_14 : decode cL_need 14 = .ok (.goto 15, 3) := by decide +kernel
theorem dL_need_17 : decode cL_need 17 = .ok (.astore 6, 2) := by decide +kernel
theorem dL_need_19 : decode cL_need 19 = .ok (.iconst 1, 1) := by decide +kernel
theorem dL_need_20 : decode cL_need 20 = .ok (.ireturn, 1) := by decide +kernel
theorem dL_need_21 : decode cL_need 21 = .ok (.astore 6, 2) := by decide +kernel
theorem dL_need_23 : decode cL_need 23 = .ok (.iconst 2, 1) := by decide +kernel
theorem dL_need_24 : decode cL_need 24 = .ok (.ireturn, 1) := by decide +kernel
theorem dL_need_25 : decode cL_need 25 = .ok (.astore 6, 2) := by decide +kernel
theorem dL_need_27 : decode cL_need 27 = .ok (.iconst 3, 1) := by decide +kernel
theorem dL_need_28 : decode cL_need 28 = .ok (.ireturn, 1) := by decide +kernel
theorem dL_need_29 : decode cL_need 29 = .ok (.iconst 0, 1) := by decide +kernel
theorem dL_need_30 : decode cL_need 30 = .ok (.ireturn, 1) := by decide +kernel
set_option maxRecDepth 20000 in
theorem ggL_trust_X6_trust : GoodIn wsL_trust wsX6_trust := goodIn_ca (goodIn_ca (goodIn_r _ [7, 8, 9, 10, 11, 12, 13, 14, 6, 15, 16, 17, 18, 19, 20, 21, 22, 23, 24, 25, 26, 27, 28] (by decide +kernel) (by decide +kernel)) (goodIn_sub (fun _ h => List.mem_cons_of_mem _ (List.mem_append_left _ (List.mem_append_right _ h))) (by decide +kernel))) (goodIn_sub (fun _ h => List.mem_cons_of_mem _ (List.mem_append_right _ h)) (by decide +kernel))
set_option maxRecDepth 20000 in
theorem gL_trust_X6_trust : GoodIn wsL_trust (wsV RL 23 RX6 yX6_trust wsX6_trust) := goodIn_app (goodIn_of _ (by decide +kernel)) ggL_trust_X6_trust
theorem dL_trust_0 : decode cL_trust 0 = .ok (.aload_n 3, 1) := by decide +kernel
theorem dL_trust_1 : decode cL_trust 1 = .ok (.iconst 0, 1) := by decide +kernel
theorem dL_trust_2 : decode cL_trust 2 = .ok (.aload_n 0, 1) := by decide +kernel
theorem dL_trust_3 : decode cL_trust 3 = .ok (.iload_n 1, 1) := by decide +kernel
theorem dL_trust_4 : decode cL_trust 4 = .ok (.iload_n 2, 1) := by decide +kernel
theorem dL_trust_5 : decode cL_trust 5 = .ok (.invokevirtual 23, 3) := by decide +kernel
theorem dL_trust_8 : decode cL_trust 8 = .ok (.i2l, 1) := by decide +kernel
theorem dL_trust_9 : decode cL_trust 9 = .ok (.lastore, 1) := by decide +kernel
theorem dL_trust_10 : decode cL_trust 10 = .ok (.goto 11, 3) := by decide +kernel
theorem dL_trust_13 : decode cL_trust 13 = .ok (.astore 4, 2) := by decide +kernel
theorem dL_trust_15 : decode cL_trust 15 = .ok (.iconst 1, 1) := by decide +kernel
theorem dL_trust_16 : decode cL_trust 16 = .ok (.ireturn, 1) := by decide +kernel
theorem dL_trust_17 : decode cL_trust 17 = .ok (.astore 4, 2) := by decide +kernel
theorem dL_trust_19 : decode cL_trust 19 = .ok (.iconst 2, 1) := by decide +kernel
theorem dL_trust_20 : decode cL_trust 20 = .ok (.ireturn, 1) := by decide +kernel
theorem dL_trust_21 : decode cL_trust 21 = .ok (.iconst 0, 1) := by decide +kernel
theorem dL_trust_22 : decode cL_trust 22 = .ok (.ireturn, 1) := by decide +kernel
set_option maxRecDepth 20000 in
theorem ggL_patience_X6_patience : GoodIn wsL_patience wsX6_patience := goodIn_ca (goodIn_r _ [6, 7, 8, 9, 10, 11, 12, 5, 13, 14, 15, 16, 17, 18, 19, 20, 21, 22, 23] (by decide +kernel) (by decide +kernel)) (goodIn_sub (fun _ h => List.mem_cons_of_mem _ (List.mem_append_right _ h)) (by decide +kernel))
set_option maxRecDepth 20000 in
theorem gL_patience_X6_patience : GoodIn wsL_patience (wsV RL 27 RX6 yX6_patience wsX6_patience) := goodIn_app (goodIn_of _ (by decide +kernel)) ggL_patience_X6_patience
theorem dL_patience_0 : decode cL_patience 0 = .ok (.aload_n 2, 1) := by decide +kernel
theorem dL_patience_1 : decode cL_patience 1 = .ok (.iconst 0, 1) := by decide +kernel
theorem dL_patience_2 : decode cL_patience 2 = .ok (.aload_n 0, 1) := by decide +kernel
theorem dL_patience_3 : decode cL_patience 3 = .ok (.iload_n 1, 1) := by decide +kernel
theorem dL_patience_4 : decode cL_patience 4 = .ok (.invokevirtual 27, 3) := by decide +kernel
theorem dL_patience_7 : decode cL_patience 7 = .ok (.i2l, 1) := by decide +kernel
theorem dL_patience_8 : decode cL_patience 8 = .ok (.lastore, 1) := by decide +kernel
theorem dL_patience_9 : decode cL_patience 9 = .ok (.goto 6, 3) := by decide +kernel
theorem dL_patience_12 : decode cL_patience 12 = .ok (.astore_n 3, 1) := by decide +kernel
theorem dL_patience_13 : decode cL_patience 13 = .ok (.iconst 1, 1) := by decide +kernel
theorem dL_patience_14 : decode cL_patience 14 = .ok (.ireturn, 1) := by decide +kernel
theorem dL_patience_15 : decode cL_patience 15 = .ok (.iconst 0, 1) := by decide +kernel
theorem dL_patience_16 : decode cL_patience 16 = .ok (.ireturn, 1) := by decide +kernel
set_option maxRecDepth 20000 in
theorem ggL_freeze_X6_freeze : GoodIn wsL_freeze wsX6_freeze := goodIn_ca (goodIn_ca (goodIn_r _ [7, 8, 9, 10, 11, 12, 13, 14, 15, 6, 16, 17, 18, 19, 20, 21, 22, 23, 24, 25, 26, 27, 28, 29, 30, 31, 32, 33, 34, 35] (by decide +kernel) (by decide +kernel)) (goodIn_sub (fun _ h => List.mem_cons_of_mem _ (List.mem_append_left _ (List.mem_append_right _ h))) (by decide +kernel))) (goodIn_sub (fun _ h => List.mem_cons_of_mem _ (List.mem_append_right _ h)) (by decide +kernel))
set_option maxRecDepth 20000 in
theorem gL_freeze_X6_freeze : GoodIn wsL_freeze (wsV RL 30 RX6 yX6_freeze wsX6_freeze) := goodIn_app (goodIn_of _ (by decide +kernel)) ggL_freeze_X6_freeze
theorem dL_freeze_0 : decode cL_freeze 0 = .ok (.aload 4, 2) := by decide +kernel
theorem dL_freeze_2 : decode cL_freeze 2 = .ok (.iconst 0, 1) := by decide +kernel
theorem dL_freeze_3 : decode cL_freeze 3 = .ok (.aload_n 0, 1) := by decide +kernel
theorem dL_freeze_4 : decode cL_freeze 4 = .ok (.iload_n 1, 1) := by decide +kernel
theorem dL_freeze_5 : decode cL_freeze 5 = .ok (.iload_n 2, 1) := by decide +kernel
theorem dL_freeze_6 : decode cL_freeze 6 = .ok (.iload_n 3, 1) := by decide +kernel
theorem dL_freeze_7 : decode cL_freeze 7 = .ok (.invokevirtual 30, 3) := by decide +kernel
theorem dL_freeze_10 : decode cL_freeze 10 = .ok (.i2l, 1) := by decide +kernel
theorem dL_freeze_11 : decode cL_freeze 11 = .ok (.lastore, 1) := by decide +kernel
theorem dL_freeze_12 : decode cL_freeze 12 = .ok (.goto 11, 3) := by decide +kernel
theorem dL_freeze_15 : decode cL_freeze 15 = .ok (.astore 5, 2) := by decide +kernel
theorem dL_freeze_17 : decode cL_freeze 17 = .ok (.iconst 1, 1) := by decide +kernel
theorem dL_freeze_18 : decode cL_freeze 18 = .ok (.ireturn, 1) := by decide +kernel
theorem dL_freeze_19 : decode cL_freeze 19 = .ok (.astore 5, 2) := by decide +kernel
theorem dL_freeze_21 : decode cL_freeze 21 = .ok (.iconst 2, 1) := by decide +kernel
theorem dL_freeze_22 : decode cL_freeze 22 = .ok (.ireturn, 1) := by decide +kernel
theorem dL_freeze_23 : decode cL_freeze 23 = .ok (.iconst 0, 1) := by decide +kernel
theorem dL_freeze_24 : decode cL_freeze 24 = .ok (.ireturn, 1) := by decide +kernel
set_option maxRecDepth 20000 in
theorem ggL_raise_X6_raise : GoodIn wsL_raise wsX6_raise := goodIn_ca (goodIn_ca (goodIn_ca (goodIn_r _ [8, 9, 10, 11, 12, 13, 14, 15, 16, 17, 18, 19, 20, 21, 22, 7, 23, 24, 25, 26, 27, 28, 29, 30, 31, 32, 33, 34, 35, 36, 37, 38, 39, 40, 41, 42, 43, 44, 45, 46, 47, 48, 49, 50, 51, 52, 53, 54, 55, 56, 57, 58, 59, 60, 61, 62, 63, 64, 65, 66, 67, 68, 69, 70, 71, 72, 73, 74, 75, 76, 77, 78, 79, 80, 81, 82, 83, 84, 85, 86, 87, 88, 89, 90, 91, 92, 93, 94, 95, 96, 97, 98, 99, 100, 101, 102, 103, 104, 105, 106, 107, 108, 109, 110, 111, 112, 113, 114, 115, 116, 117, 118, 119, 120, 121, 122] (by decide +kernel) (by decide +kernel)) (goodIn_sub (fun _ h => List.mem_cons_of_mem _ (List.mem_append_left _ (List.mem_append_left _ (List.mem_append_right _ h)))) (by decide +kernel))) (goodIn_sub (fun _ h => List.mem_cons_of_mem _ (List.mem_append_left _ (List.mem_append_right _ h))) (by decide +kernel))) (goodIn_sub (fun _ h => List.mem_cons_of_mem _ (List.mem_append_right _ h)) (by decide +kernel))
set_option maxRecDepth 20000 in
theorem gL_raise_X6_raise : GoodIn wsL_raise (wsV RL 34 RX6 yX6_raise wsX6_raise) := goodIn_app (goodIn_of _ (by decide +kernel)) ggL_raise_X6_raise
theorem dL_raise_0 : decode cL_raise 0 = .ok (.aload 4, 2) := by decide +kernel
theorem dL_raise_2 : decode cL_raise 2 = .ok (.iconst 0, 1) := by decide +kernel
theorem dL_raise_3 : decode cL_raise 3 = .ok (.aload_n 0, 1) := by decide +kernel
theorem dL_raise_4 : decode cL_raise 4 = .ok (.iload_n 1, 1) := by decide +kernel
theorem dL_raise_5 : decode cL_raise 5 = .ok (.iload_n 2, 1) := by decide +kernel
theorem dL_raise_6 : decode cL_raise 6 = .ok (.iload_n 3, 1) := by decide +kernel
theorem dL_raise_7 : decode cL_raise 7 = .ok (.invokevirtual 34, 3) := by decide +kernel
theorem dL_raise_10 : decode cL_raise 10 = .ok (.i2l, 1) := by decide +kernel
theorem dL_raise_11 : decode cL_raise 11 = .ok (.lastore, 1) := by decide +kernel
theorem dL_raise_12 : decode cL_raise 12 = .ok (.goto 15, 3) := by decide +kernel
theorem dL_raise_15 : decode cL_raise 15 = .ok (.astore 5, 2) := by decide +kernel
theorem dL_raise_17 : decode cL_raise 17 = .ok (.iconst 1, 1) := by decide +kernel
theorem dL_raise_18 : decode cL_raise 18 = .ok (.ireturn, 1) := by decide +kernel
theorem dL_raise_19 : decode cL_raise 19 = .ok (.astore 5, 2) := by decide +kernel
theorem dL_raise_21 : decode cL_raise 21 = .ok (.iconst 2, 1) := by decide +kernel
theorem dL_raise_22 : decode cL_raise 22 = .ok (.ireturn, 1) := by decide +kernel
theorem dL_raise_23 : decode cL_raise 23 = .ok (.astore 5, 2) := by decide +kernel
theorem dL_raise_25 : decode cL_raise 25 = .ok (.iconst 3, 1) := by decide +kernel
theorem dL_raise_26 : decode cL_raise 26 = .ok (.ireturn, 1) := by decide +kernel
theorem dL_raise_27 : decode cL_raise 27 = .ok (.iconst 0, 1) := by decide +kernel
theorem dL_raise_28 : decode cL_raise 28 = .ok (.ireturn, 1) := by decide +kernel
set_option maxRecDepth 20000 in
theorem ggL_approve_X6_approve : GoodIn wsL_approve wsX6_approve := goodIn_ca (goodIn_ca (goodIn_r _ [7, 8, 9, 10, 11, 12, 13, 14, 15, 6, 16, 17, 18, 19, 20, 21, 22, 23, 24, 25, 26, 27, 28, 29, 30, 31, 32, 33, 34, 35, 36, 37, 38, 39, 40, 41, 42, 43, 44, 45] (by decide +kernel) (by decide +kernel)) (goodIn_sub (fun _ h => List.mem_cons_of_mem _ (List.mem_append_left _ (List.mem_append_right _ h))) (by decide +kernel))) (goodIn_sub (fun _ h => List.mem_cons_of_mem _ (List.mem_append_right _ h)) (by decide +kernel))
set_option maxRecDepth 20000 in
theorem gL_approve_X6_approve : GoodIn wsL_approve (wsV RL 37 RX6 yX6_approve wsX6_approve) := goodIn_app (goodIn_of _ (by decide +kernel)) ggL_approve_X6_approve
theorem dL_approve_0 : decode cL_approve 0 = .ok (.aload_n 2, 1) := by decide +kernel
theorem dL_approve_1 : decode cL_approve 1 = .ok (.iconst 0, 1) := by decide +kernel
theorem dL_approve_2 : decode cL_approve 2 = .ok (.aload_n 0, 1) := by decide +kernel
theorem dL_approve_3 : decode cL_approve 3 = .ok (.iload_n 1, 1) := by decide +kernel
theorem dL_approve_4 : decode cL_approve 4 = .ok (.invokevirtual 37, 3) := by decide +kernel
theorem dL_approve_7 : decode cL_approve 7 = .ok (.ifCond .eq 7, 3) := by decide +kernel
theorem dL_approve_10 : decode cL_approve 10 = .ok (.lconst 1, 1) := by decide +kernel
theorem dL_approve_11 : decode cL_approve 11 = .ok (.goto 4, 3) := by decide +kernel
theorem dL_approve_14 : decode cL_approve 14 = .ok (.lconst 0, 1) := by decide +kernel
theorem dL_approve_15 : decode cL_approve 15 = .ok (.lastore, 1) := by decide +kernel
theorem dL_approve_16 : decode cL_approve 16 = .ok (.goto 9, 3) := by decide +kernel
theorem dL_approve_19 : decode cL_approve 19 = .ok (.astore_n 3, 1) := by decide +kernel
theorem dL_approve_20 : decode cL_approve 20 = .ok (.iconst 1, 1) := by decide +kernel
theorem dL_approve_21 : decode cL_approve 21 = .ok (.ireturn, 1) := by decide +kernel
theorem dL_approve_22 : decode cL_approve 22 = .ok (.astore_n 3, 1) := by decide +kernel
theorem dL_approve_23 : decode cL_approve 23 = .ok (.iconst 2, 1) := by decide +kernel
theorem dL_approve_24 : decode cL_approve 24 = .ok (.ireturn, 1) := by decide +kernel
theorem dL_approve_25 : decode cL_approve 25 = .ok (.iconst 0, 1) := by decide +kernel
theorem dL_approve_26 : decode cL_approve 26 = .ok (.ireturn, 1) := by decide +kernel
set_option maxRecDepth 20000 in
theorem ggL_land_X6_land : GoodIn wsL_land wsX6_land := goodIn_ca (goodIn_ca (goodIn_r _ [7, 8, 9, 10, 11, 12, 13, 14, 6, 15, 16, 17, 18, 19, 20, 21, 22, 23, 24, 25, 26, 27, 28, 29, 30, 31, 32, 33, 34, 35, 36, 37, 38, 39, 40, 41, 42, 43, 44, 45, 46, 47, 48, 49, 50, 51, 52, 53, 54, 55, 56, 57, 58, 59, 60, 61, 62, 63, 64, 65, 66, 67, 68, 69, 70, 71, 72, 73, 74, 75, 76, 77, 78, 79, 80, 81, 82, 83, 84, 85, 86, 87, 88, 89, 90, 91, 92, 93, 94, 95, 96, 97, 98, 99, 100, 101, 102, 103, 104, 105, 106, 107, 108, 109, 110, 111, 112, 113, 114, 115, 116, 117, 118, 119, 120, 121, 122, 123, 124, 125, 126, 127, 128, 129, 130, 131, 132, 133, 134, 135, 136, 137, 138, 139, 140, 141, 142, 143, 144, 145, 146, 147, 148, 149, 150, 151, 152, 153, 154, 155, 156, 157, 158, 159, 160, 161, 162, 163, 164, 165, 166, 167, 168, 169, 170, 171, 172, 173, 174, 175, 176, 177, 178, 179, 180, 181, 182, 183, 184, 185, 186, 187, 188, 189, 190, 191, 192, 193, 194, 195, 196, 197, 198, 199, 200, 201, 202, 203] (by decide +kernel) (by decide +kernel)) (goodIn_sub (fun _ h => List.mem_cons_of_mem _ (List.mem_append_left _ (List.mem_append_right _ h))) (by decide +kernel))) (goodIn_sub (fun _ h => List.mem_cons_of_mem _ (List.mem_append_right _ h)) (by decide +kernel))
set_option maxRecDepth 20000 in
theorem gL_land_X6_land : GoodIn wsL_land (wsV RL 41 RX6 yX6_land wsX6_land) := goodIn_app (goodIn_of _ (by decide +kernel)) ggL_land_X6_land
theorem dL_land_0 : decode cL_land 0 = .ok (.aload_n 3, 1) := by decide +kernel
theorem dL_land_1 : decode cL_land 1 = .ok (.iconst 0, 1) := by decide +kernel
theorem dL_land_2 : decode cL_land 2 = .ok (.aload_n 0, 1) := by decide +kernel
theorem dL_land_3 : decode cL_land 3 = .ok (.iload_n 1, 1) := by decide +kernel
theorem dL_land_4 : decode cL_land 4 = .ok (.iload_n 2, 1) := by decide +kernel
theorem dL_land_5 : decode cL_land 5 = .ok (.invokevirtual 41, 3) := by decide +kernel
theorem dL_land_8 : decode cL_land 8 = .ok (.i2l, 1) := by decide +kernel
theorem dL_land_9 : decode cL_land 9 = .ok (.lastore, 1) := by decide +kernel
theorem dL_land_10 : decode cL_land 10 = .ok (.goto 11, 3) := by decide +kernel
theorem dL_land_13 : decode cL_land 13 = .ok (.astore 4, 2) := by decide +kernel
theorem dL_land_15 : decode cL_land 15 = .ok (.iconst 1, 1) := by decide +kernel
theorem dL_land_16 : decode cL_land 16 = .ok (.ireturn, 1) := by decide +kernel
theorem dL_land_17 : decode cL_land 17 = .ok (.astore 4, 2) := by decide +kernel
theorem dL_land_19 : decode cL_land 19 = .ok (.iconst 2, 1) := by decide +kernel
theorem dL_land_20 : decode cL_land 20 = .ok (.ireturn, 1) := by decide +kernel
theorem dL_land_21 : decode cL_land 21 = .ok (.iconst 0, 1) := by decide +kernel
theorem dL_land_22 : decode cL_land 22 = .ok (.ireturn, 1) := by decide +kernel
set_option maxRecDepth 20000 in
theorem ggL_close_X6_close : GoodIn wsL_close wsX6_close := goodIn_ca (goodIn_ca (goodIn_r _ [7, 8, 9, 10, 11, 6, 12, 13, 14, 15, 16, 17, 18, 19, 20, 21, 22, 23, 24, 25, 26, 27, 28, 29, 30, 31, 32, 33, 34, 35, 36, 37, 38, 39, 40, 41, 42, 43, 44, 45, 46, 47, 48, 49, 50, 51, 52, 53, 54, 55, 56, 57, 58, 59, 60, 61, 62, 63, 64, 65, 66, 67, 68, 69, 70, 71, 72, 73, 74, 75, 76, 77, 78, 79, 80, 81, 82, 83, 84, 85, 86, 87, 88, 89, 90, 91, 92, 93, 94, 95, 96, 97, 98, 99, 100, 101, 102, 103, 104, 105, 106, 107, 108, 109, 110, 111, 112, 113, 114, 115, 116, 117, 118, 119, 120, 121, 122, 123, 124, 125, 126, 127, 128] (by decide +kernel) (by decide +kernel)) (goodIn_sub (fun _ h => List.mem_cons_of_mem _ (List.mem_append_left _ (List.mem_append_right _ h))) (by decide +kernel))) (goodIn_sub (fun _ h => List.mem_cons_of_mem _ (List.mem_append_right _ h)) (by decide +kernel))
set_option maxRecDepth 20000 in
theorem gL_close_X6_close : GoodIn wsL_close (wsV RL 45 RX6 yX6_close wsX6_close) := goodIn_app (goodIn_of _ (by decide +kernel)) ggL_close_X6_close
theorem dL_close_0 : decode cL_close 0 = .ok (.aload_n 0, 1) := by decide +kernel
theorem dL_close_1 : decode cL_close 1 = .ok (.iload_n 1, 1) := by decide +kernel
theorem dL_close_2 : decode cL_close 2 = .ok (.invokevirtual 45, 3) := by decide +kernel
theorem dL_close_5 : decode cL_close 5 = .ok (.goto 9, 3) := by decide +kernel
theorem dL_close_8 : decode cL_close 8 = .ok (.astore_n 2, 1) := by decide +kernel
theorem dL_close_9 : decode cL_close 9 = .ok (.iconst 1, 1) := by decide +kernel
theorem dL_close_10 : decode cL_close 10 = .ok (.ireturn, 1) := by decide +kernel
theorem dL_close_11 : decode cL_close 11 = .ok (.astore_n 2, 1) := by decide +kernel
theorem dL_close_12 : decode cL_close 12 = .ok (.iconst 2, 1) := by decide +kernel
theorem dL_close_13 : decode cL_close 13 = .ok (.ireturn, 1) := by decide +kernel
theorem dL_close_14 : decode cL_close 14 = .ok (.iconst 0, 1) := by decide +kernel
theorem dL_close_15 : decode cL_close 15 = .ok (.ireturn, 1) := by decide +kernel
set_option maxRecDepth 20000 in
theorem ggL_pass_X6_pass : GoodIn wsL_pass wsX6_pass := goodIn_ca (goodIn_ca (goodIn_r _ [7, 8, 9, 10, 11, 12, 13, 14, 15, 6, 16, 17, 18, 19, 20, 21, 22, 23, 24, 25, 26, 27, 28, 29, 30, 31, 32, 33, 34, 35, 36, 37, 38, 39, 40, 41, 42, 43, 44, 45, 46, 47, 48, 49, 50, 51, 52, 53, 54, 55, 56, 57, 58, 59, 60, 61, 62, 63, 64, 65, 66, 67, 68, 69, 70, 71, 72, 73, 74, 75, 76, 77, 78, 79, 80, 81, 82, 83, 84, 85, 86, 87, 88, 89, 90, 91, 92, 93, 94, 95, 96, 97, 98, 99, 100, 101, 102, 103, 104, 105, 106, 107, 108, 109, 110, 111, 112, 113, 114, 115, 116, 117, 118, 119, 120, 121, 122, 123, 124, 125, 126, 127, 128, 129, 130, 131, 132, 133, 134, 135, 136, 137, 138, 139, 140, 141, 142, 143, 144, 145, 146, 147, 148, 149, 150, 151, 152, 153, 154, 155] (by decide +kernel) (by decide +kernel)) (goodIn_sub (fun _ h => List.mem_cons_of_mem _ (List.mem_append_left _ (List.mem_append_right _ h))) (by decide +kernel))) (goodIn_sub (fun _ h => List.mem_cons_of_mem _ (List.mem_append_right _ h)) (by decide +kernel))
set_option maxRecDepth 20000 in
theorem gL_pass_X6_pass : GoodIn wsL_pass (wsV RL 49 RX6 yX6_pass wsX6_pass) := goodIn_app (goodIn_of _ (by decide +kernel)) ggL_pass_X6_pass
theorem dL_pass_0 : decode cL_pass 0 = .ok (.aload_n 2, 1) := by decide +kernel
theorem dL_pass_1 : decode cL_pass 1 = .ok (.iconst 0, 1) := by decide +kernel
theorem dL_pass_2 : decode cL_pass 2 = .ok (.aload_n 0, 1) := by decide +kernel
theorem dL_pass_3 : decode cL_pass 3 = .ok (.iload_n 1, 1) := by decide +kernel
theorem dL_pass_4 : decode cL_pass 4 = .ok (.invokevirtual 49, 3) := by decide +kernel
theorem dL_pass_7 : decode cL_pass 7 = .ok (.i2l, 1) := by decide +kernel
theorem dL_pass_8 : decode cL_pass 8 = .ok (.lastore, 1) := by decide +kernel
theorem dL_pass_9 : decode cL_pass 9 = .ok (.goto 9, 3) := by decide +kernel
theorem dL_pass_12 : decode cL_pass 12 = .ok (.astore_n 3, 1) := by decide +kernel
theorem dL_pass_13 : decode cL_pass 13 = .ok (.iconst 1, 1) := by decide +kernel
theorem dL_pass_14 : decode cL_pass 14 = .ok (.ireturn, 1) := by decide +kernel
theorem dL_pass_15 : decode cL_pass 15 = .ok (.astore_n 3, 1) := by decide +kernel
theorem dL_pass_16 : decode cL_pass 16 = .ok (.iconst 2, 1) := by decide +kernel
theorem dL_pass_17 : decode cL_pass 17 = .ok (.ireturn, 1) := by decide +kernel
theorem dL_pass_18 : decode cL_pass 18 = .ok (.iconst 0, 1) := by decide +kernel
theorem dL_pass_19 : decode cL_pass 19 = .ok (.ireturn, 1) := by decide +kernel
set_option maxRecDepth 20000 in
theorem ggL_version_X6_version : GoodIn wsL_version wsX6_version := goodIn_ca (goodIn_r _ [6, 7, 8, 9, 10, 11, 5, 12, 13, 14, 15, 16, 17, 18, 19, 20, 21, 22, 23, 24, 25, 26, 27, 28, 29, 30, 31, 32] (by decide +kernel) (by decide +kernel)) (goodIn_sub (fun _ h => List.mem_cons_of_mem _ (List.mem_append_right _ h)) (by decide +kernel))
set_option maxRecDepth 20000 in
theorem gL_version_X6_version : GoodIn wsL_version (wsV RL 52 RX6 yX6_version wsX6_version) := goodIn_app (goodIn_of _ (by decide +kernel)) ggL_version_X6_version
theorem dL_version_0 : decode cL_version 0 = .ok (.aload_n 2, 1) := by decide +kernel
theorem dL_version_1 : decode cL_version 1 = .ok (.iconst 0, 1) := by decide +kernel
theorem dL_version_2 : decode cL_version 2 = .ok (.aload_n 0, 1) := by decide +kernel
theorem dL_version_3 : decode cL_version 3 = .ok (.iload_n 1, 1) := by decide +kernel
theorem dL_version_4 : decode cL_version 4 = .ok (.invokevirtual 52, 3) := by decide +kernel
theorem dL_version_7 : decode cL_version 7 = .ok (.i2l, 1) := by decide +kernel
theorem dL_version_8 : decode cL_version 8 = .ok (.lastore, 1) := by decide +kernel
theorem dL_version_9 : decode cL_version 9 = .ok (.goto 6, 3) := by decide +kernel
theorem dL_version_12 : decode cL_version 12 = .ok (.astore_n 3, 1) := by decide +kernel
theorem dL_version_13 : decode cL_version 13 = .ok (.iconst 1, 1) := by decide +kernel
theorem dL_version_14 : decode cL_version 14 = .ok (.ireturn, 1) := by decide +kernel
theorem dL_version_15 : decode cL_version 15 = .ok (.iconst 0, 1) := by decide +kernel
theorem dL_version_16 : decode cL_version 16 = .ok (.ireturn, 1) := by decide +kernel
set_option maxRecDepth 20000 in
theorem ggL_raiseOf_X6_raiseOf : GoodIn wsL_raiseOf wsX6_raiseOf := goodIn_ca (goodIn_ca (goodIn_r _ [7, 8, 9, 10, 11, 12, 13, 14, 15, 16, 17, 18, 19, 6, 20, 21, 22, 23, 24, 25, 26, 27, 28, 29, 30, 31, 32, 33, 34, 35, 36, 37, 38, 39, 40, 41, 42, 43, 44, 45, 46, 47, 48, 49, 50, 51, 52, 53, 54, 55, 56, 57, 58, 59] (by decide +kernel) (by decide +kernel)) (goodIn_sub (fun _ h => List.mem_cons_of_mem _ (List.mem_append_left _ (List.mem_append_right _ h))) (by decide +kernel))) (goodIn_sub (fun _ h => List.mem_cons_of_mem _ (List.mem_append_right _ h)) (by decide +kernel))
set_option maxRecDepth 20000 in
theorem gL_raiseOf_X6_raiseOf : GoodIn wsL_raiseOf (wsV RL 55 RX6 yX6_raiseOf wsX6_raiseOf) := goodIn_app (goodIn_of _ (by decide +kernel)) ggL_raiseOf_X6_raiseOf
theorem dL_raiseOf_0 : decode cL_raiseOf 0 = .ok (.aload_n 3, 1) := by decide +kernel
theorem dL_raiseOf_1 : decode cL_raiseOf 1 = .ok (.iconst 0, 1) := by decide +kernel
theorem dL_raiseOf_2 : decode cL_raiseOf 2 = .ok (.aload_n 0, 1) := by decide +kernel
theorem dL_raiseOf_3 : decode cL_raiseOf 3 = .ok (.iload_n 1, 1) := by decide +kernel
theorem dL_raiseOf_4 : decode cL_raiseOf 4 = .ok (.iload_n 2, 1) := by decide +kernel
theorem dL_raiseOf_5 : decode cL_raiseOf 5 = .ok (.invokevirtual 55, 3) := by decide +kernel
theorem dL_raiseOf_8 : decode cL_raiseOf 8 = .ok (.i2l, 1) := by decide +kernel
theorem dL_raiseOf_9 : decode cL_raiseOf 9 = .ok (.lastore, 1) := by decide +kernel
theorem dL_raiseOf_10 : decode cL_raiseOf 10 = .ok (.goto 11, 3) := by decide +kernel
theorem dL_raiseOf_13 : decode cL_raiseOf 13 = .ok (.astore 4, 2) := by decide +kernel
theorem dL_raiseOf_15 : decode cL_raiseOf 15 = .ok (.iconst 1, 1) := by decide +kernel
theorem dL_raiseOf_16 : decode cL_raiseOf 16 = .ok (.ireturn, 1) := by decide +kernel
theorem dL_raiseOf_17 : decode cL_raiseOf 17 = .ok (.astore 4, 2) := by decide +kernel
theorem dL_raiseOf_19 : decode cL_raiseOf 19 = .ok (.iconst 2, 1) := by decide +kernel
theorem dL_raiseOf_20 : decode cL_raiseOf 20 = .ok (.ireturn, 1) := by decide +kernel
theorem dL_raiseOf_21 : decode cL_raiseOf 21 = .ok (.iconst 0, 1) := by decide +kernel
theorem dL_raiseOf_22 : decode cL_raiseOf 22 = .ok (.ireturn, 1) := by decide +kernel
set_option maxRecDepth 20000 in
theorem ggL_fails_X6_fails : GoodIn wsL_fails wsX6_fails := goodIn_ca (goodIn_ca (goodIn_r _ [7, 8, 9, 10, 11, 6, 12, 13, 14, 15, 16, 17, 18, 19, 20, 21, 22, 23, 24, 25, 26, 27, 28, 29, 30, 31, 32, 33, 34, 35, 36, 37, 38, 39, 40, 41, 42, 43, 44, 45, 46, 47, 48, 49, 50, 51, 52, 53, 54, 55, 56, 57, 58, 59, 60, 61, 62, 63, 64, 65, 66, 67, 68, 69, 70, 71, 72, 73, 74, 75, 76, 77, 78, 79, 80, 81, 82, 83, 84, 85, 86, 87, 88, 89, 90, 91, 92, 93, 94, 95, 96] (by decide +kernel) (by decide +kernel)) (goodIn_sub (fun _ h => List.mem_cons_of_mem _ (List.mem_append_left _ (List.mem_append_right _ h))) (by decide +kernel))) (goodIn_sub (fun _ h => List.mem_cons_of_mem _ (List.mem_append_right _ h)) (by decide +kernel))
set_option maxRecDepth 20000 in
theorem gL_fails_X6_fails : GoodIn wsL_fails (wsV RL 58 RX6 yX6_fails wsX6_fails) := goodIn_app (goodIn_of _ (by decide +kernel)) ggL_fails_X6_fails
theorem dL_fails_0 : decode cL_fails 0 = .ok (.aload_n 2, 1) := by decide +kernel
theorem dL_fails_1 : decode cL_fails 1 = .ok (.iconst 0, 1) := by decide +kernel
theorem dL_fails_2 : decode cL_fails 2 = .ok (.aload_n 0, 1) := by decide +kernel
theorem dL_fails_3 : decode cL_fails 3 = .ok (.iload_n 1, 1) := by decide +kernel
theorem dL_fails_4 : decode cL_fails 4 = .ok (.invokevirtual 58, 3) := by decide +kernel
theorem dL_fails_7 : decode cL_fails 7 = .ok (.i2l, 1) := by decide +kernel
theorem dL_fails_8 : decode cL_fails 8 = .ok (.lastore, 1) := by decide +kernel
theorem dL_fails_9 : decode cL_fails 9 = .ok (.goto 9, 3) := by decide +kernel
theorem dL_fails_12 : decode cL_fails 12 = .ok (.astore_n 3, 1) := by decide +kernel
theorem dL_fails_13 : decode cL_fails 13 = .ok (.iconst 1, 1) := by decide +kernel
theorem dL_fails_14 : decode cL_fails 14 = .ok (.ireturn, 1) := by decide +kernel
theorem dL_fails_15 : decode cL_fails 15 = .ok (.astore_n 3, 1) := by decide +kernel
theorem dL_fails_16 : decode cL_fails 16 = .ok (.iconst 2, 1) := by decide +kernel
theorem dL_fails_17 : decode cL_fails 17 = .ok (.ireturn, 1) := by decide +kernel
theorem dL_fails_18 : decode cL_fails 18 = .ok (.iconst 0, 1) := by decide +kernel
theorem dL_fails_19 : decode cL_fails 19 = .ok (.ireturn, 1) := by decide +kernel
set_option maxRecDepth 20000 in
theorem ggL_canLand_X6_canLand : GoodIn wsL_canLand wsX6_canLand := goodIn_ca (goodIn_ca (goodIn_r _ [7, 8, 9, 10, 11, 6, 12, 13, 14, 15, 16, 17, 18, 19, 20, 21, 22, 23, 24, 25, 26, 27, 28, 29, 30, 31, 32, 33, 34, 35, 36, 37, 38, 39, 40, 41, 42, 43, 44, 45, 46, 47, 48, 49, 50, 51, 52, 53, 54, 55, 56, 57, 58, 59, 60, 61, 62, 63, 64, 65, 66, 67, 68, 69, 70, 71, 72, 73, 74, 75, 76, 77, 78, 79, 80, 81, 82, 83, 84, 85, 86, 87, 88, 89, 90, 91, 92, 93, 94, 95, 96, 97, 98, 99, 100, 101, 102, 103, 104, 105, 106, 107, 108, 109, 110, 111, 112, 113, 114, 115, 116, 117, 118, 119, 120, 121, 122, 123, 124] (by decide +kernel) (by decide +kernel)) (goodIn_sub (fun _ h => List.mem_cons_of_mem _ (List.mem_append_left _ (List.mem_append_right _ h))) (by decide +kernel))) (goodIn_sub (fun _ h => List.mem_cons_of_mem _ (List.mem_append_right _ h)) (by decide +kernel))
set_option maxRecDepth 20000 in
theorem gL_canLand_X6_canLand : GoodIn wsL_canLand (wsV RL 61 RX6 yX6_canLand wsX6_canLand) := goodIn_app (goodIn_of _ (by decide +kernel)) ggL_canLand_X6_canLand
theorem dL_canLand_0 : decode cL_canLand 0 = .ok (.aload_n 2, 1) := by decide +kernel
theorem dL_canLand_1 : decode cL_canLand 1 = .ok (.iconst 0, 1) := by decide +kernel
theorem dL_canLand_2 : decode cL_canLand 2 = .ok (.aload_n 0, 1) := by decide +kernel
theorem dL_canLand_3 : decode cL_canLand 3 = .ok (.iload_n 1, 1) := by decide +kernel
theorem dL_canLand_4 : decode cL_canLand 4 = .ok (.invokevirtual 61, 3) := by decide +kernel
theorem dL_canLand_7 : decode cL_canLand 7 = .ok (.ifCond .eq 7, 3) := by decide +kernel
theorem dL_canLand_10 : decode cL_canLand 10 = .ok (.lconst 1, 1) := by decide +kernel
theorem dL_canLand_11 : decode cL_canLand 11 = .ok (.goto 4, 3) := by decide +kernel
theorem dL_canLand_14 : decode cL_canLand 14 = .ok (.lconst 0, 1) := by decide +kernel
theorem dL_canLand_15 : decode cL_canLand 15 = .ok (.lastore, 1) := by decide +kernel
theorem dL_canLand_16 : decode cL_canLand 16 = .ok (.goto 9, 3) := by decide +kernel
theorem dL_canLand_19 : decode cL_canLand 19 = .ok (.astore_n 3, 1) := by decide +kernel
theorem dL_canLand_20 : decode cL_canLand 20 = .ok (.iconst 1, 1) := by decide +kernel
theorem dL_canLand_21 : decode cL_canLand 21 = .ok (.ireturn, 1) := by decide +kernel
theorem dL_canLand_22 : decode cL_canLand 22 = .ok (.astore_n 3, 1) := by decide +kernel
theorem dL_canLand_23 : decode cL_canLand 23 = .ok (.iconst 2, 1) := by decide +kernel
theorem dL_canLand_24 : decode cL_canLand 24 = .ok (.ireturn, 1) := by decide +kernel
theorem dL_canLand_25 : decode cL_canLand 25 = .ok (.iconst 0, 1) := by decide +kernel
theorem dL_canLand_26 : decode cL_canLand 26 = .ok (.ireturn, 1) := by decide +kernel
set_option maxRecDepth 20000 in
theorem ggL_load_X6_load : GoodIn wsL_load wsX6_load := goodIn_ca (goodIn_r _ [6, 7, 8, 9, 10, 5, 11, 12, 13, 14, 15, 16, 17, 18, 19, 20, 21, 22, 23, 24, 25, 26, 27, 28, 29, 30, 31, 32, 33, 34, 35, 36, 37, 38, 39, 40, 41, 42, 43, 44, 45] (by decide +kernel) (by decide +kernel)) (goodIn_sub (fun _ h => List.mem_cons_of_mem _ (List.mem_append_right _ h)) (by decide +kernel))
set_option maxRecDepth 20000 in
theorem gL_load_X6_load : GoodIn wsL_load (wsV RL 64 RX6 yX6_load wsX6_load) := goodIn_app (goodIn_of _ (by decide +kernel)) ggL_load_X6_load
theorem dL_load_0 : decode cL_load 0 = .ok (.aload_n 2, 1) := by decide +kernel
theorem dL_load_1 : decode cL_load 1 = .ok (.iconst 0, 1) := by decide +kernel
theorem dL_load_2 : decode cL_load 2 = .ok (.aload_n 0, 1) := by decide +kernel
theorem dL_load_3 : decode cL_load 3 = .ok (.iload_n 1, 1) := by decide +kernel
theorem dL_load_4 : decode cL_load 4 = .ok (.invokevirtual 64, 3) := by decide +kernel
theorem dL_load_7 : decode cL_load 7 = .ok (.i2l, 1) := by decide +kernel
theorem dL_load_8 : decode cL_load 8 = .ok (.lastore, 1) := by decide +kernel
theorem dL_load_9 : decode cL_load 9 = .ok (.goto 6, 3) := by decide +kernel
theorem dL_load_12 : decode cL_load 12 = .ok (.astore_n 3, 1) := by decide +kernel
theorem dL_load_13 : decode cL_load 13 = .ok (.iconst 1, 1) := by decide +kernel
theorem dL_load_14 : decode cL_load 14 = .ok (.ireturn, 1) := by decide +kernel
theorem dL_load_15 : decode cL_load 15 = .ok (.iconst 0, 1) := by decide +kernel
theorem dL_load_16 : decode cL_load 16 = .ok (.ireturn, 1) := by decide +kernel
set_option maxRecDepth 20000 in
theorem ggL_fewest_X6_fewest : GoodIn wsL_fewest wsX6_fewest := goodIn_ca (goodIn_ca (goodIn_r _ [7, 8, 9, 10, 11, 6, 12, 13, 14, 15, 16, 17, 18, 19, 20, 21, 22, 23, 24, 25, 26, 27, 28, 29, 30, 31, 32, 33, 34, 35, 36, 37, 38, 39, 40, 41, 42, 43, 44, 45, 46, 47, 48, 49, 50, 51, 52, 53, 54, 55, 56, 57, 58, 59, 60, 61, 62, 63, 64, 65, 66, 67, 68, 69, 70, 71, 72, 73, 74, 75, 76, 77, 78, 79, 80, 81, 82, 83, 84, 85, 86, 87, 88, 89, 90, 91, 92, 93, 94, 95, 96, 97, 98, 99, 100, 101, 102, 103, 104, 105, 106] (by decide +kernel) (by decide +kernel)) (goodIn_sub (fun _ h => List.mem_cons_of_mem _ (List.mem_append_left _ (List.mem_append_right _ h))) (by decide +kernel))) (goodIn_sub (fun _ h => List.mem_cons_of_mem _ (List.mem_append_right _ h)) (by decide +kernel))
set_option maxRecDepth 20000 in
theorem gL_fewest_X6_fewest : GoodIn wsL_fewest (wsV RL 67 RX6 yX6_fewest wsX6_fewest) := goodIn_app (goodIn_of _ (by decide +kernel)) ggL_fewest_X6_fewest
theorem dL_fewest_0 : decode cL_fewest 0 = .ok (.aload_n 2, 1) := by decide +kernel
theorem dL_fewest_1 : decode cL_fewest 1 = .ok (.iconst 0, 1) := by decide +kernel
theorem dL_fewest_2 : decode cL_fewest 2 = .ok (.aload_n 0, 1) := by decide +kernel
theorem dL_fewest_3 : decode cL_fewest 3 = .ok (.iload_n 1, 1) := by decide +kernel
theorem dL_fewest_4 : decode cL_fewest 4 = .ok (.invokevirtual 67, 3) := by decide +kernel
theorem dL_fewest_7 : decode cL_fewest 7 = .ok (.i2l, 1) := by decide +kernel
theorem dL_fewest_8 : decode cL_fewest 8 = .ok (.lastore, 1) := by decide +kernel
theorem dL_fewest_9 : decode cL_fewest 9 = .ok (.goto 9, 3) := by decide +kernel
theorem dL_fewest_12 : decode cL_fewest 12 = .ok (.astore_n 3, 1) := by decide +kernel
theorem dL_fewest_13 : decode cL_fewest 13 = .ok (.iconst 1, 1) := by decide +kernel
theorem dL_fewest_14 : decode cL_fewest 14 = .ok (.ireturn, 1) := by decide +kernel
theorem dL_fewest_15 : decode cL_fewest 15 = .ok (.astore_n 3, 1) := by decide +kernel
theorem dL_fewest_16 : decode cL_fewest 16 = .ok (.iconst 2, 1) := by decide +kernel
theorem dL_fewest_17 : decode cL_fewest 17 = .ok (.ireturn, 1) := by decide +kernel
theorem dL_fewest_18 : decode cL_fewest 18 = .ok (.iconst 0, 1) := by decide +kernel
theorem dL_fewest_19 : decode cL_fewest 19 = .ok (.ireturn, 1) := by decide +kernel
set_option maxRecDepth 20000 in
theorem ggL_fewestAnew_X6_fewestAnew : GoodIn wsL_fewestAnew wsX6_fewestAnew := goodIn_ca (goodIn_ca (goodIn_r _ [7, 8, 9, 10, 11, 6, 12, 13, 14, 15, 16, 17, 18, 19, 20, 21, 22, 23, 24, 25, 26, 27, 28, 29, 30, 31, 32, 33, 34, 35, 36, 37, 38, 39, 40, 41, 42, 43, 44, 45, 46, 47, 48, 49, 50, 51, 52, 53, 54, 55, 56, 57, 58, 59, 60, 61, 62, 63, 64, 65, 66, 67, 68, 69, 70, 71, 72, 73, 74, 75, 76, 77, 78, 79, 80, 81, 82, 83, 84, 85, 86, 87, 88, 89, 90, 91, 92, 93, 94, 95, 96, 97, 98, 99, 100, 101, 102, 103, 104, 105, 106, 107] (by decide +kernel) (by decide +kernel)) (goodIn_sub (fun _ h => List.mem_cons_of_mem _ (List.mem_append_left _ (List.mem_append_right _ h))) (by decide +kernel))) (goodIn_sub (fun _ h => List.mem_cons_of_mem _ (List.mem_append_right _ h)) (by decide +kernel))
set_option maxRecDepth 20000 in
theorem gL_fewestAnew_X6_fewestAnew : GoodIn wsL_fewestAnew (wsV RL 70 RX6 yX6_fewestAnew wsX6_fewestAnew) := goodIn_app (goodIn_of _ (by decide +kernel)) ggL_fewestAnew_X6_fewestAnew
theorem dL_fewestAnew_0 : decode cL_fewestAnew 0 = .ok (.aload_n 2, 1) := by decide +kernel
theorem dL_fewestAnew_1 : decode cL_fewestAnew 1 = .ok (.iconst 0, 1) := by decide +kernel
theorem dL_fewestAnew_2 : decode cL_fewestAnew 2 = .ok (.aload_n 0, 1) := by decide +kernel
theorem dL_fewestAnew_3 : decode cL_fewestAnew 3 = .ok (.iload_n 1, 1) := by decide +kernel
theorem dL_fewestAnew_4 : decode cL_fewestAnew 4 = .ok (.invokevirtual 70, 3) := by decide +kernel
theorem dL_fewestAnew_7 : decode cL_fewestAnew 7 = .ok (.i2l, 1) := by decide +kernel
theorem dL_fewestAnew_8 : decode cL_fewestAnew 8 = .ok (.lastore, 1) := by decide +kernel
theorem dL_fewestAnew_9 : decode cL_fewestAnew 9 = .ok (.goto 9, 3) := by decide +kernel
theorem dL_fewestAnew_12 : decode cL_fewestAnew 12 = .ok (.astore_n 3, 1) := by decide +kernel
theorem dL_fewestAnew_13 : decode cL_fewestAnew 13 = .ok (.iconst 1, 1) := by decide +kernel
theorem dL_fewestAnew_14 : decode cL_fewestAnew 14 = .ok (.ireturn, 1) := by decide +kernel
theorem dL_fewestAnew_15 : decode cL_fewestAnew 15 = .ok (.astore_n 3, 1) := by decide +kernel
theorem dL_fewestAnew_16 : decode cL_fewestAnew 16 = .ok (.iconst 2, 1) := by decide +kernel
theorem dL_fewestAnew_17 : decode cL_fewestAnew 17 = .ok (.ireturn, 1) := by decide +kernel
theorem dL_fewestAnew_18 : decode cL_fewestAnew 18 = .ok (.iconst 0, 1) := by decide +kernel
theorem dL_fewestAnew_19 : decode cL_fewestAnew 19 = .ok (.ireturn, 1) := by decide +kernel
set_option maxRecDepth 20000 in
theorem ggL_told_X6_told : GoodIn wsL_told wsX6_told := goodIn_ca (goodIn_ca (goodIn_r _ [7, 8, 9, 10, 11, 12, 13, 14, 15, 6, 16, 17, 18, 19, 20, 21, 22, 23, 24, 25, 26, 27, 28, 29, 30, 31, 32, 33, 34, 35, 36, 37, 38, 39, 40, 41, 42, 43, 44, 45, 46, 47, 48, 49, 50, 51, 52, 53, 54, 55, 56, 57, 58, 59, 60] (by decide +kernel) (by decide +kernel)) (goodIn_sub (fun _ h => List.mem_cons_of_mem _ (List.mem_append_left _ (List.mem_append_right _ h))) (by decide +kernel))) (goodIn_sub (fun _ h => List.mem_cons_of_mem _ (List.mem_append_right _ h)) (by decide +kernel))
set_option maxRecDepth 20000 in
theorem gL_told_X6_told : GoodIn wsL_told (wsV RL 73 RX6 yX6_told wsX6_told) := goodIn_app (goodIn_of _ (by decide +kernel)) ggL_told_X6_told
theorem dL_told_0 : decode cL_told 0 = .ok (.aload_n 3, 1) := by decide +kernel
theorem dL_told_1 : decode cL_told 1 = .ok (.iconst 0, 1) := by decide +kernel
theorem dL_told_2 : decode cL_told 2 = .ok (.aload_n 0, 1) := by decide +kernel
theorem dL_told_3 : decode cL_told 3 = .ok (.iload_n 1, 1) := by decide +kernel
theorem dL_told_4 : decode cL_told 4 = .ok (.iload_n 2, 1) := by decide +kernel
theorem dL_told_5 : decode cL_told 5 = .ok (.invokevirtual 73, 3) := by decide +kernel
theorem dL_told_8 : decode cL_told 8 = .ok (.i2l, 1) := by decide +kernel
theorem dL_told_9 : decode cL_told 9 = .ok (.lastore, 1) := by decide +kernel
theorem dL_told_10 : decode cL_told 10 = .ok (.goto 11, 3) := by decide +kernel
theorem dL_told_13 : decode cL_told 13 = .ok (.astore 4, 2) := by decide +kernel
theorem dL_told_15 : decode cL_told 15 = .ok (.iconst 1, 1) := by decide +kernel
theorem dL_told_16 : decode cL_told 16 = .ok (.ireturn, 1) := by decide +kernel
theorem dL_told_17 : decode cL_told 17 = .ok (.astore 4, 2) := by decide +kernel
theorem dL_told_19 : decode cL_told 19 = .ok (.iconst 2, 1) := by decide +kernel
theorem dL_told_20 : decode cL_told 20 = .ok (.ireturn, 1) := by decide +kernel
theorem dL_told_21 : decode cL_told 21 = .ok (.iconst 0, 1) := by decide +kernel
theorem dL_told_22 : decode cL_told 22 = .ok (.ireturn, 1) := by decide +kernel
