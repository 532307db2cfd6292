theorem dJ9_max_7cf53_0 : decode cJ9_max_7cf53 0 = .ok (.iload_n 0, 1) := by decide +kernel
theorem dJ9_max_7cf53_1 : decode cJ9_max_7cf53 1 = .ok (.iload_n 1, 1) := by decide +kernel
theorem dJ9_max_7cf53_2 : decode cJ9_max_7cf53 2 = .ok (.if_icmp .lt 7, 3) := by decide +kernel
theorem dJ9_max_7cf53_5 : decode cJ9_max_7cf53 5 = .ok (.iload_n 0, 1) := by decide +kernel
theorem dJ9_max_7cf53_6 : decode cJ9_max_7cf53 6 = .ok (.goto 4, 3) := by decide +kernel
theorem dJ9_max_7cf53_9 : decode cJ9_max_7cf53 9 = .ok (.iload_n 1, 1) := by decide +kernel
theorem dJ9_max_7cf53_10 : decode cJ9_max_7cf53 10 = .ok (.ireturn, 1) := by decide +kernel
theorem dJ9_min_7cf53_0 : decode cJ9_min_7cf53 0 = .ok (.iload_n 0, 1) := by decide +kernel
theorem dJ9_min_7cf53_1 : decode cJ9_min_7cf53 1 = .ok (.iload_n 1, 1) := by decide +kernel
theorem dJ9_min_7cf53_2 : decode cJ9_min_7cf53 2 = .ok (.if_icmp .gt 7, 3) := by decide +kernel
theorem dJ9_min_7cf53_5 : decode cJ9_min_7cf53 5 = .ok (.iload_n 0, 1) := by decide +kernel
theorem dJ9_min_7cf53_6 : decode cJ9_min_7cf53 6 = .ok (.goto 4, 3) := by decide +kernel
theorem dJ9_min_7cf53_9 : decode cJ9_min_7cf53 9 = .ok (.iload_n 1, 1) := by decide +kernel
theorem dJ9_min_7cf53_10 : decode cJ9_min_7cf53 10 = .ok (.ireturn, 1) := by decide +kernel
set_option maxRecDepth 20000 in
theorem ggL_addRoof_X5_addRoof : GoodIn wsL_addRoof wsX5_addRoof := goodIn_ca (goodIn_ca (goodIn_r _ [7, 8, 9, 10, 11, 12, 13, 14, 15, 6, 16, 17, 18, 19, 20, 21, 22, 23, 24, 25, 26, 27, 28, 29, 30, 31, 32, 33, 34, 35, 36, 37, 38, 39, 40, 41, 42, 43, 44, 45, 46, 47, 48, 49, 50, 51, 52, 53, 54, 55, 56, 57, 58, 59, 60, 61, 62, 63, 64, 65, 66, 67, 68, 69, 70, 71, 72, 73, 74, 75, 76, 77, 78, 79, 80, 81, 82, 83, 84, 85, 86, 87, 88, 89, 90, 91, 92, 93, 94, 95, 96, 97, 98, 99, 100, 101, 102, 103, 104, 105, 106, 107, 108, 109, 110, 111, 112, 113, 114, 115, 116, 117, 118, 119, 120, 121, 122, 123, 124, 125, 126, 127] (by decide +kernel) (by decide +kernel)) (goodIn_sub (fun _ h => List.mem_cons_of_mem _ (List.mem_append_left _ (List.mem_append_right _ h))) (by decide +kernel))) (goodIn_sub (fun _ h => List.mem_cons_of_mem _ (List.mem_append_right _ h)) (by decide +kernel))
set_option maxRecDepth 20000 in
theorem gL_addRoof_X5_addRoof : GoodIn wsL_addRoof (wsV RL 7 RX5 yX5_addRoof wsX5_addRoof) := goodIn_app (goodIn_of _ (by decide +kernel)) ggL_addRoof_X5_addRoof
theorem dL_addRoof_0 : decode cL_addRoof 0 = .ok (.aload 5, 2) := by decide +kernel
theorem dL_addRoof_2 : decode cL_addRoof 2 = .ok (.iconst 0, 1) := by decide +kernel
theorem dL_addRoof_3 : decode cL_addRoof 3 = .ok (.aload_n 0, 1) := by decide +kernel
theorem dL_addRoof_4 : decode cL_addRoof 4 = .ok (.iload_n 1, 1) := by decide +kernel
theorem dL_addRoof_5 : decode cL_addRoof 5 = .ok (.iload_n 2, 1) := by decide +kernel
theorem dL_addRoof_6 : decode cL_addRoof 6 = .ok (.iload_n 3, 1) := by decide +kernel
theorem dL_addRoof_7 : decode cL_addRoof 7 = .ok (.iload 4, 2) := by decide +kernel
theorem dL_addRoof_9 : decode cL_addRoof 9 = .ok (.invokevirtual 7, 3) := by decide +kernel
theorem dL_addRoof_12 : decode cL_addRoof 12 = .ok (.i2l, 1) := by decide +kernel
theorem dL_addRoof_13 : decode cL_addRoof 13 = .ok (.lastore, 1) := by decide +kernel
theorem dL_addRoof_14 : decode cL_addRoof 14 = .ok (.goto 11, 3) := by decide +kernel
theorem dL_addRoof_17 : decode cL_addRoof 17 = .ok (.astore 6, 2) := by decide +kernel
theorem dL_addRoof_19 : decode cL_addRoof 19 = .ok (.iconst 1, 1) := by decide +kernel
theorem dL_addRoof_20 : decode cL_addRoof 20 = .ok (.ireturn, 1) := by decide +kernel
theorem dL_addRoof_21 : decode cL_addRoof 21 = .ok (.astore 6, 2) := by decide +kernel
theorem dL_addRoof_23 : decode cL_addRoof 23 = .ok (.iconst 2, 1) := by decide +kernel
theorem dL_addRoof_24 : decode cL_addRoof 24 = .ok (.ireturn, 1) := by decide +kernel
theorem dL_addRoof_25 : decode cL_addRoof 25 = .ok (.iconst 0, 1) := by decide +kernel
theorem dL_addRoof_26 : decode cL_addRoof 26 = .ok (.ireturn, 1) := by decide +kernel
set_option maxRecDepth 20000 in
theorem ggL_addUser_X5_addUser : GoodIn wsL_addUser wsX5_addUser := goodIn_ca (goodIn_ca (goodIn_r _ [7, 8, 9, 10, 11, 12, 13, 14, 15, 6, 16, 17, 18, 19, 20, 21, 22, 23, 24, 25, 26, 27, 28, 29, 30, 31, 32, 33, 34, 35, 36, 37, 38, 39, 40, 41, 42, 43, 44, 45, 46, 47, 48, 49, 50, 51, 52, 53, 54, 55, 56, 57, 58, 59, 60, 61, 62, 63, 64, 65, 66, 67, 68, 69, 70, 71, 72, 73, 74, 75, 76, 77, 78, 79, 80, 81, 82, 83, 84, 85, 86, 87, 88, 89, 90, 91, 92, 93, 94, 95, 96, 97, 98, 99, 100, 101, 102, 103, 104, 105, 106, 107, 108, 109, 110, 111, 112, 113, 114, 115, 116, 117, 118, 119, 120, 121, 122, 123, 124, 125, 126, 127] (by decide +kernel) (by decide +kernel)) (goodIn_sub (fun _ h => List.mem_cons_of_mem _ (List.mem_append_left _ (List.mem_append_right _ h))) (by decide +kernel))) (goodIn_sub (fun _ h => List.mem_cons_of_mem _ (List.mem_append_right _ h)) (by decide +kernel))
set_option maxRecDepth 20000 in
theorem gL_addUser_X5_addUser : GoodIn wsL_addUser (wsV RL 17 RX5 yX5_addUser wsX5_addUser) := goodIn_app (goodIn_of _ (by decide +kernel)) ggL_addUser_X5_addUser
theorem dL_addUser_0 : decode cL_addUser 0 = .ok (.aload_n 3, 1) := by decide +kernel
theorem dL_addUser_1 : decode cL_addUser 1 = .ok (.iconst 0, 1) := by decide +kernel
theorem dL_addUser_2 : decode cL_addUser 2 = .ok (.aload_n 0, 1) := by decide +kernel
theorem dL_addUser_3 : decode cL_addUser 3 = .ok (.iload_n 1, 1) := by decide +kernel
theorem dL_addUser_4 : decode cL_addUser 4 = .ok (.iload_n 2, 1) := by decide +kernel
theorem dL_addUser_5 : decode cL_addUser 5 = .ok (.invokevirtual 17, 3) := by decide +kernel
theorem dL_addUser_8 : decode cL_addUser 8 = .ok (.i2l, 1) := by decide +kernel
theorem dL_addUser_9 : decode cL_addUser 9 = .ok (.lastore, 1) := by decide +kernel
theorem dL_addUser_10 : decode cL_addUser 10 = .ok (.goto 11, 3) := by decide +kernel
theorem dL_addUser_13 : decode cL_addUser 13 = .ok (.astore 4, 2) := by decide +kernel
theorem dL_addUser_15 : decode cL_addUser 15 = .ok (.iconst 1, 1) := by decide +kernel
theorem dL_addUser_16 : decode cL_addUser 16 = .ok (.ireturn, 1) := by decide +kernel
theorem dL_addUser_17 : decode cL_addUser 17 = .ok (.astore 4, 2) := by decide +kernel
theorem dL_addUser_19 : decode cL_addUser 19 = .ok (.iconst 2, 1) := by decide +kernel
theorem dL_addUser_20 : decode cL_addUser 20 = .ok (.ireturn, 1) := by decide +kernel
theorem dL_addUser_21 : decode cL_addUser 21 = .ok (.iconst 0, 1) := by decide +kernel
theorem dL_addUser_22 : decode cL_addUser 22 = .ok (.ireturn, 1) := by decide +kernel
set_option maxRecDepth 20000 in
theorem ggL_setDemand_X5_setDemand : GoodIn wsL_setDemand wsX5_setDemand := goodIn_ca (goodIn_ca (goodIn_r _ [7, 8, 9, 10, 11, 12, 13, 14, 6, 15, 16, 17, 18, 19, 20, 21, 22, 23, 24, 25, 26, 27, 28, 29, 30, 31, 32, 33, 34, 35, 36, 37, 38, 39, 40, 41, 42, 43, 44, 45, 46, 47, 48, 49, 50, 51, 52, 53, 54, 55, 56, 57, 58, 59, 60, 61, 62, 63, 64, 65, 66, 67, 68, 69, 70, 71, 72, 73, 74, 75, 76, 77, 78, 79, 80, 81, 82, 83, 84, 85, 86, 87, 88, 89, 90, 91, 92, 93, 94, 95, 96, 97, 98, 99, 100, 101, 102, 103, 104, 105, 106, 107, 108, 109, 110, 111, 112, 113, 114, 115, 116, 117, 118, 119, 120, 121, 122, 123, 124, 125, 126, 127, 128, 129, 130] (by decide +kernel) (by decide +kernel)) (goodIn_sub (fun _ h => List.mem_cons_of_mem _ (List.mem_append_left _ (List.mem_append_right _ h))) (by decide +kernel))) (goodIn_sub (fun _ h => List.mem_cons_of_mem _ (List.mem_append_right _ h)) (by decide +kernel))
set_option maxRecDepth 20000 in
theorem gL_setDemand_X5_setDemand : GoodIn wsL_setDemand (wsV RL 21 RX5 yX5_setDemand wsX5_setDemand) := goodIn_app (goodIn_of _ (by decide +kernel)) ggL_setDemand_X5_setDemand
theorem dL_setDemand_0 : decode cL_setDemand 0 = .ok (.aload_n 3, 1) := by decide +kernel
theorem dL_setDemand_1 : decode cL_setDemand 1 = .ok (.iconst 0, 1) := by decide +kernel
theorem dL_setDemand_2 : decode cL_setDemand 2 = .ok (.aload_n 0, 1) := by decide +kernel
theorem dL_setDemand_3 : decode cL_setDemand 3 = .ok (.iload_n 1, 1) := by decide +kernel
theorem dL_setDemand_4 : decode cL_setDemand 4 = .ok (.iload_n 2, 1) := by decide +kernel
theorem dL_setDemand_5 : decode cL_setDemand 5 = .ok (.invokevirtual 21, 3) := by decide +kernel
theorem dL_setDemand_8 : decode cL_setDemand 8 = .ok (.i2l, 1) := by decide +kernel
theorem dL_setDemand_9 : decode cL_setDemand 9 = .ok (.lastore, 1) := by decide +kernel
theorem dL_setDemand_10 : decode cL_setDemand 10 = .ok (.goto 11, 3) := by decide +kernel
theorem dL_setDemand_13 : decode cL_setDemand 13 = .ok (.astore 4, 2) := by decide +kernel
theorem dL_setDemand_15 : decode cL_setDemand 15 = .ok (.iconst 1, 1) := by decide +kernel
theorem dL_setDemand_16 : decode cL_setDemand 16 = .ok (.ireturn, 1) := by decide +kernel
theorem dL_setDemand_17 : decode cL_setDemand 17 = .ok (.astore 4, 2) := by decide +kernel
theorem dL_setDemand_19 : decode cL_setDemand 19 = .ok (.iconst 2, 1) := by decide +kernel
theorem dL_setDemand_20 : decode cL_setDemand 20 = .ok (.ireturn, 1) := by decide +kernel
theorem dL_setDemand_21 : decode cL_setDemand 21 = .ok (.iconst 0, 1) := by decide +kernel
theorem dL_setDemand_22 : decode cL_setDemand 22 = .ok (.ireturn, 1) := by decide +kernel
set_option maxRecDepth 20000 in
theorem ggL_setReservoir_X5_setReservoir : GoodIn wsL_setReservoir wsX5_setReservoir := goodIn_ca (goodIn_r _ [6, 7, 8, 9, 10, 11, 12, 13, 14, 5, 15, 16, 17, 18, 19, 20, 21, 22, 23, 24, 25, 26, 27, 28, 29, 30, 31, 32, 33, 34, 35, 36, 37, 38, 39, 40, 41, 42, 43, 44, 45, 46, 47, 48, 49, 50, 51, 52, 53, 54, 55, 56, 57, 58, 59, 60, 61, 62, 63, 64, 65, 66, 67, 68, 69, 70, 71, 72, 73, 74, 75, 76, 77, 78, 79, 80, 81, 82, 83, 84, 85, 86, 87, 88, 89, 90, 91, 92, 93, 94, 95, 96, 97, 98, 99, 100, 101, 102, 103, 104, 105, 106, 107, 108, 109, 110, 111, 112, 113, 114, 115, 116, 117, 118, 119, 120, 121, 122, 123, 124, 125, 126, 127, 128, 129, 130, 131, 132, 133] (by decide +kernel) (by decide +kernel)) (goodIn_sub (fun _ h => List.mem_cons_of_mem _ (List.mem_append_right _ h)) (by decide +kernel))
set_option maxRecDepth 20000 in
theorem gL_setReservoir_X5_setReservoir : GoodIn wsL_setReservoir (wsV RL 26 RX5 yX5_setReservoir wsX5_setReservoir) := goodIn_app (goodIn_of _ (by decide +kernel)) ggL_setReservoir_X5_setReservoir
theorem dL_setReservoir_0 : decode cL_setReservoir 0 = .ok (.aload 4, 2) := by decide +kernel
theorem dL_setReservoir_2 : decode cL_setReservoir 2 = .ok (.iconst 0, 1) := by decide +kernel
theorem dL_setReservoir_3 : decode cL_setReservoir 3 = .ok (.aload_n 0, 1) := by decide +kernel
theorem dL_setReservoir_4 : decode cL_setReservoir 4 = .ok (.iload_n 1, 1) := by decide +kernel
theorem dL_setReservoir_5 : decode cL_setReservoir 5 = .ok (.iload_n 2, 1) := by decide +kernel
theorem dL_setReservoir_6 : decode cL_setReservoir 6 = .ok (.iload_n 3, 1) := by decide +kernel
theorem dL_setReservoir_7 : decode cL_setReservoir 7 = .ok (.invokevirtual 26, 3) := by decide +kernel
theorem dL_setReservoir_10 : decode cL_setReservoir 10 = .ok (.i2l, 1) := by decide +kernel
theorem dL_setReservoir_11 : decode cL_setReservoir 11 = .ok (.lastore, 1) := by decide +kernel
theorem dL_setReservoir_12 : decode cL_setReservoir 12 = .ok (.goto 7, 3) := by decide +kernel
theorem dL_setReservoir_15 : decode cL_setReservoir 15 = .ok (.astore 5, 2) := by decide +kernel
theorem dL_setReservoir_17 : decode cL_setReservoir 17 = .ok (.iconst 1, 1) := by decide +kernel
theorem dL_setReservoir_18 : decode cL_setReservoir 18 = .ok (.ireturn, 1) := by decide +kernel
theorem dL_setReservoir_19 : decode cL_setReservoir 19 = .ok (.iconst 0, 1) := by decide +kernel
theorem dL_setReservoir_20 : decode cL_setReservoir 20 = .ok (.ireturn, 1) := by decide +kernel
set_option maxRecDepth 20000 in
theorem ggL_setWays_X5_setWays : GoodIn wsL_setWays wsX5_setWays := goodIn_ca (goodIn_r _ [6, 7, 8, 9, 10, 11, 12, 5, 13, 14, 15, 16, 17, 18, 19, 20, 21, 22, 23, 24, 25, 26, 27, 28, 29, 30, 31, 32, 33, 34, 35, 36, 37, 38, 39, 40, 41, 42, 43, 44, 45, 46, 47, 48, 49, 50, 51, 52, 53, 54, 55, 56, 57, 58, 59, 60, 61, 62, 63, 64, 65, 66, 67, 68, 69, 70, 71, 72, 73, 74, 75, 76, 77, 78, 79, 80, 81, 82, 83, 84, 85, 86, 87, 88, 89, 90, 91, 92, 93, 94, 95, 96, 97, 98, 99, 100, 101, 102, 103, 104, 105, 106, 107, 108, 109, 110, 111, 112, 113, 114, 115, 116, 117, 118, 119, 120, 121, 122, 123] (by decide +kernel) (by decide +kernel)) (goodIn_sub (fun _ h => List.mem_cons_of_mem _ (List.mem_append_right _ h)) (by decide +kernel))
set_option maxRecDepth 20000 in
theorem gL_setWays_X5_setWays : GoodIn wsL_setWays (wsV RL 30 RX5 yX5_setWays wsX5_setWays) := goodIn_app (goodIn_of _ (by decide +kernel)) ggL_setWays_X5_setWays
theorem dL_setWays_0 : decode cL_setWays 0 = .ok (.aload 4, 2) := by decide +kernel
theorem dL_setWays_2 : decode cL_setWays 2 = .ok (.iconst 0, 1) := by decide +kernel
theorem dL_setWays_3 : decode cL_setWays 3 = .ok (.aload_n 0, 1) := by decide +kernel
theorem dL_setWays_4 : decode cL_setWays 4 = .ok (.iload_n 1, 1) := by decide +kernel
theorem dL_setWays_5 : decode cL_setWays 5 = .ok (.iload_n 2, 1) := by decide +kernel
theorem dL_setWays_6 : decode cL_setWays 6 = .ok (.iload_n 3, 1) := by decide +kernel
theorem dL_setWays_7 : decode cL_setWays 7 = .ok (.invokevirtual 30, 3) := by decide +kernel
theorem dL_setWays_10 : decode cL_setWays 10 = .ok (.i2l, 1) := by decide +kernel
theorem dL_setWays_11 : decode cL_setWays 11 = .ok (.lastore, 1) := by decide +kernel
theorem dL_setWays_12 : decode cL_setWays 12 = .ok (.goto 7, 3) := by decide +kernel
theorem dL_setWays_15 : decode cL_setWays 15 = .ok (.astore 5, 2) := by decide +kernel
theorem dL_setWays_17 : decode cL_setWays 17 = .ok (.iconst 1, 1) := by decide +kernel
theorem dL_setWays_18 : decode cL_setWays 18 = .ok (.ireturn, 1) := by decide +kernel
theorem dL_setWays_19 : decode cL_setWays 19 = .ok (.iconst 0, 1) := by decide +kernel
theorem dL_setWays_20 : decode cL_setWays 20 = .ok (.ireturn, 1) := by decide +kernel
set_option maxRecDepth 20000 in
theorem ggL_setting_X5_setting : GoodIn wsL_setting wsX5_setting := goodIn_ca (goodIn_r _ [6, 7, 8, 9, 5, 10, 11, 12, 13, 14, 15, 16, 17, 18, 19, 20, 21, 22, 23, 24, 25, 26, 27, 28, 29, 30, 31, 32, 33, 34, 35, 36, 37, 38, 39, 40, 41, 42, 43, 44, 45, 46, 47, 48, 49, 50, 51, 52, 53, 54] (by decide +kernel) (by decide +kernel)) (goodIn_sub (fun _ h => List.mem_cons_of_mem _ (List.mem_append_right _ h)) (by decide +kernel))
set_option maxRecDepth 20000 in
theorem gL_setting_X5_setting : GoodIn wsL_setting (wsV RL 33 RX5 yX5_setting wsX5_setting) := goodIn_app (goodIn_of _ (by decide +kernel)) ggL_setting_X5_setting
theorem dL_setting_0 : decode cL_setting 0 = .ok (.aload_n 2, 1) := by decide +kernel
theorem dL_setting_1 : decode cL_setting 1 = .ok (.iconst 0, 1) := by decide +kernel
theorem dL_setting_2 : decode cL_setting 2 = .ok (.aload_n 0, 1) := by decide +kernel
theorem dL_setting_3 : decode cL_setting 3 = .ok (.iload_n 1, 1) := by decide +kernel
theorem dL_setting_4 : decode cL_setting 4 = .ok (.invokevirtual 33, 3) := by decide +kernel
theorem dL_setting_7 : decode cL_setting 7 = .ok (.i2l, 1) := by decide +kernel
theorem dL_setting_8 : decode cL_setting 8 = .ok (.lastore, 1) := by decide +kernel
theorem dL_setting_9 : decode cL_setting 9 = .ok (.goto 6, 3) := by decide +kernel
theorem dL_setting_12 : decode cL_setting 12 = .ok (.astore_n 3, 1) := by decide +kernel
theorem dL_setting_13 : decode cL_setting 13 = .ok (.iconst 1, 1) := by decide +kernel
theorem dL_setting_14 : decode cL_setting 14 = .ok (.ireturn, 1) := by decide +kernel
theorem dL_setting_15 : decode cL_setting 15 = .ok (.iconst 0, 1) := by decide +kernel
theorem dL_setting_16 : decode cL_setting 16 = .ok (.ireturn, 1) := by decide +kernel
set_option maxRecDepth 20000 in
theorem ggL_roof_X5_roof : GoodIn wsL_roof wsX5_roof := goodIn_ca (goodIn_ca (goodIn_r _ [7, 8, 9, 10, 11, 12, 6, 13, 14, 15, 16, 17, 18, 19, 20, 21, 22, 23, 24, 25, 26, 27, 28, 29, 30, 31, 32, 33, 34, 35, 36, 37, 38, 39, 40, 41, 42, 43, 44, 45, 46, 47, 48, 49, 50, 51, 52, 53, 54, 55, 56, 57] (by decide +kernel) (by decide +kernel)) (goodIn_sub (fun _ h => List.mem_cons_of_mem _ (List.mem_append_left _ (List.mem_append_right _ h))) (by decide +kernel))) (goodIn_sub (fun _ h => List.mem_cons_of_mem _ (List.mem_append_right _ h)) (by decide +kernel))
set_option maxRecDepth 20000 in
theorem gL_roof_X5_roof : GoodIn wsL_roof (wsV RL 37 RX5 yX5_roof wsX5_roof) := goodIn_app (goodIn_of _ (by decide +kernel)) ggL_roof_X5_roof
theorem dL_roof_0 : decode cL_roof 0 = .ok (.aload_n 3, 1) := by decide +kernel
theorem dL_roof_1 : decode cL_roof 1 = .ok (.iconst 0, 1) := by decide +kernel
theorem dL_roof_2 : decode cL_roof 2 = .ok (.aload_n 0, 1) := by decide +kernel
theorem dL_roof_3 : decode cL_roof 3 = .ok (.iload_n 1, 1) := by decide +kernel
theorem dL_roof_4 : decode cL_roof 4 = .ok (.iload_n 2, 1) := by decide +kernel
theorem dL_roof_5 : decode cL_roof 5 = .ok (.invokevirtual 37, 3) := by decide +kernel
theorem dL_roof_8 : decode cL_roof 8 = .ok (.i2l, 1) := by decide +kernel
theorem dL_roof_9 : decode cL_roof 9 = .ok (.lastore, 1) := by decide +kernel
theorem dL_roof_10 : decode cL_roof 10 = .ok (.goto 11, 3) := by decide +kernel
theorem dL_roof_13 : decode cL_roof 13 = .ok (.astore 4, 2) := by decide +kernel
theorem dL_roof_15 : decode cL_roof 15 = .ok (.iconst 1, 1) := by decide +kernel
theorem dL_roof_16 : decode cL_roof 16 = .ok (.ireturn, 1) := by decide +kernel
theorem dL_roof_17 : decode cL_roof 17 = .ok (.astore 4, 2) := by decide +kernel
theorem dL_roof_19 : decode cL_roof 19 = .ok (.iconst 2, 1) := by decide +kernel
theorem dL_roof_20 : decode cL_roof 20 = .ok (.ireturn, 1) := by decide +kernel
theorem dL_roof_21 : decode cL_roof 21 = .ok (.iconst 0, 1) := by decide +kernel
theorem dL_roof_22 : decode cL_roof 22 = .ok (.ireturn, 1) := by decide +kernel
set_option maxRecDepth 20000 in
theorem ggL_user_X5_user : GoodIn wsL_user wsX5_user := goodIn_ca (goodIn_ca (goodIn_r _ [7, 8, 9, 10, 11, 12, 13, 6, 14, 15, 16, 17, 18, 19, 20, 21, 22, 23, 24, 25, 26, 27, 28, 29, 30, 31, 32, 33, 34, 35, 36, 37, 38, 39, 40, 41, 42, 43, 44, 45, 46, 47, 48, 49, 50, 51, 52, 53, 54, 55, 56, 57, 58] (by decide +kernel) (by decide +kernel)) (goodIn_sub (fun _ h => List.mem_cons_of_mem _ (List.mem_append_left _ (List.mem_append_right _ h))) (by decide +kernel))) (goodIn_sub (fun _ h => List.mem_cons_of_mem _ (List.mem_append_right _ h)) (by decide +kernel))
set_option maxRecDepth 20000 in
theorem gL_user_X5_user : GoodIn wsL_user (wsV RL 40 RX5 yX5_user wsX5_user) := goodIn_app (goodIn_of _ (by decide +kernel)) ggL_user_X5_user
theorem dL_user_0 : decode cL_user 0 = .ok (.aload_n 3, 1) := by decide +kernel
theorem dL_user_1 : decode cL_user 1 = .ok (.iconst 0, 1) := by decide +kernel
theorem dL_user_2 : decode cL_user 2 = .ok (.aload_n 0, 1) := by decide +kernel
theorem dL_user_3 : decode cL_user 3 = .ok (.iload_n 1, 1) := by decide +kernel
theorem dL_user_4 : decode cL_user 4 = .ok (.iload_n 2, 1) := by decide +kernel
theorem dL_user_5 : decode cL_user 5 = .ok (.invokevirtual 40, 3) := by decide +kernel
theorem dL_user_8 : decode cL_user 8 = .ok (.i2l, 1) := by decide +kernel
theorem dL_user_9 : decode cL_user 9 = .ok (.lastore, 1) := by decide +kernel
theorem dL_user_10 : decode cL_user 10 = .ok (.goto 11, 3) := by decide +kernel
theorem dL_user_13 : decode cL_user 13 = .ok (.astore 4, 2) := by decide +kernel
theorem dL_user_15 : decode cL_user 15 = .ok (.iconst 1, 1) := by decide +kernel
theorem dL_user_16 : decode cL_user 16 = .ok (.ireturn, 1) := by decide +kernel
theorem dL_user_17 : decode cL_user 17 = .ok (.astore 4, 2) := by decide +kernel
theorem dL_user_19 : decode cL_user 19 = .ok (.iconst 2, 1) := by decide +kernel
theorem dL_user_20 : decode cL_user 20 = .ok (.ireturn, 1) := by decide +kernel
theorem dL_user_21 : decode cL_user 21 = .ok (.iconst 0, 1) := by decide +kernel
theorem dL_user_22 : decode cL_user 22 = .ok (.ireturn, 1) := by decide +kernel
set_option maxRecDepth 20000 in
theorem ggL_addRain_X5_addRain : GoodIn wsL_addRain wsX5_addRain := goodIn_ca (goodIn_ca (goodIn_r _ [7, 8, 9, 10, 11, 6, 12, 13, 14, 15, 16, 17, 18, 19, 20, 21, 22, 23, 24, 25, 26, 27, 28, 29, 30, 31, 32, 33, 34, 35, 36, 37, 38, 39, 40, 41, 42, 43, 44, 45, 46, 47, 48, 49, 50, 51, 52, 53, 54, 55, 56, 57, 58, 59, 60, 61, 62, 63, 64, 65, 66, 67, 68, 69, 70, 71, 72, 73, 74, 75, 76, 77, 78, 79, 80, 81, 82, 83, 84, 85, 86, 87, 88, 89, 90, 91, 92, 93, 94, 95, 96, 97, 98, 99, 100, 101, 102, 103, 104, 105, 106, 107, 108, 109, 110, 111, 112, 113, 114, 115, 116, 117, 118, 119, 120, 121, 122, 123, 124, 125, 126, 127, 128, 129, 130, 131, 132] (by decide +kernel) (by decide +kernel)) (goodIn_sub (fun _ h => List.mem_cons_of_mem _ (List.mem_append_left _ (List.mem_append_right _ h))) (by decide +kernel))) (goodIn_sub (fun _ h => List.mem_cons_of_mem _ (List.mem_append_right _ h)) (by decide +kernel))
set_option maxRecDepth 20000 in
theorem gL_addRain_X5_addRain : GoodIn wsL_addRain (wsV RL 43 RX5 yX5_addRain wsX5_addRain) := goodIn_app (goodIn_of _ (by decide +kernel)) ggL_addRain_X5_addRain
theorem dL_addRain_0 : decode cL_addRain 0 = .ok (.aload_n 3, 1) := by decide +kernel
theorem dL_addRain_1 : decode cL_addRain 1 = .ok (.iconst 0, 1) := by decide +kernel
theorem dL_addRain_2 : decode cL_addRain 2 = .ok (.aload_n 0, 1) := by decide +kernel
theorem dL_addRain_3 : decode cL_addRain 3 = .ok (.iload_n 1, 1) := by decide +kernel
theorem dL_addRain_4 : decode cL_addRain 4 = .ok (.iload_n 2, 1) := by decide +kernel
theorem dL_addRain_5 : decode cL_addRain 5 = .ok (.invokevirtual 43, 3) := by decide +kernel
theorem dL_addRain_8 : decode cL_addRain 8 = .ok (.i2l, 1) := by decide +kernel
theorem dL_addRain_9 : decode cL_addRain 9 = .ok (.lastore, 1) := by decide +kernel
theorem dL_addRain_10 : decode cL_addRain 10 = .ok (.goto 11, 3) := by decide +kernel
theorem dL_addRain_13 : decode cL_addRain 13 = .ok (.astore 4, 2) := by decide +kernel
theorem dL_addRain_15 : decode cL_addRain 15 = .ok (.iconst 1, 1) := by decide +kernel
theorem dL_addRain_16 : decode cL_addRain 16 = .ok (.ireturn, 1) := by decide +kernel
theorem dL_addRain_17 : decode cL_addRain 17 = .ok (.astore 4, 2) := by decide +kernel
theorem dL_addRain_19 : decode cL_addRain 19 = .ok (.iconst 2, 1) := by decide +kernel
theorem dL_addRain_20 : decode cL_addRain 20 = .ok (.ireturn, 1) := by decide +kernel
theorem dL_addRain_21 : decode cL_addRain 21 = .ok (.iconst 0, 1) := by decide +kernel
theorem dL_addRain_22 : decode cL_addRain 22 = .ok (.ireturn, 1) := by decide +kernel
set_option maxRecDepth 20000 in
theorem ggL_addRandomRain_X5_addRandomRain : GoodIn wsL_addRandomRain wsX5_addRandomRain := goodIn_ca (goodIn_ca (goodIn_r _ [7, 8, 9, 10, 11, 12, 13, 14, 6, 15, 16, 17, 18, 19, 20, 21, 22, 23, 24, 25, 26, 27, 28, 29, 30, 31, 32, 33, 34, 35, 36, 37, 38, 39, 40, 41, 42, 43, 44, 45, 46, 47, 48, 49, 50, 51, 52, 53, 54, 55, 56, 57, 58, 59, 60, 61, 62, 63, 64, 65, 66, 67, 68, 69, 70, 71, 72, 73, 74, 75, 76, 77, 78, 79, 80, 81, 82, 83, 84, 85, 86, 87, 88, 89, 90, 91, 92, 93, 94, 95, 96, 97, 98, 99, 100, 101, 102, 103, 104, 105, 106, 107, 108, 109, 110, 111, 112, 113, 114, 115, 116, 117, 118, 119, 120, 121, 122, 123, 124, 125, 126, 127, 128, 129, 130, 131, 132, 133, 134, 135, 136, 137, 138, 139, 140, 141] (by decide +kernel) (by decide +kernel)) (goodIn_sub (fun _ h => List.mem_cons_of_mem _ (List.mem_append_left _ (List.mem_append_right _ h))) (by decide +kernel))) (goodIn_sub (fun _ h => List.mem_cons_of_mem _ (List.mem_append_right _ h)) (by decide +kernel))
set_option maxRecDepth 20000 in
theorem gL_addRandomRain_X5_addRandomRain : GoodIn wsL_addRandomRain (wsV RL 46 RX5 yX5_addRandomRain wsX5_addRandomRain) := goodIn_app (goodIn_of _ (by decide +kernel)) ggL_addRandomRain_X5_addRandomRain
theorem dL_addRandomRain_0 : decode cL_addRandomRain 0 = .ok (.aload 5, 2) := by decide +kernel
theorem dL_addRandomRain_2 : decode cL_addRandomRain 2 = .ok (.iconst 0, 1) := by decide +kernel
theorem dL_addRandomRain_3 : decode cL_addRandomRain 3 = .ok (.aload_n 0, 1) := by decide +kernel
theorem dL_addRandomRain_4 : decode cL_addRandomRain 4 = .ok (.iload_n 1, 1) := by decide +kernel
theorem dL_addRandomRain_5 : decode cL_addRandomRain 5 = .ok (.iload_n 2, 1) := by decide +kernel
theorem dL_addRandomRain_6 : decode cL_addRandomRain 6 = .ok (.iload_n 3, 1) := by decide +kernel
theorem dL_addRandomRain_7 : decode cL_addRandomRain 7 = .ok (.iload 4, 2) := by decide +kernel
theorem dL_addRandomRain_9 : decode cL_addRandomRain 9 = .ok (.invokevirtual 46, 3) := by decide +kernel
theorem dL_addRandomRain_12 : decode cL_addRandomRain 12 = .ok (.i2l, 1) := by decide +kernel
theorem dL_addRandomRain_13 : decode cL_addRandomRain 13 = .ok (.lastore, 1) := by decide +kernel
theorem dL_addRandomRain_14 : decode cL_addRandomRain 14 = .ok (.goto 11, 3) := by decide +kernel
theorem dL_addRandomRain_17 : decode cL_addRandomRain 17 = .ok (.astore 6, 2) := by decide +kernel
theorem dL_addRandomRain_19 : decode cL_addRandomRain 19 = .ok (.iconst 1, 1) := by decide +kernel
theorem dL_addRandomRain_20 : decode cL_addRandomRain 20 = .ok (.ireturn, 1) := by decide +kernel
theorem dL_addRandomRain_21 : decode cL_addRandomRain 21 = .ok (.astore 6, 2) := by decide +kernel
theorem dL_addRandomRain_23 : decode cL_addRandomRain 23 = .ok (.iconst 2, 1) := by decide +kernel
theorem dL_addRandomRain_24 : decode cL_addRandomRain 24 = .ok (.ireturn, 1) := by decide +kernel
theorem dL_addRandomRain_25 : decode cL_addRandomRain 25 = .ok (.iconst 0, 1) := by decide +kernel
theorem dL_addRandomRain_26 : decode cL_addRandomRain 26 = .ok (.ireturn, 1) := by decide +kernel
set_option maxRecDepth 20000 in
theorem ggL_rain_X5_rain : GoodIn wsL_rain wsX5_rain := goodIn_ca (goodIn_r _ [6, 7, 8, 9, 10, 11, 5, 12, 13, 14, 15, 16, 17, 18, 19, 20, 21, 22, 23, 24, 25, 26, 27, 28, 29, 30, 31, 32, 33, 34, 35] (by decide +kernel) (by decide +kernel)) (goodIn_sub (fun _ h => List.mem_cons_of_mem _ (List.mem_append_right _ h)) (by decide +kernel))
set_option maxRecDepth 20000 in
theorem gL_rain_X5_rain : GoodIn wsL_rain (wsV RL 49 RX5 yX5_rain wsX5_rain) := goodIn_app (goodIn_of _ (by decide +kernel)) ggL_rain_X5_rain
theorem dL_rain_0 : decode cL_rain 0 = .ok (.aload_n 2, 1) := by decide +kernel
theorem dL_rain_1 : decode cL_rain 1 = .ok (.iconst 0, 1) := by decide +kernel
theorem dL_rain_2 : decode cL_rain 2 = .ok (.aload_n 0, 1) := by decide +kernel
theorem dL_rain_3 : decode cL_rain 3 = .ok (.iload_n 1, 1) := by decide +kernel
theorem dL_rain_4 : decode cL_rain 4 = .ok (.invokevirtual 49, 3) := by decide +kernel
theorem dL_rain_7 : decode cL_rain 7 = .ok (.i2l, 1) := by decide +kernel
theorem dL_rain_8 : decode cL_rain 8 = .ok (.lastore, 1) := by decide +kernel
theorem dL_rain_9 : decode cL_rain 9 = .ok (.goto 6, 3) := by decide +kernel
theorem dL_rain_12 : decode cL_rain 12 = .ok (.astore_n 3, 1) := by decide +kernel
theorem dL_rain_13 : decode cL_rain 13 = .ok (.iconst 1, 1) := by decide +kernel
theorem dL_rain_14 : decode cL_rain 14 = .ok (.ireturn, 1) := by decide +kernel
theorem dL_rain_15 : decode cL_rain 15 = .ok (.iconst 0, 1) := by decide +kernel
theorem dL_rain_16 : decode cL_rain 16 = .ok (.ireturn, 1) := by decide +kernel
set_option maxRecDepth 20000 in
theorem ggL_run_X5_run : GoodIn wsL_run wsX5_run := goodIn_ca (goodIn_ca (goodIn_r _ [7, 8, 9, 10, 11, 12, 13, 14, 6, 15, 16, 17, 18, 19, 20, 21, 22, 23, 24, 25, 26, 27, 28, 29, 30, 31, 32, 33, 34, 35, 36, 37, 38, 39, 40, 41, 42, 43, 44, 45, 46, 47, 48, 49, 50, 51, 52, 53, 54, 55, 56, 57, 58, 59, 60, 61, 62, 63, 64, 65, 66, 67, 68, 69, 70, 71, 72, 73, 74, 75, 76, 77, 78, 79, 80, 81, 82, 83, 84, 85, 86, 87, 88, 89, 90, 91, 92, 93, 94, 95, 96, 97, 98, 99, 100, 101, 102, 103, 104, 105, 106, 107, 108, 109, 110, 111, 112, 113, 114, 115, 116, 117, 118, 119, 120, 121, 122, 123, 124, 125, 126, 127, 128, 129, 130, 131, 132, 133, 134, 135, 136, 137, 138, 139, 140, 141, 142, 143, 144, 145, 146, 147, 148, 149, 150, 151, 152, 153, 154, 155, 156, 157, 158, 159, 160, 161, 162, 163, 164, 165, 166, 167, 168, 169, 170, 171, 172, 173, 174, 175, 176, 177, 178, 179, 180, 181, 182, 183, 184, 185, 186, 187, 188, 189, 190, 191, 192, 193, 194, 195, 196, 197, 198, 199, 200, 201, 202, 203, 204, 205, 206, 207, 208, 209, 210, 211, 212, 213, 214, 215, 216, 217, 218, 219, 220, 221, 222, 223, 224, 225, 226, 227, 228, 229, 230, 231, 232, 233] (by decide +kernel) (by decide +kernel)) (goodIn_sub (fun _ h => List.mem_cons_of_mem _ (List.mem_append_left _ (List.mem_append_right _ h))) (by decide +kernel))) (goodIn_sub (fun _ h => List.mem_cons_of_mem _ (List.mem_append_right _ h)) (by decide +kernel))
set_option maxRecDepth 20000 in
theorem gL_run_X5_run : GoodIn wsL_run (wsV RL 52 RX5 yX5_run wsX5_run) := goodIn_app (goodIn_of _ (by decide +kernel)) ggL_run_X5_run
theorem dL_run_0 : decode cL_run 0 = .ok (.aload_n 2, 1) := by decide +kernel
theorem dL_run_1 : decode cL_run 1 = .ok (.iconst 0, 1) := by decide +kernel
theorem dL_run_2 : decode cL_run 2 = .ok (.aload_n 0, 1) := by decide +kernel
theorem dL_run_3 : decode cL_run 3 = .ok (.iload_n 1, 1) := by decide +kernel
theorem dL_run_4 : decode cL_run 4 = .ok (.invokevirtual 52, 3) := by decide +kernel
theorem dL_run_7 : decode cL_run 7 = .ok (.i2l, 1) := by decide +kernel
theorem dL_run_8 : decode cL_run 8 = .ok (.lastore, 1) := by decide +kernel
theorem dL_run_9 : decode cL_run 9 = .ok (.goto 9, 3) := by decide +kernel
theorem dL_run_12 : decode cL_run 12 = .ok (.astore_n 3, 1) := by decide +kernel
theorem dL_run_13 : decode cL_run 13 = .ok (.iconst 1, 1) := by decide +kernel
theorem dL_run_14 : decode cL_run 14 = .ok (.ireturn, 1) := by decide +kernel
theorem dL_run_15 : decode cL_run 15 = .ok (.astore_n 3, 1) := by decide +kernel
theorem dL_run_16 : decode cL_run 16 = .ok (.iconst 2, 1) := by decide +kernel
theorem dL_run_17 : decode cL_run 17 = .ok (.ireturn, 1) := by decide +kernel
theorem dL_run_18 : decode cL_run 18 = .ok (.iconst 0, 1) := by decide +kernel
theorem dL_run_19 : decode cL_run 19 = .ok (.ireturn, 1) := by decide +kernel
set_option maxRecDepth 20000 in
theorem ggL_day_X5_day : GoodIn wsL_day wsX5_day := goodIn_ca (goodIn_ca (goodIn_r _ [7, 8, 9, 10, 11, 6, 12, 13, 14, 15, 16, 17, 18, 19, 20, 21, 22, 23, 24, 25, 26, 27, 28, 29, 30, 31, 32, 33, 34, 35, 36, 37, 38, 39, 40, 41, 42, 43, 44, 45, 46] (by decide +kernel) (by decide +kernel)) (goodIn_sub (fun _ h => List.mem_cons_of_mem _ (List.mem_append_left _ (List.mem_append_right _ h))) (by decide +kernel))) (goodIn_sub (fun _ h => List.mem_cons_of_mem _ (List.mem_append_right _ h)) (by decide +kernel))
set_option maxRecDepth 20000 in
theorem gL_day_X5_day : GoodIn wsL_day (wsV RL 55 RX5 yX5_day wsX5_day) := goodIn_app (goodIn_of _ (by decide +kernel)) ggL_day_X5_day
theorem dL_day_0 : decode cL_day 0 = .ok (.aload_n 3, 1) := by decide +kernel
theorem dL_day_1 : decode cL_day 1 = .ok (.iconst 0, 1) := by decide +kernel
theorem dL_day_2 : decode cL_day 2 = .ok (.aload_n 0, 1) := by decide +kernel
theorem dL_day_3 : decode cL_day 3 = .ok (.iload_n 1, 1) := by decide +kernel
theorem dL_day_4 : decode cL_day 4 = .ok (.iload_n 2, 1) := by decide +kernel
theorem dL_day_5 : decode cL_day 5 = .ok (.invokevirtual 55, 3) := by decide +kernel
theorem dL_day_8 : decode cL_day 8 = .ok (.i2l, 1) := by decide +kernel
theorem dL_day_9 : decode cL_day 9 = .ok (.lastore, 1) := by decide +kernel
theorem dL_day_10 : decode cL_day 10 = .ok (.goto 11, 3) := by decide +kernel
theorem dL_day_13 : decode cL_day 13 = .ok (.astore 4, 2) := by decide +kernel
theorem dL_day_15 : decode cL_day 15 = .ok (.iconst 1, 1) := by decide +kernel
theorem dL_day_16 : decode cL_day 16 = .ok (.ireturn, 1) := by decide +kernel
theorem dL_day_17 : decode cL_day 17 = .ok (.astore 4, 2) := by decide +kernel
theorem dL_day_19 : decode cL_day 19 = .ok (.iconst 2, 1) := by decide +kernel
theorem dL_day_20 : decode cL_day 20 = .ok (.ireturn, 1) := by decide +kernel
theorem dL_day_21 : decode cL_day 21 = .ok (.iconst 0, 1) := by decide +kernel
theorem dL_day_22 : decode cL_day 22 = .ok (.ireturn, 1) := by decide +kernel
set_option maxRecDepth 20000 in
theorem ggL_sum_X5_sum : GoodIn wsL_sum wsX5_sum := goodIn_ca (goodIn_r _ [6, 7, 8, 9, 10, 11, 5, 12, 13, 14, 15, 16, 17, 18, 19, 20, 21, 22, 23, 24, 25, 26, 27, 28, 29, 30, 31, 32, 33, 34, 35, 36, 37, 38, 39, 40, 41] (by decide +kernel) (by decide +kernel)) (goodIn_sub (fun _ h => List.mem_cons_of_mem _ (List.mem_append_right _ h)) (by decide +kernel))
set_option maxRecDepth 20000 in
theorem gL_sum_X5_sum : GoodIn wsL_sum (wsV RL 58 RX5 yX5_sum wsX5_sum) := goodIn_app (goodIn_of _ (by decide +kernel)) ggL_sum_X5_sum
theorem dL_sum_0 : decode cL_sum 0 = .ok (.aload_n 2, 1) := by decide +kernel
theorem dL_sum_1 : decode cL_sum 1 = .ok (.iconst 0, 1) := by decide +kernel
theorem dL_sum_2 : decode cL_sum 2 = .ok (.aload_n 0, 1) := by decide +kernel
theorem dL_sum_3 : decode cL_sum 3 = .ok (.iload_n 1, 1) := by decide +kernel
theorem dL_sum_4 : decode cL_sum 4 = .ok (.invokevirtual 58, 3) := by decide +kernel
theorem dL_sum_7 : decode cL_sum 7 = .ok (.lastore, 1) := by decide +kernel
theorem dL_sum_8 : decode cL_sum 8 = .ok (.goto 6, 3) := by decide +kernel
theorem dL_sum_11 : decode cL_sum 11 = .ok (.astore_n 3, 1) := by decide +kernel
theorem dL_sum_12 : decode cL_sum 12 = .ok (.iconst 1, 1) := by decide +kernel
theorem dL_sum_13 : decode cL_sum 13 = .ok (.ireturn, 1) := by decide +kernel
theorem dL_sum_14 : decode cL_sum 14 = .ok (.iconst 0, 1) := by decide +kernel
theorem dL_sum_15 : decode cL_sum 15 = .ok (.ireturn, 1) := by decide +kernel
set_option maxRecDepth 20000 in
theorem ggL_shortDaysWith_X5_shortDaysWith : GoodIn wsL_shortDaysWith wsX5_shortDaysWith := goodIn_ca (goodIn_r _ [6, 7, 8, 9, 10, 5, 11, 12, 13, 14, 15, 16, 17, 18, 19, 20, 21, 22, 23, 24, 25, 26, 27, 28, 29, 30, 31, 32, 33, 34, 35, 36, 37, 38, 39, 40, 41, 42, 43, 44, 45, 46, 47, 48, 49, 50, 51, 52, 53, 54, 55, 56, 57, 58, 59, 60, 61, 62, 63, 64, 65, 66, 67, 68, 69, 70, 71, 72, 73, 74, 75, 76, 77, 78, 79, 80, 81, 82, 83, 84, 85, 86, 87, 88, 89, 90, 91, 92, 93, 94, 95, 96, 97, 98, 99, 100, 101, 102, 103, 104, 105, 106, 107, 108, 109, 110, 111, 112, 113, 114, 115, 116, 117, 118, 119, 120, 121, 122, 123, 124, 125, 126, 127, 128, 129, 130, 131, 132, 133, 134, 135, 136, 137, 138, 139, 140, 141, 142, 143, 144, 145, 146, 147, 148, 149, 150, 151, 152, 153, 154, 155, 156, 157, 158, 159, 160, 161, 162, 163, 164, 165, 166, 167, 168, 169, 170, 171, 172, 173, 174, 175, 176, 177, 178, 179, 180, 181, 182, 183, 184, 185, 186, 187, 188, 189, 190, 191, 192, 193, 194, 195, 196, 197, 198, 199, 200, 201, 202, 203, 204, 205, 206, 207, 208, 209, 210, 211, 212, 213, 214, 215, 216, 217, 218, 219, 220, 221, 222, 223, 224, 225, 226, 227, 228, 229, 230, 231, 232, 233, 234, 235, 236, 237, 238, 239, 240, 241, 242, 243, 244, 245, 246, 247, 248, 249, 250, 251] (by decide +kernel) (by decide +kernel)) (goodIn_sub (fun _ h => List.mem_cons_of_mem _ (List.mem_append_right _ h)) (by decide +kernel))
set_option maxRecDepth 20000 in
theorem gL_shortDaysWith_X5_shortDaysWith : GoodIn wsL_shortDaysWith (wsV RL 62 RX5 yX5_shortDaysWith wsX5_shortDaysWith) := goodIn_app (goodIn_of _ (by decide +kernel)) ggL_shortDaysWith_X5_shortDaysWith
theorem dL_shortDaysWith_0 : decode cL_shortDaysWith 0 = .ok (.aload_n 2, 1) := by decide +kernel
theorem dL_shortDaysWith_1 : decode cL_shortDaysWith 1 = .ok (.iconst 0, 1) := by decide +kernel
theorem dL_shortDaysWith_2 : decode cL_shortDaysWith 2 = .ok (.aload_n 0, 1) := by decide +kernel
theorem dL_shortDaysWith_3 : decode cL_shortDaysWith 3 = .ok (.iload_n 1, 1) := by decide +kernel
theorem dL_shortDaysWith_4 : decode cL_shortDaysWith 4 = .ok (.invokevirtual 62, 3) := by decide +kernel
theorem dL_shortDaysWith_7 : decode cL_shortDaysWith 7 = .ok (.i2l, 1) := by decide +kernel
theorem dL_shortDaysWith_8 : decode cL_shortDaysWith 8 = .ok (.lastore, 1) := by decide +kernel
theorem dL_shortDaysWith_9 : decode cL_shortDaysWith 9 = .ok (.goto 6, 3) := by decide +kernel
theorem dL_shortDaysWith_12 : decode cL_shortDaysWith 12 = .ok (.astore_n 3, 1) := by decide +kernel
theorem dL_shortDaysWith_13 : decode cL_shortDaysWith 13 = .ok (.iconst 1, 1) := by decide +kernel
theorem dL_shortDaysWith_14 : decode cL_shortDaysWith 14 = .ok (.ireturn, 1) := by decide +kernel
theorem dL_shortDaysWith_15 : decode cL_shortDaysWith 15 = .ok (.iconst 0, 1) := by decide +kernel
theorem dL_shortDaysWith_16 : decode cL_shortDaysWith 16 = .ok (.ireturn, 1) := by decide +kernel
set_option maxRecDepth 20000 in
theorem ggL_capacityFor_X5_capacityFor : GoodIn wsL_capacityFor wsX5_capacityFor := goodIn_ca (goodIn_r _ [6, 7, 8, 9, 10, 5, 11, 12, 13, 14, 15, 16, 17, 18, 19, 20, 21, 22, 23, 24, 25, 26, 27, 28, 29, 30, 31, 32, 33, 34, 35, 36, 37, 38, 39, 40, 41, 42, 43, 44, 45, 46, 47, 48, 49, 50, 51, 52, 53, 54, 55, 56, 57, 58, 59, 60, 61, 62, 63, 64, 65, 66, 67, 68, 69, 70, 71, 72, 73, 74, 75, 76, 77, 78, 79, 80, 81, 82, 83, 84, 85, 86, 87, 88, 89, 90, 91, 92, 93, 94, 95, 96, 97, 98, 99, 100, 101, 102, 103, 104, 105, 106, 107, 108, 109, 110, 111, 112, 113, 114, 115, 116, 117, 118, 119, 120, 121, 122, 123, 124, 125, 126, 127, 128, 129, 130, 131, 132, 133, 134, 135, 136, 137, 138, 139, 140, 141, 142, 143, 144, 145, 146, 147, 148, 149, 150, 151, 152, 153, 154, 155, 156, 157, 158, 159, 160, 161, 162, 163, 164, 165, 166, 167, 168, 169, 170, 171, 172, 173, 174, 175, 176, 177, 178, 179, 180, 181, 182, 183, 184, 185, 186, 187, 188, 189, 190, 191, 192, 193, 194, 195, 196, 197, 198, 199, 200, 201, 202, 203, 204, 205, 206, 207, 208, 209, 210, 211, 212, 213, 214, 215, 216, 217, 218, 219, 220, 221, 222, 223, 224, 225, 226, 227, 228, 229, 230, 231, 232, 233, 234, 235, 236, 237, 238, 239, 240, 241, 242, 243, 244, 245, 246, 247, 248, 249, 250, 251] (by decide +kernel) (by decide +kernel)) (goodIn_sub (fun _ h => List.mem_cons_of_mem _ (List.mem_append_right _ h)) (by decide +kernel))
set_option maxRecDepth 20000 in
theorem gL_capacityFor_X5_capacityFor : GoodIn wsL_capacityFor (wsV RL 65 RX5 yX5_capacityFor wsX5_capacityFor) := goodIn_app (goodIn_of _ (by decide +kernel)) ggL_capacityFor_X5_capacityFor
theorem dL_capacityFor_0 : decode cL_capacityFor 0 = .ok (.aload_n 2, 1) := by decide +kernel
theorem dL_capacityFor_1 : decode cL_capacityFor 1 = .ok (.iconst 0, 1) := by decide +kernel
theorem dL_capacityFor_2 : decode cL_capacityFor 2 = .ok (.aload_n 0, 1) := by decide +kernel
theorem dL_capacityFor_3 : decode cL_capacityFor 3 = .ok (.iload_n 1, 1) := by decide +kernel
theorem dL_capacityFor_4 : decode cL_capacityFor 4 = .ok (.invokevirtual 65, 3) := by decide +kernel
theorem dL_capacityFor_7 : decode cL_capacityFor 7 = .ok (.i2l, 1) := by decide +kernel
theorem dL_capacityFor_8 : decode cL_capacityFor 8 = .ok (.lastore, 1) := by decide +kernel
theorem dL_capacityFor_9 : decode cL_capacityFor 9 = .ok (.goto 6, 3) := by decide +kernel
theorem dL_capacityFor_12 : decode cL_capacityFor 12 = .ok (.astore_n 3, 1) := by decide +kernel
theorem dL_capacityFor_13 : decode cL_capacityFor 13 = .ok (.iconst 1, 1) := by decide +kernel
theorem dL_capacityFor_14 : decode cL_capacityFor 14 = .ok (.ireturn, 1) := by decide +kernel
theorem dL_capacityFor_15 : decode cL_capacityFor 15 = .ok (.iconst 0, 1) := by decide +kernel
theorem dL_capacityFor_16 : decode cL_capacityFor 16 = .ok (.ireturn, 1) := by decide +kernel
set_option maxRecDepth 20000 in
theorem ggL_gutterLoss_X5_gutterLoss : GoodIn wsL_gutterLoss wsX5_gutterLoss := goodIn_ca (goodIn_r _ [6, 7, 8, 9, 10, 11, 12, 13, 5, 14, 15, 16, 17, 18, 19, 20, 21, 22, 23, 24, 25, 26, 27, 28, 29, 30, 31, 32, 33, 34, 35, 36, 37, 38, 39, 40, 41, 42, 43, 44, 45, 46, 47, 48, 49, 50, 51, 52, 53, 54, 55, 56, 57, 58, 59, 60, 61, 62, 63, 64, 65, 66, 67, 68, 69, 70, 71, 72, 73, 74, 75, 76, 77, 78, 79, 80, 81, 82, 83, 84, 85, 86, 87, 88, 89, 90, 91, 92, 93, 94, 95, 96, 97, 98, 99, 100, 101, 102, 103, 104, 105, 106, 107, 108, 109, 110, 111, 112, 113, 114, 115, 116, 117, 118, 119, 120, 121, 122, 123, 124, 125, 126, 127, 128, 129, 130, 131, 132, 133, 134, 135, 136, 137, 138, 139, 140, 141, 142, 143, 144, 145, 146, 147, 148, 149, 150, 151, 152, 153, 154, 155, 156, 157, 158, 159, 160, 161, 162, 163, 164, 165, 166, 167, 168] (by decide +kernel) (by decide +kernel)) (goodIn_sub (fun _ h => List.mem_cons_of_mem _ (List.mem_append_right _ h)) (by decide +kernel))
set_option maxRecDepth 20000 in
theorem gL_gutterLoss_X5_gutterLoss : GoodIn wsL_gutterLoss (wsV RL 68 RX5 yX5_gutterLoss wsX5_gutterLoss) := goodIn_app (goodIn_of _ (by decide +kernel)) ggL_gutterLoss_X5_gutterLoss
theorem dL_gutterLoss_0 : decode cL_gutterLoss 0 = .ok (.aload_n 2, 1) := by decide +kernel
theorem dL_gutterLoss_1 : decode cL_gutterLoss 1 = .ok (.iconst 0, 1) := by decide +kernel
theorem dL_gutterLoss_2 : decode cL_gutterLoss 2 = .ok (.aload_n 0, 1) := by decide +kernel
theorem dL_gutterLoss_3 : decode cL_gutterLoss 3 = .ok (.iload_n 1, 1) := by decide +kernel
theorem dL_gutterLoss_4 : decode cL_gutterLoss 4 = .ok (.invokevirtual 68, 3) := by decide +kernel
theorem dL_gutterLoss_7 : decode cL_gutterLoss 7 = .ok (.lastore, 1) := by decide +kernel
theorem dL_gutterLoss_8 : decode cL_gutterLoss 8 = .ok (.goto 6, 3) := by decide +kernel
theorem dL_gutterLoss_11 : decode cL_gutterLoss 11 = .ok (.astore_n 3, 1) := by decide +kernel
theorem dL_gutterLoss_12 : decode cL_gutterLoss 12 = .ok (.iconst 1, 1) := by decide +kernel
theorem dL_gutterLoss_13 : decode cL_gutterLoss 13 = .ok (.ireturn, 1) := by decide +kernel
theorem dL_gutterLoss_14 : decode cL_gutterLoss 14 = .ok (.iconst 0, 1) := by decide +kernel
theorem dL_gutterLoss_15 : decode cL_gutterLoss 15 = .ok (.ireturn, 1) := by decide +kernel
set_option maxRecDepth 20000 in
theorem ggL_append_X5_append : GoodIn wsL_append wsX5_append := goodIn_ca (goodIn_ca (goodIn_r _ [7, 8, 9, 10, 11, 12, 13, 14, 6, 15, 16, 17, 18, 19, 20, 21, 22, 23, 24, 25, 26, 27, 28] (by decide +kernel) (by decide +kernel)) (goodIn_sub (fun _ h => List.mem_cons_of_mem _ (List.mem_append_left _ (List.mem_append_right _ h))) (by decide +kernel))) (goodIn_sub (fun _ h => List.mem_cons_of_mem _ (List.mem_append_right _ h)) (by decide +kernel))
set_option maxRecDepth 20000 in
theorem gL_append_X5_append : GoodIn wsL_append (wsV RL 71 RX5 yX5_append wsX5_append) := goodIn_app (goodIn_of _ (by decide +kernel)) ggL_append_X5_append
theorem dL_append_0 : decode cL_append 0 = .ok (.aload_n 2, 1) := by decide +kernel
theorem dL_append_1 : decode cL_append 1 = .ok (.iconst 0, 1) := by decide +kernel
theorem dL_append_2 : decode cL_append 2 = .ok (.aload_n 0, 1) := by decide +kernel
theorem dL_append_3 : decode cL_append 3 = .ok (.iload_n 1, 1) := by decide +kernel
theorem dL_append_4 : decode cL_append 4 = .ok (.invokevirtual 71, 3) := by decide +kernel
theorem dL_append_7 : decode cL_append 7 = .ok (.i2l, 1) := by decide +kernel
theorem dL_append_8 : decode cL_append 8 = .ok (.lastore, 1) := by decide +kernel
theorem dL_append_9 : decode cL_append 9 = .ok (.goto 9, 3) := by decide +kernel
theorem dL_append_12 : decode cL_append 12 = .ok (.astore_n 3, 1) := by decide +kernel
theorem dL_append_13 : decode cL_append 13 = .ok (.iconst 1, 1) := by decide +kernel
theorem dL_append_14 : decode cL_append 14 = .ok (.ireturn, 1) := by decide +kernel
theorem dL_append_15 : decode cL_append 15 = .ok (.astore_n 3, 1) := by decide +kernel
theorem dL_append_16 : decode cL_append 16 = .ok (.iconst 2, 1) := by decide +kernel
theorem dL_append_17 : decode cL_append 17 = .ok (.ireturn, 1) := by decide +kernel
theorem dL_append_18 : decode cL_append 18 = .ok (.iconst 0, 1) := by decide +kernel
theorem dL_append_19 : decode cL_append 19 = .ok (.ireturn, 1) := by decide +kernel
set_option maxRecDepth 20000 in
theorem ggL_undo_X5_undo : GoodIn wsL_undo wsX5_undo := goodIn_ca (goodIn_r _ [6, 7, 8, 9, 10, 11, 12, 13, 14, 15, 16, 17, 18, 19, 20, 21, 22, 23, 24, 25, 26, 27, 28, 29, 30, 31, 32, 33, 34, 35, 36, 37, 38, 39, 40, 41, 42, 43, 44, 45, 46, 47, 48, 49, 50, 51, 52, 53, 54, 55, 56, 57, 58, 59, 60, 61, 62, 63, 64, 65, 66, 67, 68, 69, 70, 71, 72, 73, 74, 75, 76, 77, 78, 79, 80, 81, 82, 83, 84, 85, 86, 87, 88, 89, 90, 91, 92, 93, 94, 95, 96, 97, 98, 99, 100, 101, 102, 103, 104, 105, 106, 107, 108, 109, 110, 111, 112, 113] (by decide +kernel) (by decide +kernel)) (goodIn_sub (fun _ h => List.mem_cons_of_mem _ (List.mem_append_right _ h)) (by decide +kernel))
set_option maxRecDepth 20000 in
theorem gL_undo_X5_undo : GoodIn wsL_undo (wsV RL 74 RX5 yX5_undo wsX5_undo) := goodIn_app (goodIn_of _ (by decide +kernel)) ggL_undo_X5_undo
theorem dL_undo_0 : decode cL_undo 0 = .ok (.aload_n 1, 1) := by decide +kernel
theorem dL_undo_1 : decode cL_undo 1 = .ok (.iconst 0, 1) := by decide +kernel
theorem dL_undo_2 : decode cL_undo 2 = .ok (.aload_n 0, 1) := by decide +kernel
theorem dL_undo_3 : decode cL_undo 3 = .ok (.invokevirtual 74, 3) := by decide +kernel
theorem dL_undo_6 : decode cL_undo 6 = .ok (.i2l, 1) := by decide +kernel
theorem dL_undo_7 : decode cL_undo 7 = .ok (.lastore, 1) := by decide +kernel
theorem dL_undo_8 : decode cL_undo 8 = .ok (.goto 6, 3) := by decide +kernel
theorem dL_undo_11 : decode cL_undo 11 = .ok (.astore_n 2, 1) := by decide +kernel
theorem dL_undo_12 : decode cL_undo 12 = .ok (.iconst 1, 1) := by decide +kernel
theorem dL_undo_13 : decode cL_undo 13 = .ok (.ireturn, 1) := by decide +kernel
theorem dL_undo_14 : decode cL_undo 14 = .ok (.iconst 0, 1) := by decide +kernel
theorem dL_undo_15 : decode cL_undo 15 = .ok (.ireturn, 1) := by decide +kernel
