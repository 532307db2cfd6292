set_option maxRecDepth 20000 in
theorem ggX5_init_X2_init : GoodIn wsX5_init wsX2_init := goodIn_r _ [16, 17, 2, 3, 18, 19, 20, 21, 22, 23, 24, 25, 26, 27, 28, 29, 30, 31, 32, 33, 34, 35, 36, 37, 38, 39, 40, 41, 42, 43, 44, 45, 53, 54, 55, 56, 57, 58, 59, 60, 61, 62, 63, 64, 65, 66, 67, 68, 80, 81, 82, 83, 84, 85, 86, 87, 88, 89, 90, 91, 92] (by decide +kernel) (by decide +kernel)
set_option maxRecDepth 20000 in
theorem gX5_init_X2_init : GoodIn wsX5_init (wsX2_init) := ggX5_init_X2_init
set_option maxRecDepth 20000 in
theorem ggX5_init_X0_init : GoodIn wsX5_init wsX0_init := goodIn_r _ [48, 49, 2, 3, 50, 51, 28, 52, 74, 75, 76, 77, 78, 79] (by decide +kernel) (by decide +kernel)
set_option maxRecDepth 20000 in
theorem gX5_init_X0_init : GoodIn wsX5_init (wsX0_init) := ggX5_init_X0_init
theorem dX5_init_0 : decode cX5_init 0 = .ok (.aload_n 0, 1) := by decide +kernel
theorem dX5_init_1 : decode cX5_init 1 = .ok (.invokespecial 1, 3) := by decide +kernel
theorem dX5_init_4 : decode cX5_init 4 = .ok (.aload_n 0, 1) := by decide +kernel
theorem dX5_init_5 : decode cX5_init 5 = .ok (.new 7, 3) := by decide +kernel
theorem dX5_init_8 : decode cX5_init 8 = .ok (.dup, 1) := by decide +kernel
theorem dX5_init_9 : decode cX5_init 9 = .ok (.invokespecial 9, 3) := by decide +kernel
theorem dX5_init_12 : decode cX5_init 12 = .ok (.putfield 10, 3) := by decide +kernel
theorem dX5_init_15 : decode cX5_init 15 = .ok (.aload_n 0, 1) := by decide +kernel
theorem dX5_init_16 : decode cX5_init 16 = .ok (.new 7, 3) := by decide +kernel
theorem dX5_init_19 : decode cX5_init 19 = .ok (.dup, 1) := by decide +kernel
theorem dX5_init_20 : decode cX5_init 20 = .ok (.invokespecial 9, 3) := by decide +kernel
theorem dX5_init_23 : decode cX5_init 23 = .ok (.putfield 16, 3) := by decide +kernel
theorem dX5_init_26 : decode cX5_init 26 = .ok (.aload_n 0, 1) := by decide +kernel
theorem dX5_init_27 : decode cX5_init 27 = .ok (.iconst 4, 1) := by decide +kernel
theorem dX5_init_28 : decode cX5_init 28 = .ok (.anewarray 7, 3) := by decide +kernel
theorem dX5_init_31 : decode cX5_init 31 = .ok (.putfield 19, 3) := by decide +kernel
theorem dX5_init_34 : decode cX5_init 34 = .ok (.iconst 0, 1) := by decide +kernel
theorem dX5_init_35 : decode cX5_init 35 = .ok (.istore_n 1, 1) := by decide +kernel
theorem dX5_init_36 : decode cX5_init 36 = .ok (.iload_n 1, 1) := by decide +kernel
theorem dX5_init_37 : decode cX5_init 37 = .ok (.aload_n 0, 1) := by decide +kernel
theorem dX5_init_38 : decode cX5_init 38 = .ok (.getfield 19, 3) := by decide +kernel
theorem dX5_init_41 : decode cX5_init 41 = .ok (.arraylength, 1) := by decide +kernel
theorem dX5_init_42 : decode cX5_init 42 = .ok (.if_icmp .ge 22, 3) := by decide +kernel
theorem dX5_init_45 : decode cX5_init 45 = .ok (.aload_n 0, 1) := by decide +kernel
theorem dX5_init_46 : decode cX5_init 46 = .ok (.getfield 19, 3) := by decide +kernel
theorem dX5_init_49 : decode cX5_init 49 = .ok (.iload_n 1, 1) := by decide +kernel
theorem dX5_init_50 : decode cX5_init 50 = .ok (.new 7, 3) := by decide +kernel
theorem dX5_init_53 : decode cX5_init 53 = .ok (.dup, 1) := by decide +kernel
theorem dX5_init_54 : decode cX5_init 54 = .ok (.invokespecial 9, 3) := by decide +kernel
theorem dX5_init_57 : decode cX5_init 57 = .ok (.aastore, 1) := by decide +kernel
theorem dX5_init_58 : decode cX5_init 58 = .ok (.iinc 1 1, 3) := by decide +kernel
theorem dX5_init_61 : decode cX5_init 61 = .ok (.goto (-25), 3) := by decide +kernel
theorem dX5_init_64 : decode cX5_init 64 = .ok (.aload_n 0, 1) := by decide +kernel
theorem dX5_init_65 : decode cX5_init 65 = .ok (.new 23, 3) := by decide +kernel
theorem dX5_init_68 : decode cX5_init 68 = .ok (.dup, 1) := by decide +kernel
theorem dX5_init_69 : decode cX5_init 69 = .ok (.invokespecial 25, 3) := by decide +kernel
theorem dX5_init_72 : decode cX5_init 72 = .ok (.putfield 26, 3) := by decide +kernel
theorem dX5_init_75 : decode cX5_init 75 = .ok (.return_, 1) := by decide +kernel
set_option maxRecDepth 20000 in
theorem ggX5_addRoof_X5_checkRange : GoodIn wsX5_addRoof wsX5_checkRange := goodIn_ca (goodIn_r _ [10, 11, 12] (by decide +kernel) (by decide +kernel)) (goodIn_sub (fun _ h => List.mem_cons_of_mem _ (List.mem_append_right _ h)) (by decide +kernel))
set_option maxRecDepth 20000 in
theorem gX5_addRoof_X5_checkRange : GoodIn wsX5_addRoof (va_wsS RX5 30 yX5_checkRange wsX5_checkRange) := goodIn_app (goodIn_of _ (by decide +kernel)) ggX5_addRoof_X5_checkRange
set_option maxRecDepth 20000 in
theorem ggX5_addRoof_X5_save : GoodIn wsX5_addRoof wsX5_save := goodIn_r _ [16, 17, 18, 4, 19, 20, 21, 22, 23, 24, 25, 26, 27, 28, 29, 30, 31, 32, 33, 34, 35, 36, 37, 38, 39, 40, 41, 42, 43, 44, 45, 46, 47, 48, 49, 50, 51, 52, 53, 54, 55, 56, 57, 58, 59, 60, 61, 62, 63, 64, 65, 66, 67, 68, 69, 70, 71, 72, 73, 74, 75, 76, 77, 78, 79, 80, 81, 82, 83, 84, 85, 86, 88, 89, 90, 91, 92, 93, 94, 95, 96, 97, 98, 99, 100, 101, 102, 103, 104, 105, 106, 107, 108, 109, 110, 111, 112, 113, 114, 115, 116, 117, 118, 119, 120, 121] (by decide +kernel) (by decide +kernel)
set_option maxRecDepth 20000 in
theorem gX5_addRoof_X5_save : GoodIn wsX5_addRoof (wsV RX5 46 RX5 yX5_save wsX5_save) := goodIn_app (goodIn_of _ (by decide +kernel)) ggX5_addRoof_X5_save
set_option maxRecDepth 20000 in
theorem ggX5_addRoof_X1_set : GoodIn wsX5_addRoof wsX1_set := goodIn_r _ [58, 49, 50, 51, 52, 59, 60, 61, 47, 62, 53, 54, 109, 110, 111, 112, 113, 114] (by decide +kernel) (by decide +kernel)
set_option maxRecDepth 20000 in
theorem gX5_addRoof_X1_set : GoodIn wsX5_addRoof (wsV RX5 53 RX1 yX1_set wsX1_set) := goodIn_app (goodIn_of _ (by decide +kernel)) ggX5_addRoof_X1_set
theorem dX5_addRoof_0 : decode cX5_addRoof 0 = .ok (.iload_n 1, 1) := by decide +kernel
theorem dX5_addRoof_1 : decode cX5_addRoof 1 = .ok (.iconst 1, 1) := by decide +kernel
theorem dX5_addRoof_2 : decode cX5_addRoof 2 = .ok (.sipush 500, 3) := by decide +kernel
theorem dX5_addRoof_5 : decode cX5_addRoof 5 = .ok (.invokestatic 30, 3) := by decide +kernel
theorem dX5_addRoof_8 : decode cX5_addRoof 8 = .ok (.iload_n 2, 1) := by decide +kernel
theorem dX5_addRoof_9 : decode cX5_addRoof 9 = .ok (.iconst 1, 1) := by decide +kernel
theorem dX5_addRoof_10 : decode cX5_addRoof 10 = .ok (.bipush 100, 2) := by decide +kernel
theorem dX5_addRoof_12 : decode cX5_addRoof 12 = .ok (.invokestatic 30, 3) := by decide +kernel
theorem dX5_addRoof_15 : decode cX5_addRoof 15 = .ok (.iload_n 3, 1) := by decide +kernel
theorem dX5_addRoof_16 : decode cX5_addRoof 16 = .ok (.iconst 0, 1) := by decide +kernel
theorem dX5_addRoof_17 : decode cX5_addRoof 17 = .ok (.sipush 999, 3) := by decide +kernel
theorem dX5_addRoof_20 : decode cX5_addRoof 20 = .ok (.invokestatic 30, 3) := by decide +kernel
theorem dX5_addRoof_23 : decode cX5_addRoof 23 = .ok (.iload 4, 2) := by decide +kernel
theorem dX5_addRoof_25 : decode cX5_addRoof 25 = .ok (.iconst 1, 1) := by decide +kernel
theorem dX5_addRoof_26 : decode cX5_addRoof 26 = .ok (.ldc 34, 2) := by decide +kernel
theorem dX5_addRoof_28 : decode cX5_addRoof 28 = .ok (.invokestatic 30, 3) := by decide +kernel
theorem dX5_addRoof_31 : decode cX5_addRoof 31 = .ok (.aload_n 0, 1) := by decide +kernel
theorem dX5_addRoof_32 : decode cX5_addRoof 32 = .ok (.getfield 10, 3) := by decide +kernel
theorem dX5_addRoof_35 : decode cX5_addRoof 35 = .ok (.getfield 35, 3) := by decide +kernel
theorem dX5_addRoof_38 : decode cX5_addRoof 38 = .ok (.bipush 6, 2) := by decide +kernel
theorem dX5_addRoof_40 : decode cX5_addRoof 40 = .ok (.if_icmp .lt 13, 3) := by decide +kernel
theorem dX5_addRoof_43 : decode cX5_addRoof 43 = .ok (.new 39, 3) := by decide +kernel
theorem dX5_addRoof_46 : decode cX5_addRoof 46 = .ok (.dup, 1) := by decide +kernel
theorem dX5_addRoof_47 : decode cX5_addRoof 47 = .ok (.ldc 41, 2) := by decide +kernel
theorem dX5_addRoof_49 : decode cX5_addRoof 49 = .ok (.invokespecial 43, 3) := by decide +kernel
theorem dX5_addRoof_52 : decode cX5_addRoof 52 = .ok (.athrow, 1) := by decide +kernel
theorem dX5_addRoof_53 : decode cX5_addRoof 53 = .ok (.aload_n 0, 1) := by decide +kernel
theorem dX5_addRoof_54 : decode cX5_addRoof 54 = .ok (.invokevirtual 46, 3) := by decide +kernel
theorem dX5_addRoof_57 : decode cX5_addRoof 57 = .ok (.aload_n 0, 1) := by decide +kernel
theorem dX5_addRoof_58 : decode cX5_addRoof 58 = .ok (.getfield 10, 3) := by decide +kernel
theorem dX5_addRoof_61 : decode cX5_addRoof 61 = .ok (.getfield 49, 3) := by decide +kernel
theorem dX5_addRoof_64 : decode cX5_addRoof 64 = .ok (.aload_n 0, 1) := by decide +kernel
theorem dX5_addRoof_65 : decode cX5_addRoof 65 = .ok (.getfield 10, 3) := by decide +kernel
theorem dX5_addRoof_68 : decode cX5_addRoof 68 = .ok (.getfield 35, 3) := by decide +kernel
theorem dX5_addRoof_71 : decode cX5_addRoof 71 = .ok (.aaload, 1) := by decide +kernel
theorem dX5_addRoof_72 : decode cX5_addRoof 72 = .ok (.iload_n 1, 1) := by decide +kernel
theorem dX5_addRoof_73 : decode cX5_addRoof 73 = .ok (.iload_n 2, 1) := by decide +kernel
theorem dX5_addRoof_74 : decode cX5_addRoof 74 = .ok (.iload_n 3, 1) := by decide +kernel
theorem dX5_addRoof_75 : decode cX5_addRoof 75 = .ok (.iload 4, 2) := by decide +kernel
theorem dX5_addRoof_77 : decode cX5_addRoof 77 = .ok (.invokevirtual 53, 3) := by decide +kernel
theorem dX5_addRoof_80 : decode cX5_addRoof 80 = .ok (.aload_n 0, 1) := by decide +kernel
theorem dX5_addRoof_81 : decode cX5_addRoof 81 = .ok (.getfield 10, 3) := by decide +kernel
theorem dX5_addRoof_84 : decode cX5_addRoof 84 = .ok (.dup, 1) := by decide +kernel
theorem dX5_addRoof_85 : decode cX5_addRoof 85 = .ok (.getfield 35, 3) := by decide +kernel
theorem dX5_addRoof_88 : decode cX5_addRoof 88 = .ok (.iconst 1, 1) := by decide +kernel
theorem dX5_addRoof_89 : decode cX5_addRoof 89 = .ok (.iadd, 1) := by decide +kernel
theorem dX5_addRoof_90 : decode cX5_addRoof 90 = .ok (.putfield 35, 3) := by decide +kernel
theorem dX5_addRoof_93 : decode cX5_addRoof 93 = .ok (.aload_n 0, 1) := by decide +kernel
theorem dX5_addRoof_94 : decode cX5_addRoof 94 = .ok (.getfield 10, 3) := by decide +kernel
theorem dX5_addRoof_97 : decode cX5_addRoof 97 = .ok (.getfield 35, 3) := by decide +kernel
theorem dX5_addRoof_100 : decode cX5_addRoof 100 = .ok (.iconst 1, 1) := by decide +kernel
theorem dX5_addRoof_101 : decode cX5_addRoof 101 = .ok (.isub, 1) := by decide +kernel
theorem dX5_addRoof_102 : decode cX5_addRoof 102 = .ok (.ireturn, 1) := by decide +kernel
set_option maxRecDepth 20000 in
theorem ggX5_addUser_X5_checkRange : GoodIn wsX5_addUser wsX5_checkRange := goodIn_ca (goodIn_r _ [10, 11, 12] (by decide +kernel) (by decide +kernel)) (goodIn_sub (fun _ h => List.mem_cons_of_mem _ (List.mem_append_right _ h)) (by decide +kernel))
set_option maxRecDepth 20000 in
theorem gX5_addUser_X5_checkRange : GoodIn wsX5_addUser (va_wsS RX5 30 yX5_checkRange wsX5_checkRange) := goodIn_app (goodIn_of _ (by decide +kernel)) ggX5_addUser_X5_checkRange
set_option maxRecDepth 20000 in
theorem ggX5_addUser_X5_save : GoodIn wsX5_addUser wsX5_save := goodIn_r _ [16, 17, 18, 3, 19, 20, 21, 22, 23, 24, 25, 26, 27, 28, 29, 30, 31, 32, 33, 34, 35, 36, 37, 38, 39, 40, 41, 42, 43, 44, 45, 46, 47, 48, 49, 50, 51, 52, 53, 54, 55, 56, 57, 58, 59, 60, 61, 62, 63, 64, 65, 66, 67, 68, 69, 70, 71, 72, 73, 74, 75, 76, 77, 78, 79, 80, 81, 82, 83, 84, 85, 86, 88, 89, 90, 91, 92, 93, 94, 95, 96, 97, 98, 99, 100, 101, 102, 103, 104, 105, 106, 107, 108, 112, 113, 114, 115, 116, 117, 109, 110, 111, 118, 119, 120, 121] (by decide +kernel) (by decide +kernel)
set_option maxRecDepth 20000 in
theorem gX5_addUser_X5_save : GoodIn wsX5_addUser (wsV RX5 46 RX5 yX5_save wsX5_save) := goodIn_app (goodIn_of _ (by decide +kernel)) ggX5_addUser_X5_save
set_option maxRecDepth 20000 in
theorem ggX5_addUser_X3_set : GoodIn wsX5_addUser wsX3_set := goodIn_r _ [82, 75, 76, 83, 84, 85, 73, 86, 77, 78, 118, 119, 120, 121] (by decide +kernel) (by decide +kernel)
set_option maxRecDepth 20000 in
theorem gX5_addUser_X3_set : GoodIn wsX5_addUser (wsV RX5 74 RX3 yX3_set wsX3_set) := goodIn_app (goodIn_of _ (by decide +kernel)) ggX5_addUser_X3_set
theorem dX5_addUser_0 : decode cX5_addUser 0 = .ok (.iload_n 1, 1) := by decide +kernel
theorem dX5_addUser_1 : decode cX5_addUser 1 = .ok (.iconst 0, 1) := by decide +kernel
theorem dX5_addUser_2 : decode cX5_addUser 2 = .ok (.sipush 9999, 3) := by decide +kernel
theorem dX5_addUser_5 : decode cX5_addUser 5 = .ok (.invokestatic 30, 3) := by decide +kernel
theorem dX5_addUser_8 : decode cX5_addUser 8 = .ok (.iload_n 2, 1) := by decide +kernel
theorem dX5_addUser_9 : decode cX5_addUser 9 = .ok (.iconst 1, 1) := by decide +kernel
theorem dX5_addUser_10 : decode cX5_addUser 10 = .ok (.bipush 9, 2) := by decide +kernel
theorem dX5_addUser_12 : decode cX5_addUser 12 = .ok (.invokestatic 30, 3) := by decide +kernel
theorem dX5_addUser_15 : decode cX5_addUser 15 = .ok (.aload_n 0, 1) := by decide +kernel
theorem dX5_addUser_16 : decode cX5_addUser 16 = .ok (.getfield 10, 3) := by decide +kernel
theorem dX5_addUser_19 : decode cX5_addUser 19 = .ok (.getfield 59, 3) := by decide +kernel
theorem dX5_addUser_22 : decode cX5_addUser 22 = .ok (.getfield 63, 3) := by decide +kernel
theorem dX5_addUser_25 : decode cX5_addUser 25 = .ok (.iconst 5, 1) := by decide +kernel
theorem dX5_addUser_26 : decode cX5_addUser 26 = .ok (.if_icmp .lt 13, 3) := by decide +kernel
theorem dX5_addUser_29 : decode cX5_addUser 29 = .ok (.new 39, 3) := by decide +kernel
theorem dX5_addUser_32 : decode cX5_addUser 32 = .ok (.dup, 1) := by decide +kernel
theorem dX5_addUser_33 : decode cX5_addUser 33 = .ok (.ldc 68, 2) := by decide +kernel
theorem dX5_addUser_35 : decode cX5_addUser 35 = .ok (.invokespecial 43, 3) := by decide +kernel
theorem dX5_addUser_38 : decode cX5_addUser 38 = .ok (.athrow, 1) := by decide +kernel
theorem dX5_addUser_39 : decode cX5_addUser 39 = .ok (.aload_n 0, 1) := by decide +kernel
theorem dX5_addUser_40 : decode cX5_addUser 40 = .ok (.invokevirtual 46, 3) := by decide +kernel
theorem dX5_addUser_43 : decode cX5_addUser 43 = .ok (.aload_n 0, 1) := by decide +kernel
theorem dX5_addUser_44 : decode cX5_addUser 44 = .ok (.getfield 10, 3) := by decide +kernel
theorem dX5_addUser_47 : decode cX5_addUser 47 = .ok (.getfield 59, 3) := by decide +kernel
theorem dX5_addUser_50 : decode cX5_addUser 50 = .ok (.getfield 70, 3) := by decide +kernel
theorem dX5_addUser_53 : decode cX5_addUser 53 = .ok (.aload_n 0, 1) := by decide +kernel
theorem dX5_addUser_54 : decode cX5_addUser 54 = .ok (.getfield 10, 3) := by decide +kernel
theorem dX5_addUser_57 : decode cX5_addUser 57 = .ok (.getfield 59, 3) := by decide +kernel
theorem dX5_addUser_60 : decode cX5_addUser 60 = .ok (.getfield 63, 3) := by decide +kernel
theorem dX5_addUser_63 : decode cX5_addUser 63 = .ok (.aaload, 1) := by decide +kernel
theorem dX5_addUser_64 : decode cX5_addUser 64 = .ok (.iload_n 1, 1) := by decide +kernel
theorem dX5_addUser_65 : decode cX5_addUser 65 = .ok (.iload_n 2, 1) := by decide +kernel
theorem dX5_addUser_66 : decode cX5_addUser 66 = .ok (.invokevirtual 74, 3) := by decide +kernel
theorem dX5_addUser_69 : decode cX5_addUser 69 = .ok (.aload_n 0, 1) := by decide +kernel
theorem dX5_addUser_70 : decode cX5_addUser 70 = .ok (.getfield 10, 3) := by decide +kernel
theorem dX5_addUser_73 : decode cX5_addUser 73 = .ok (.getfield 59, 3) := by decide +kernel
theorem dX5_addUser_76 : decode cX5_addUser 76 = .ok (.dup, 1) := by decide +kernel
theorem dX5_addUser_77 : decode cX5_addUser 77 = .ok (.getfield 63, 3) := by decide +kernel
theorem dX5_addUser_80 : decode cX5_addUser 80 = .ok (.iconst 1, 1) := by decide +kernel
theorem dX5_addUser_81 : decode cX5_addUser 81 = .ok (.iadd, 1) := by decide +kernel
theorem dX5_addUser_82 : decode cX5_addUser 82 = .ok (.putfield 63, 3) := by decide +kernel
theorem dX5_addUser_85 : decode cX5_addUser 85 = .ok (.aload_n 0, 1) := by decide +kernel
theorem dX5_addUser_86 : decode cX5_addUser 86 = .ok (.getfield 10, 3) := by decide +kernel
theorem dX5_addUser_89 : decode cX5_addUser 89 = .ok (.getfield 59, 3) := by decide +kernel
theorem dX5_addUser_92 : decode cX5_addUser 92 = .ok (.getfield 63, 3) := by decide +kernel
theorem dX5_addUser_95 : decode cX5_addUser 95 = .ok (.iconst 1, 1) := by decide +kernel
theorem dX5_addUser_96 : decode cX5_addUser 96 = .ok (.isub, 1) := by decide +kernel
theorem dX5_addUser_97 : decode cX5_addUser 97 = .ok (.ireturn, 1) := by decide +kernel
set_option maxRecDepth 20000 in
theorem ggX5_setReservoir_X5_checkRange : GoodIn wsX5_setReservoir wsX5_checkRange := goodIn_ca (goodIn_r _ [10, 11, 12] (by decide +kernel) (by decide +kernel)) (goodIn_sub (fun _ h => List.mem_cons_of_mem _ (List.mem_append_right _ h)) (by decide +kernel))
set_option maxRecDepth 20000 in
theorem gX5_setReservoir_X5_checkRange : GoodIn wsX5_setReservoir (va_wsS RX5 30 yX5_checkRange wsX5_checkRange) := goodIn_app (goodIn_of _ (by decide +kernel)) ggX5_setReservoir_X5_checkRange
set_option maxRecDepth 20000 in
theorem ggX5_setReservoir_X5_save : GoodIn wsX5_setReservoir wsX5_save := goodIn_r _ [16, 17, 18, 2, 19, 20, 21, 22, 23, 24, 25, 26, 27, 28, 29, 30, 31, 32, 33, 34, 35, 36, 37, 38, 39, 40, 41, 42, 43, 44, 45, 46, 47, 48, 49, 50, 51, 52, 53, 54, 55, 56, 57, 58, 59, 60, 61, 62, 63, 64, 65, 66, 67, 68, 69, 70, 71, 72, 73, 74, 75, 76, 77, 78, 79, 80, 81, 82, 83, 84, 85, 86, 95, 96, 97, 98, 99, 100, 101, 102, 103, 104, 105, 106, 107, 108, 109, 110, 111, 112, 113, 114, 115, 116, 117, 118, 119, 120, 121, 122, 123, 124, 125, 126, 127, 128] (by decide +kernel) (by decide +kernel)
set_option maxRecDepth 20000 in
theorem gX5_setReservoir_X5_save : GoodIn wsX5_setReservoir (wsV RX5 46 RX5 yX5_save wsX5_save) := goodIn_app (goodIn_of _ (by decide +kernel)) ggX5_setReservoir_X5_save
set_option maxRecDepth 20000 in
theorem ggX5_setReservoir_X2_dropAboveCapacity : GoodIn wsX5_setReservoir wsX2_dropAboveCapacity := goodIn_r _ [90, 41, 24, 91, 92, 93, 94, 100, 101, 102, 103, 104, 105, 106, 107, 108, 109, 110, 111, 112, 113, 114, 115] (by decide +kernel) (by decide +kernel)
set_option maxRecDepth 20000 in
theorem gX5_setReservoir_X2_dropAboveCapacity : GoodIn wsX5_setReservoir (wsV RX5 99 RX2 yX2_dropAboveCapacity wsX2_dropAboveCapacity) := goodIn_app (goodIn_of _ (by decide +kernel)) ggX5_setReservoir_X2_dropAboveCapacity
theorem dX5_setReservoir_0 : decode cX5_setReservoir 0 = .ok (.iload_n 1, 1) := by decide +kernel
theorem dX5_setReservoir_1 : decode cX5_setReservoir 1 = .ok (.bipush 100, 2) := by decide +kernel
theorem dX5_setReservoir_3 : decode cX5_setReservoir 3 = .ok (.ldc 85, 2) := by decide +kernel
theorem dX5_setReservoir_5 : decode cX5_setReservoir 5 = .ok (.invokestatic 30, 3) := by decide +kernel
theorem dX5_setReservoir_8 : decode cX5_setReservoir 8 = .ok (.iload_n 2, 1) := by decide +kernel
theorem dX5_setReservoir_9 : decode cX5_setReservoir 9 = .ok (.iconst 0, 1) := by decide +kernel
theorem dX5_setReservoir_10 : decode cX5_setReservoir 10 = .ok (.iload_n 1, 1) := by decide +kernel
theorem dX5_setReservoir_11 : decode cX5_setReservoir 11 = .ok (.invokestatic 30, 3) := by decide +kernel
theorem dX5_setReservoir_14 : decode cX5_setReservoir 14 = .ok (.iload_n 3, 1) := by decide +kernel
theorem dX5_setReservoir_15 : decode cX5_setReservoir 15 = .ok (.iconst 0, 1) := by decide +kernel
theorem dX5_setReservoir_16 : decode cX5_setReservoir 16 = .ok (.iload_n 1, 1) := by decide +kernel
theorem dX5_setReservoir_17 : decode cX5_setReservoir 17 = .ok (.invokestatic 30, 3) := by decide +kernel
theorem dX5_setReservoir_20 : decode cX5_setReservoir 20 = .ok (.aload_n 0, 1) := by decide +kernel
theorem dX5_setReservoir_21 : decode cX5_setReservoir 21 = .ok (.invokevirtual 46, 3) := by decide +kernel
theorem dX5_setReservoir_24 : decode cX5_setReservoir 24 = .ok (.aload_n 0, 1) := by decide +kernel
theorem dX5_setReservoir_25 : decode cX5_setReservoir 25 = .ok (.getfield 10, 3) := by decide +kernel
theorem dX5_setReservoir_28 : decode cX5_setReservoir 28 = .ok (.getfield 86, 3) := by decide +kernel
theorem dX5_setReservoir_31 : decode cX5_setReservoir 31 = .ok (.istore 4, 2) := by decide +kernel
theorem dX5_setReservoir_33 : decode cX5_setReservoir 33 = .ok (.aload_n 0, 1) := by decide +kernel
theorem dX5_setReservoir_34 : decode cX5_setReservoir 34 = .ok (.getfield 10, 3) := by decide +kernel
theorem dX5_setReservoir_37 : decode cX5_setReservoir 37 = .ok (.iload_n 1, 1) := by decide +kernel
theorem dX5_setReservoir_38 : decode cX5_setReservoir 38 = .ok (.putfield 86, 3) := by decide +kernel
theorem dX5_setReservoir_41 : decode cX5_setReservoir 41 = .ok (.aload_n 0, 1) := by decide +kernel
theorem dX5_setReservoir_42 : decode cX5_setReservoir 42 = .ok (.getfield 10, 3) := by decide +kernel
theorem dX5_setReservoir_45 : decode cX5_setReservoir 45 = .ok (.iload_n 2, 1) := by decide +kernel
theorem dX5_setReservoir_46 : decode cX5_setReservoir 46 = .ok (.putfield 89, 3) := by decide +kernel
theorem dX5_setReservoir_49 : decode cX5_setReservoir 49 = .ok (.aload_n 0, 1) := by decide +kernel
theorem dX5_setReservoir_50 : decode cX5_setReservoir 50 = .ok (.getfield 10, 3) := by decide +kernel
theorem dX5_setReservoir_53 : decode cX5_setReservoir 53 = .ok (.iload_n 3, 1) := by decide +kernel
theorem dX5_setReservoir_54 : decode cX5_setReservoir 54 = .ok (.putfield 92, 3) := by decide +kernel
theorem dX5_setReservoir_57 : decode cX5_setReservoir 57 = .ok (.aload_n 0, 1) := by decide +kernel
theorem dX5_setReservoir_58 : decode cX5_setReservoir 58 = .ok (.getfield 10, 3) := by decide +kernel
theorem dX5_setReservoir_61 : decode cX5_setReservoir 61 = .ok (.dup, 1) := by decide +kernel
theorem dX5_setReservoir_62 : decode cX5_setReservoir 62 = .ok (.getfield 95, 3) := by decide +kernel
theorem dX5_setReservoir_65 : decode cX5_setReservoir 65 = .ok (.aload_n 0, 1) := by decide +kernel
theorem dX5_setReservoir_66 : decode cX5_setReservoir 66 = .ok (.getfield 10, 3) := by decide +kernel
theorem dX5_setReservoir_69 : decode cX5_setReservoir 69 = .ok (.invokevirtual 99, 3) := by decide +kernel
theorem dX5_setReservoir_72 : decode cX5_setReservoir 72 = .ok (.i2l, 1) := by decide +kernel
theorem dX5_setReservoir_73 : decode cX5_setReservoir 73 = .ok (.ladd, 1) := by decide +kernel
theorem dX5_setReservoir_74 : decode cX5_setReservoir 74 = .ok (.putfield 95, 3) := by decide +kernel
theorem dX5_setReservoir_77 : decode cX5_setReservoir 77 = .ok (.iload 4, 2) := by decide +kernel
theorem dX5_setReservoir_79 : decode cX5_setReservoir 79 = .ok (.ireturn, 1) := by decide +kernel
set_option maxRecDepth 20000 in
theorem ggX5_setWays_X5_checkRange : GoodIn wsX5_setWays wsX5_checkRange := goodIn_ca (goodIn_r _ [8, 9, 10] (by decide +kernel) (by decide +kernel)) (goodIn_sub (fun _ h => List.mem_cons_of_mem _ (List.mem_append_right _ h)) (by decide +kernel))
set_option maxRecDepth 20000 in
theorem gX5_setWays_X5_checkRange : GoodIn wsX5_setWays (va_wsS RX5 30 yX5_checkRange wsX5_checkRange) := goodIn_app (goodIn_of _ (by decide +kernel)) ggX5_setWays_X5_checkRange
set_option maxRecDepth 20000 in
theorem ggX5_setWays_X5_save : GoodIn wsX5_setWays wsX5_save := goodIn_r _ [14, 15, 16, 1, 17, 18, 19, 20, 21, 22, 23, 24, 25, 26, 27, 28, 29, 30, 31, 32, 33, 34, 35, 36, 37, 38, 39, 40, 41, 42, 43, 44, 45, 46, 47, 48, 49, 50, 51, 52, 53, 54, 55, 56, 57, 58, 59, 60, 61, 62, 63, 64, 65, 66, 67, 68, 69, 70, 71, 72, 73, 74, 75, 76, 77, 78, 79, 80, 81, 82, 83, 84, 85, 86, 87, 88, 89, 90, 91, 92, 93, 94, 95, 96, 97, 98, 99, 100, 101, 102, 103, 104, 105, 106, 107, 108, 109, 110, 111, 112, 113, 114, 115, 116, 117, 118] (by decide +kernel) (by decide +kernel)
set_option maxRecDepth 20000 in
theorem gX5_setWays_X5_save : GoodIn wsX5_setWays (wsV RX5 46 RX5 yX5_save wsX5_save) := goodIn_app (goodIn_of _ (by decide +kernel)) ggX5_setWays_X5_save
theorem dX5_setWays_0 : decode cX5_setWays 0 = .ok (.iload_n 1, 1) := by decide +kernel
theorem dX5_setWays_1 : decode cX5_setWays 1 = .ok (.iconst 0, 1) := by decide +kernel
theorem dX5_setWays_2 : decode cX5_setWays 2 = .ok (.bipush 100, 2) := by decide +kernel
theorem dX5_setWays_4 : decode cX5_setWays 4 = .ok (.invokestatic 30, 3) := by decide +kernel
theorem dX5_setWays_7 : decode cX5_setWays 7 = .ok (.iload_n 2, 1) := by decide +kernel
theorem dX5_setWays_8 : decode cX5_setWays 8 = .ok (.iconst 1, 1) := by decide +kernel
theorem dX5_setWays_9 : decode cX5_setWays 9 = .ok (.bipush 20, 2) := by decide +kernel
theorem dX5_setWays_11 : decode cX5_setWays 11 = .ok (.invokestatic 30, 3) := by decide +kernel
theorem dX5_setWays_14 : decode cX5_setWays 14 = .ok (.iload_n 3, 1) := by decide +kernel
theorem dX5_setWays_15 : decode cX5_setWays 15 = .ok (.iconst 0, 1) := by decide +kernel
theorem dX5_setWays_16 : decode cX5_setWays 16 = .ok (.iconst 3, 1) := by decide +kernel
theorem dX5_setWays_17 : decode cX5_setWays 17 = .ok (.invokestatic 30, 3) := by decide +kernel
theorem dX5_setWays_20 : decode cX5_setWays 20 = .ok (.aload_n 0, 1) := by decide +kernel
theorem dX5_setWays_21 : decode cX5_setWays 21 = .ok (.invokevirtual 46, 3) := by decide +kernel
theorem dX5_setWays_24 : decode cX5_setWays 24 = .ok (.aload_n 0, 1) := by decide +kernel
theorem dX5_setWays_25 : decode cX5_setWays 25 = .ok (.getfield 10, 3) := by decide +kernel
theorem dX5_setWays_28 : decode cX5_setWays 28 = .ok (.getfield 103, 3) := by decide +kernel
theorem dX5_setWays_31 : decode cX5_setWays 31 = .ok (.istore 4, 2) := by decide +kernel
theorem dX5_setWays_33 : decode cX5_setWays 33 = .ok (.aload_n 0, 1) := by decide +kernel
theorem dX5_setWays_34 : decode cX5_setWays 34 = .ok (.getfield 10, 3) := by decide +kernel
theorem dX5_setWays_37 : decode cX5_setWays 37 = .ok (.iload_n 1, 1) := by decide +kernel
theorem dX5_setWays_38 : decode cX5_setWays 38 = .ok (.putfield 106, 3) := by decide +kernel
theorem dX5_setWays_41 : decode cX5_setWays 41 = .ok (.aload_n 0, 1) := by decide +kernel
theorem dX5_setWays_42 : decode cX5_setWays 42 = .ok (.getfield 10, 3) := by decide +kernel
theorem dX5_setWays_45 : decode cX5_setWays 45 = .ok (.iload_n 2, 1) := by decide +kernel
theorem dX5_setWays_46 : decode cX5_setWays 46 = .ok (.putfield 109, 3) := by decide +kernel
theorem dX5_setWays_49 : decode cX5_setWays 49 = .ok (.aload_n 0, 1) := by decide +kernel
theorem dX5_setWays_50 : decode cX5_setWays 50 = .ok (.getfield 10, 3) := by decide +kernel
theorem dX5_setWays_53 : decode cX5_setWays 53 = .ok (.iload_n 3, 1) := by decide +kernel
theorem dX5_setWays_54 : decode cX5_setWays 54 = .ok (.putfield 103, 3) := by decide +kernel
theorem dX5_setWays_57 : decode cX5_setWays 57 = .ok (.iload 4, 2) := by decide +kernel
theorem dX5_setWays_59 : decode cX5_setWays 59 = .ok (.ireturn, 1) := by decide +kernel
set_option maxRecDepth 20000 in
theorem ggX5_setting_X5_checkRange : GoodIn wsX5_setting wsX5_checkRange := goodIn_ca (goodIn_r _ [5, 6, 7] (by decide +kernel) (by decide +kernel)) (goodIn_sub (fun _ h => List.mem_cons_of_mem _ (List.mem_append_right _ h)) (by decide +kernel))
set_option maxRecDepth 20000 in
theorem gX5_setting_X5_checkRange : GoodIn wsX5_setting (va_wsS RX5 30 yX5_checkRange wsX5_checkRange) := goodIn_app (goodIn_of _ (by decide +kernel)) ggX5_setting_X5_checkRange
set_option maxRecDepth 20000 in
theorem ggX5_setting_X2_settingValue : GoodIn wsX5_setting wsX2_settingValue := goodIn_r _ [12, 13, 14, 15, 16, 17, 18, 19, 20, 21, 22, 23, 24, 25, 31, 32, 33, 34, 35, 36, 37, 38, 39, 40, 41, 42, 43, 44, 45, 46, 47, 48, 49] (by decide +kernel) (by decide +kernel)
set_option maxRecDepth 20000 in
theorem gX5_setting_X2_settingValue : GoodIn wsX5_setting (wsV RX5 112 RX2 yX2_settingValue wsX2_settingValue) := goodIn_app (goodIn_of _ (by decide +kernel)) ggX5_setting_X2_settingValue
theorem dX5_setting_0 : decode cX5_setting 0 = .ok (.iload_n 1, 1) := by decide +kernel
theorem dX5_setting_1 : decode cX5_setting 1 = .ok (.iconst 0, 1) := by decide +kernel
theorem dX5_setting_2 : decode cX5_setting 2 = .ok (.bipush 11, 2) := by decide +kernel
theorem dX5_setting_4 : decode cX5_setting 4 = .ok (.invokestatic 30, 3) := by decide +kernel
theorem dX5_setting_7 : decode cX5_setting 7 = .ok (.aload_n 0, 1) := by decide +kernel
theorem dX5_setting_8 : decode cX5_setting 8 = .ok (.getfield 10, 3) := by decide +kernel
theorem dX5_setting_11 : decode cX5_setting 11 = .ok (.iload_n 1, 1) := by decide +kernel
theorem dX5_setting_12 : decode cX5_setting 12 = .ok (.invokevirtual 112, 3) := by decide +kernel
theorem dX5_setting_15 : decode cX5_setting 15 = .ok (.ireturn, 1) := by decide +kernel
set_option maxRecDepth 20000 in
theorem ggX5_roof_X5_checkIndex : GoodIn wsX5_roof wsX5_checkIndex := goodIn_ca (goodIn_r _ [7, 8, 9] (by decide +kernel) (by decide +kernel)) (goodIn_sub (fun _ h => List.mem_cons_of_mem _ (List.mem_append_left _ (List.mem_append_right _ h))) (by decide +kernel))
set_option maxRecDepth 20000 in
theorem gX5_roof_X5_checkIndex : GoodIn wsX5_roof (va_wsS RX5 79 yX5_checkIndex wsX5_checkIndex) := goodIn_app (goodIn_of _ (by decide +kernel)) ggX5_roof_X5_checkIndex
set_option maxRecDepth 20000 in
theorem ggX5_roof_X5_checkRange : GoodIn wsX5_roof wsX5_checkRange := goodIn_ca (goodIn_r _ [12, 13, 14] (by decide +kernel) (by decide +kernel)) (goodIn_sub (fun _ h => List.mem_cons_of_mem _ (List.mem_append_right _ h)) (by decide +kernel))
set_option maxRecDepth 20000 in
theorem gX5_roof_X5_checkRange : GoodIn wsX5_roof (va_wsS RX5 30 yX5_checkRange wsX5_checkRange) := goodIn_app (goodIn_of _ (by decide +kernel)) ggX5_roof_X5_checkRange
set_option maxRecDepth 20000 in
theorem ggX5_roof_X1_value : GoodIn wsX5_roof wsX1_value := goodIn_r _ [19, 20, 21, 22, 23, 24, 46, 47, 48, 49, 50, 51] (by decide +kernel) (by decide +kernel)
set_option maxRecDepth 20000 in
theorem gX5_roof_X1_value : GoodIn wsX5_roof (wsV RX5 116 RX1 yX1_value wsX1_value) := goodIn_app (goodIn_of _ (by decide +kernel)) ggX5_roof_X1_value
theorem dX5_roof_0 : decode cX5_roof 0 = .ok (.iload_n 1, 1) := by decide +kernel
theorem dX5_roof_1 : decode cX5_roof 1 = .ok (.aload_n 0, 1) := by decide +kernel
theorem dX5_roof_2 : decode cX5_roof 2 = .ok (.getfield 10, 3) := by decide +kernel
theorem dX5_roof_5 : decode cX5_roof 5 = .ok (.getfield 35, 3) := by decide +kernel
theorem dX5_roof_8 : decode cX5_roof 8 = .ok (.invokestatic 79, 3) := by decide +kernel
theorem dX5_roof_11 : decode cX5_roof 11 = .ok (.iload_n 2, 1) := by decide +kernel
theorem dX5_roof_12 : decode cX5_roof 12 = .ok (.iconst 0, 1) := by decide +kernel
theorem dX5_roof_13 : decode cX5_roof 13 = .ok (.iconst 4, 1) := by decide +kernel
theorem dX5_roof_14 : decode cX5_roof 14 = .ok (.invokestatic 30, 3) := by decide +kernel
theorem dX5_roof_17 : decode cX5_roof 17 = .ok (.aload_n 0, 1) := by decide +kernel
theorem dX5_roof_18 : decode cX5_roof 18 = .ok (.getfield 10, 3) := by decide +kernel
theorem dX5_roof_21 : decode cX5_roof 21 = .ok (.getfield 49, 3) := by decide +kernel
theorem dX5_roof_24 : decode cX5_roof 24 = .ok (.iload_n 1, 1) := by decide +kernel
theorem dX5_roof_25 : decode cX5_roof 25 = .ok (.aaload, 1) := by decide +kernel
theorem dX5_roof_26 : decode cX5_roof 26 = .ok (.iload_n 2, 1) := by decide +kernel
theorem dX5_roof_27 : decode cX5_roof 27 = .ok (.invokevirtual 116, 3) := by decide +kernel
theorem dX5_roof_30 : decode cX5_roof 30 = .ok (.ireturn, 1) := by decide +kernel
set_option maxRecDepth 20000 in
theorem ggX5_user_X5_checkIndex : GoodIn wsX5_user wsX5_checkIndex := goodIn_ca (goodIn_r _ [8, 9, 10] (by decide +kernel) (by decide +kernel)) (goodIn_sub (fun _ h => List.mem_cons_of_mem _ (List.mem_append_left _ (List.mem_append_right _ h))) (by decide +kernel))
set_option maxRecDepth 20000 in
theorem gX5_user_X5_checkIndex : GoodIn wsX5_user (va_wsS RX5 79 yX5_checkIndex wsX5_checkIndex) := goodIn_app (goodIn_of _ (by decide +kernel)) ggX5_user_X5_checkIndex
set_option maxRecDepth 20000 in
theorem ggX5_user_X5_checkRange : GoodIn wsX5_user wsX5_checkRange := goodIn_ca (goodIn_r _ [13, 14, 15] (by decide +kernel) (by decide +kernel)) (goodIn_sub (fun _ h => List.mem_cons_of_mem _ (List.mem_append_right _ h)) (by decide +kernel))
set_option maxRecDepth 20000 in
theorem gX5_user_X5_checkRange : GoodIn wsX5_user (va_wsS RX5 30 yX5_checkRange wsX5_checkRange) := goodIn_app (goodIn_of _ (by decide +kernel)) ggX5_user_X5_checkRange
set_option maxRecDepth 20000 in
theorem ggX5_user_X3_value : GoodIn wsX5_user wsX3_value := goodIn_r _ [20, 21, 22, 23, 24, 49, 50, 51, 52] (by decide +kernel) (by decide +kernel)
set_option maxRecDepth 20000 in
theorem gX5_user_X3_value : GoodIn wsX5_user (wsV RX5 119 RX3 yX3_value wsX3_value) := goodIn_app (goodIn_of _ (by decide +kernel)) ggX5_user_X3_value
theorem dX5_user_0 : decode cX5_user 0 = .ok (.iload_n 1, 1) := by decide +kernel
theorem dX5_user_1 : decode cX5_user 1 = .ok (.aload_n 0, 1) := by decide +kernel
theorem dX5_user_2 : decode cX5_user 2 = .ok (.getfield 10, 3) := by decide +kernel
theorem dX5_user_5 : decode cX5_user 5 = .ok (.getfield 59, 3) := by decide +kernel
theorem dX5_user_8 : decode cX5_user 8 = .ok (.getfield 63, 3) := by decide +kernel
theorem dX5_user_11 : decode cX5_user 11 = .ok (.invokestatic 79, 3) := by decide +kernel
theorem dX5_user_14 : decode cX5_user 14 = .ok (.iload_n 2, 1) := by decide +kernel
theorem dX5_user_15 : decode cX5_user 15 = .ok (.iconst 0, 1) := by decide +kernel
theorem dX5_user_16 : decode cX5_user 16 = .ok (.iconst 3, 1) := by decide +kernel
theorem dX5_user_17 : decode cX5_user 17 = .ok (.invokestatic 30, 3) := by decide +kernel
theorem dX5_user_20 : decode cX5_user 20 = .ok (.aload_n 0, 1) := by decide +kernel
theorem dX5_user_21 : decode cX5_user 21 = .ok (.getfield 10, 3) := by decide +kernel
theorem dX5_user_24 : decode cX5_user 24 = .ok (.getfield 59, 3) := by decide +kernel
theorem dX5_user_27 : decode cX5_user 27 = .ok (.getfield 70, 3) := by decide +kernel
theorem dX5_user_30 : decode cX5_user 30 = .ok (.iload_n 1, 1) := by decide +kernel
theorem dX5_user_31 : decode cX5_user 31 = .ok (.aaload, 1) := by decide +kernel
theorem dX5_user_32 : decode cX5_user 32 = .ok (.iload_n 2, 1) := by decide +kernel
theorem dX5_user_33 : decode cX5_user 33 = .ok (.invokevirtual 119, 3) := by decide +kernel
theorem dX5_user_36 : decode cX5_user 36 = .ok (.ireturn, 1) := by decide +kernel
set_option maxRecDepth 20000 in
theorem ggX5_addRandomRain_X5_checkRange : GoodIn wsX5_addRandomRain wsX5_checkRange := goodIn_ca (goodIn_r _ [9, 10, 11] (by decide +kernel) (by decide +kernel)) (goodIn_sub (fun _ h => List.mem_cons_of_mem _ (List.mem_append_left _ (List.mem_append_right _ h))) (by decide +kernel))
set_option maxRecDepth 20000 in
theorem gX5_addRandomRain_X5_checkRange : GoodIn wsX5_addRandomRain (va_wsS RX5 30 yX5_checkRange wsX5_checkRange) := goodIn_app (goodIn_of _ (by decide +kernel)) ggX5_addRandomRain_X5_checkRange
set_option maxRecDepth 20000 in
theorem ggX5_addRandomRain_X5_checkRoomForDays : GoodIn wsX5_addRandomRain wsX5_checkRoomForDays := goodIn_ca (goodIn_r _ [15, 16, 17, 4, 5, 102, 103, 104, 105, 106, 107, 108, 109, 110, 111, 112, 113, 114, 115, 116, 117, 118, 119, 120, 121, 122] (by decide +kernel) (by decide +kernel)) (goodIn_sub (fun _ h => List.mem_cons_of_mem _ (List.mem_append_right _ h)) (by decide +kernel))
set_option maxRecDepth 20000 in
theorem gX5_addRandomRain_X5_checkRoomForDays : GoodIn wsX5_addRandomRain (wsV RX5 120 RX5 yX5_checkRoomForDays wsX5_checkRoomForDays) := goodIn_app (goodIn_of _ (by decide +kernel)) ggX5_addRandomRain_X5_checkRoomForDays
set_option maxRecDepth 20000 in
theorem ggX5_addRandomRain_X5_save : GoodIn wsX5_addRandomRain wsX5_save := goodIn_r _ [21, 22, 23, 4, 24, 25, 26, 27, 28, 29, 30, 31, 32, 33, 34, 35, 36, 37, 38, 39, 40, 41, 42, 43, 44, 45, 46, 47, 48, 49, 50, 51, 52, 53, 54, 55, 56, 57, 58, 59, 60, 61, 62, 63, 64, 65, 66, 67, 68, 69, 70, 71, 72, 73, 74, 75, 76, 77, 78, 79, 80, 81, 82, 83, 84, 85, 86, 87, 88, 89, 90, 91, 102, 103, 104, 105, 106, 107, 108, 109, 110, 111, 112, 113, 114, 115, 116, 117, 118, 119, 120, 121, 122, 123, 124, 125, 126, 127, 128, 129, 130, 131, 132, 133, 134, 135] (by decide +kernel) (by decide +kernel)
set_option maxRecDepth 20000 in
theorem gX5_addRandomRain_X5_save : GoodIn wsX5_addRandomRain (wsV RX5 46 RX5 yX5_save wsX5_save) := goodIn_app (goodIn_of _ (by decide +kernel)) ggX5_addRandomRain_X5_save
set_option maxRecDepth 20000 in
theorem ggX5_addRandomRain_X5_nextRandom : GoodIn wsX5_addRandomRain wsX5_nextRandom := goodIn_r _ [94, 95, 96, 97] (by decide +kernel) (by decide +kernel)
set_option maxRecDepth 20000 in
theorem gX5_addRandomRain_X5_nextRandom : GoodIn wsX5_addRandomRain (va_wsS RX5 131 yX5_nextRandom wsX5_nextRandom) := goodIn_app (goodIn_of _ (by decide +kernel)) ggX5_addRandomRain_X5_nextRandom
set_option maxRecDepth 20000 in
theorem ggX5_addRandomRain_X2_putRain : GoodIn wsX5_addRandomRain wsX2_putRain := goodIn_r _ [101, 39, 38, 107, 108, 109, 110, 111, 112, 113, 114, 115, 116, 117, 118, 119, 120, 121, 122] (by decide +kernel) (by decide +kernel)
set_option maxRecDepth 20000 in
theorem gX5_addRandomRain_X2_putRain : GoodIn wsX5_addRandomRain (wsV RX5 124 RX2 yX2_putRain wsX2_putRain) := goodIn_app (goodIn_of _ (by decide +kernel)) ggX5_addRandomRain_X2_putRain
theorem dX5_addRandomRain_0 : decode cX5_addRandomRain 0 = .ok (.iload_n 1, 1) := by decide +kernel
theorem dX5_addRandomRain_1 : decode cX5_addRandomRain 1 = .ok (.iconst 0, 1) := by decide +kernel
theorem dX5_addRandomRain_2 : decode cX5_addRandomRain 2 = .ok (.ldc 130, 2) := by decide +kernel
theorem dX5_addRandomRain_4 : decode cX5_addRandomRain 4 = .ok (.invokestatic 30, 3) := by decide +kernel
theorem dX5_addRandomRain_7 : decode cX5_addRandomRain 7 = .ok (.iload_n 2, 1) := by decide +kernel
theorem dX5_addRandomRain_8 : decode cX5_addRandomRain 8 = .ok (.iconst 1, 1) := by decide +kernel
theorem dX5_addRandomRain_9 : decode cX5_addRandomRain 9 = .ok (.bipush 100, 2) := by decide +kernel
theorem dX5_addRandomRain_11 : decode cX5_addRandomRain 11 = .ok (.invokestatic 30, 3) := by decide +kernel
theorem dX5_addRandomRain_14 : decode cX5_addRandomRain 14 = .ok (.iload_n 3, 1) := by decide +kernel
theorem dX5_addRandomRain_15 : decode cX5_addRandomRain 15 = .ok (.iconst 0, 1) := by decide +kernel
theorem dX5_addRandomRain_16 : decode cX5_addRandomRain 16 = .ok (.bipush 100, 2) := by decide +kernel
theorem dX5_addRandomRain_18 : decode cX5_addRandomRain 18 = .ok (.invokestatic 30, 3) := by decide +kernel
theorem dX5_addRandomRain_21 : decode cX5_addRandomRain 21 = .ok (.iload 4, 2) := by decide +kernel
theorem dX5_addRandomRain_23 : decode cX5_addRandomRain 23 = .ok (.iconst 1, 1) := by decide +kernel
theorem dX5_addRandomRain_24 : decode cX5_addRandomRain 24 = .ok (.sipush 200, 3) := by decide +kernel
theorem dX5_addRandomRain_27 : decode cX5_addRandomRain 27 = .ok (.invokestatic 30, 3) := by decide +kernel
theorem dX5_addRandomRain_30 : decode cX5_addRandomRain 30 = .ok (.aload_n 0, 1) := by decide +kernel
theorem dX5_addRandomRain_31 : decode cX5_addRandomRain 31 = .ok (.iload_n 2, 1) := by decide +kernel
theorem dX5_addRandomRain_32 : decode cX5_addRandomRain 32 = .ok (.invokevirtual 120, 3) := by decide +kernel
theorem dX5_addRandomRain_35 : decode cX5_addRandomRain 35 = .ok (.aload_n 0, 1) := by decide +kernel
theorem dX5_addRandomRain_36 : decode cX5_addRandomRain 36 = .ok (.invokevirtual 46, 3) := by decide +kernel
theorem dX5_addRandomRain_39 : decode cX5_addRandomRain 39 = .ok (.iload_n 1, 1) := by decide +kernel
theorem dX5_addRandomRain_40 : decode cX5_addRandomRain 40 = .ok (.i2l, 1) := by decide +kernel
theorem dX5_addRandomRain_41 : decode cX5_addRandomRain 41 = .ok (.lstore 5, 2) := by decide +kernel
theorem dX5_addRandomRain_43 : decode cX5_addRandomRain 43 = .ok (.iconst 0, 1) := by decide +kernel
theorem dX5_addRandomRain_44 : decode cX5_addRandomRain 44 = .ok (.istore 7, 2) := by decide +kernel
theorem dX5_addRandomRain_46 : decode cX5_addRandomRain 46 = .ok (.iload 7, 2) := by decide +kernel
theorem dX5_addRandomRain_48 : decode cX5_addRandomRain 48 = .ok (.iload_n 2, 1) := by decide +kernel
theorem dX5_addRandomRain_49 : decode cX5_addRandomRain 49 = .ok (.if_icmp .ge 66, 3) := by decide +kernel
theorem dX5_addRandomRain_52 : decode cX5_addRandomRain 52 = .ok (.iconst 0, 1) := by decide +kernel
theorem dX5_addRandomRain_53 : decode cX5_addRandomRain 53 = .ok (.istore 8, 2) := by decide +kernel
theorem dX5_addRandomRain_55 : decode cX5_addRandomRain 55 = .ok (.lload 5, 2) := by decide +kernel
theorem dX5_addRandomRain_57 : decode cX5_addRandomRain 57 = .ok (.invokestatic 131, 3) := by decide +kernel
theorem dX5_addRandomRain_60 : decode cX5_addRandomRain 60 = .ok (.lstore 5, 2) := by decide +kernel
theorem dX5_addRandomRain_62 : decode cX5_addRandomRain 62 = .ok (.lload 5, 2) := by decide +kernel
theorem dX5_addRandomRain_64 : decode cX5_addRandomRain 64 = .ok (.ldc2_w 135, 3) := by decide +kernel
theorem dX5_addRandomRain_67 : decode cX5_addRandomRain 67 = .ok (.ldiv, 1) := by decide +kernel
theorem dX5_addRandomRain_68 : decode cX5_addRandomRain 68 = .ok (.ldc2_w 137, 3) := by decide +kernel
theorem dX5_addRandomRain_71 : decode cX5_addRandomRain 71 = .ok (.lrem, 1) := by decide +kernel
theorem dX5_addRandomRain_72 : decode cX5_addRandomRain 72 = .ok (.iload_n 3, 1) := by decide +kernel
theorem dX5_addRandomRain_73 : decode cX5_addRandomRain 73 = .ok (.i2l, 1) := by decide +kernel
theorem dX5_addRandomRain_74 : decode cX5_addRandomRain 74 = .ok (.lcmp, 1) := by decide +kernel
theorem dX5_addRandomRain_75 : decode cX5_addRandomRain 75 = .ok (.ifCond .ge 25, 3) := by decide +kernel
theorem dX5_addRandomRain_78 : decode cX5_addRandomRain 78 = .ok (.lload 5, 2) := by decide +kernel
theorem dX5_addRandomRain_80 : decode cX5_addRandomRain 80 = .ok (.invokestatic 131, 3) := by decide +kernel
theorem dX5_addRandomRain_83 : decode cX5_addRandomRain 83 = .ok (.lstore 5, 2) := by decide +kernel
theorem dX5_addRandomRain_85 : decode cX5_addRandomRain 85 = .ok (.iconst 1, 1) := by decide +kernel
theorem dX5_addRandomRain_86 : decode cX5_addRandomRain 86 = .ok (.lload 5, 2) := by decide +kernel
theorem dX5_addRandomRain_88 : decode cX5_addRandomRain 88 = .ok (.ldc2_w 135, 3) := by decide +kernel
theorem dX5_addRandomRain_91 : decode cX5_addRandomRain 91 = .ok (.ldiv, 1) := by decide +kernel
theorem dX5_addRandomRain_92 : decode cX5_addRandomRain 92 = .ok (.iload 4, 2) := by decide +kernel
theorem dX5_addRandomRain_94 : decode cX5_addRandomRain 94 = .ok (.i2l, 1) := by decide +kernel
theorem dX5_addRandomRain_95 : decode cX5_addRandomRain 95 = .ok (.lrem, 1) := by decide +kernel
theorem dX5_addRandomRain_96 : decode cX5_addRandomRain 96 = .ok (.l2i, 1) := by decide +kernel
theorem dX5_addRandomRain_97 : decode cX5_addRandomRain 97 = .ok (.iadd, 1) := by decide +kernel
theorem dX5_addRandomRain_98 : decode cX5_addRandomRain 98 = .ok (.istore 8, 2) := by decide +kernel
theorem dX5_addRandomRain_100 : decode cX5_addRandomRain 100 = .ok (.aload_n 0, 1) := by decide +kernel
theorem dX5_addRandomRain_101 : decode cX5_addRandomRain 101 = .ok (.getfield 10, 3) := by decide +kernel
theorem dX5_addRandomRain_104 : decode cX5_addRandomRain 104 = .ok (.iload 8, 2) := by decide +kernel
theorem dX5_addRandomRain_106 : decode cX5_addRandomRain 106 = .ok (.invokevirtual 124, 3) := by decide +kernel
theorem dX5_addRandomRain_109 : decode cX5_addRandomRain 109 = .ok (.iinc 7 1, 3) := by decide +kernel
theorem dX5_addRandomRain_112 : decode cX5_addRandomRain 112 = .ok (.goto (-66), 3) := by decide +kernel
theorem dX5_addRandomRain_115 : decode cX5_addRandomRain 115 = .ok (.aload_n 0, 1) := by decide +kernel
theorem dX5_addRandomRain_116 : decode cX5_addRandomRain 116 = .ok (.getfield 10, 3) := by decide +kernel
theorem dX5_addRandomRain_119 : decode cX5_addRandomRain 119 = .ok (.getfield 127, 3) := by decide +kernel
theorem dX5_addRandomRain_122 : decode cX5_addRandomRain 122 = .ok (.ireturn, 1) := by decide +kernel
set_option maxRecDepth 20000 in
theorem ggX5_rain_X5_checkIndex : GoodIn wsX5_rain wsX5_checkIndex := goodIn_ca (goodIn_r _ [7, 8, 9] (by decide +kernel) (by decide +kernel)) (goodIn_sub (fun _ h => List.mem_cons_of_mem _ (List.mem_append_right _ h)) (by decide +kernel))
set_option maxRecDepth 20000 in
theorem gX5_rain_X5_checkIndex : GoodIn wsX5_rain (va_wsS RX5 79 yX5_checkIndex wsX5_checkIndex) := goodIn_app (goodIn_of _ (by decide +kernel)) ggX5_rain_X5_checkIndex
theorem dX5_rain_0 : decode cX5_rain 0 = .ok (.iload_n 1, 1) := by decide +kernel
theorem dX5_rain_1 : decode cX5_rain 1 = .ok (.aload_n 0, 1) := by decide +kernel
theorem dX5_rain_2 : decode cX5_rain 2 = .ok (.getfield 10, 3) := by decide +kernel
theorem dX5_rain_5 : decode cX5_rain 5 = .ok (.getfield 127, 3) := by decide +kernel
theorem dX5_rain_8 : decode cX5_rain 8 = .ok (.invokestatic 79, 3) := by decide +kernel
theorem dX5_rain_11 : decode cX5_rain 11 = .ok (.aload_n 0, 1) := by decide +kernel
theorem dX5_rain_12 : decode cX5_rain 12 = .ok (.getfield 10, 3) := by decide +kernel
theorem dX5_rain_15 : decode cX5_rain 15 = .ok (.getfield 139, 3) := by decide +kernel
theorem dX5_rain_18 : decode cX5_rain 18 = .ok (.iload_n 1, 1) := by decide +kernel
theorem dX5_rain_19 : decode cX5_rain 19 = .ok (.iaload, 1) := by decide +kernel
theorem dX5_rain_20 : decode cX5_rain 20 = .ok (.ireturn, 1) := by decide +kernel
set_option maxRecDepth 20000 in
theorem ggX5_run_X5_checkRange : GoodIn wsX5_run wsX5_checkRange := goodIn_ca (goodIn_r _ [9, 10, 11] (by decide +kernel) (by decide +kernel)) (goodIn_sub (fun _ h => List.mem_cons_of_mem _ (List.mem_append_right _ h)) (by decide +kernel))
set_option maxRecDepth 20000 in
theorem gX5_run_X5_checkRange : GoodIn wsX5_run (va_wsS RX5 30 yX5_checkRange wsX5_checkRange) := goodIn_app (goodIn_of _ (by decide +kernel)) ggX5_run_X5_checkRange
set_option maxRecDepth 20000 in
theorem ggX5_run_X5_save : GoodIn wsX5_run wsX5_save := goodIn_r _ [15, 16, 17, 3, 18, 19, 20, 21, 22, 23, 24, 25, 26, 27, 28, 29, 30, 31, 32, 33, 34, 35, 36, 37, 38, 39, 40, 41, 42, 43, 44, 45, 46, 47, 48, 49, 50, 51, 52, 53, 54, 55, 56, 57, 58, 59, 60, 61, 62, 63, 64, 65, 66, 67, 68, 69, 70, 71, 72, 73, 74, 75, 76, 77, 78, 79, 80, 81, 82, 83, 84, 85, 194, 195, 196, 197, 198, 199, 200, 201, 202, 203, 204, 205, 206, 207, 208, 209, 210, 211, 212, 213, 214, 215, 216, 217, 218, 219, 220, 221, 222, 223, 224, 225, 226, 227] (by decide +kernel) (by decide +kernel)
set_option maxRecDepth 20000 in
theorem gX5_run_X5_save : GoodIn wsX5_run (wsV RX5 46 RX5 yX5_save wsX5_save) := goodIn_app (goodIn_of _ (by decide +kernel)) ggX5_run_X5_save
set_option maxRecDepth 20000 in
theorem ggX5_run_X2_collect : GoodIn wsX5_run wsX2_collect := goodIn_r _ [89, 33, 29, 30, 90, 91, 92, 21, 93, 41, 27, 94, 95, 96, 46, 97, 52, 98, 99, 100, 101, 48, 49, 102, 103, 104, 105, 50, 106, 107, 108, 109, 110, 111, 112, 113, 51, 114, 115, 116, 53, 117, 118, 119, 120, 39, 199, 200, 201, 202, 203, 204, 205, 206, 207, 208, 209, 210, 211, 212, 213, 214, 215, 216, 217, 218, 219, 220] (by decide +kernel) (by decide +kernel)
set_option maxRecDepth 20000 in
theorem gX5_run_X2_collect : GoodIn wsX5_run (wsV RX5 148 RX2 yX2_collect wsX2_collect) := goodIn_app (goodIn_of _ (by decide +kernel)) ggX5_run_X2_collect
set_option maxRecDepth 20000 in
theorem ggX5_run_X2_serve : GoodIn wsX5_run wsX2_serve := goodIn_r _ [124, 40, 26, 31, 24, 125, 115, 108, 116, 28, 25, 126, 127, 128, 21, 129, 39, 130, 131, 132, 133, 23, 117, 118, 119, 120, 134, 135, 136, 65, 137, 67, 68, 138, 139, 140, 141, 142, 143, 144, 145, 146, 147, 148, 149, 150, 151, 152, 153, 154, 155, 156, 72, 157, 158, 107, 109, 76, 159, 160, 161, 162, 74, 163, 164, 165, 166, 167, 168, 169, 170, 171, 172, 173, 174, 175, 176, 177, 178, 179, 180, 181, 182, 183, 184, 75, 185, 186, 187, 188, 189, 199, 200, 201, 202, 203, 204, 205, 206, 207, 208, 209, 210, 211, 212, 213, 214, 221, 222, 223, 224, 225, 226, 227] (by decide +kernel) (by decide +kernel)
set_option maxRecDepth 20000 in
theorem gX5_run_X2_serve : GoodIn wsX5_run (wsV RX5 151 RX2 yX2_serve wsX2_serve) := goodIn_app (goodIn_of _ (by decide +kernel)) ggX5_run_X2_serve
set_option maxRecDepth 20000 in
theorem ggX5_run_X2_isShort : GoodIn wsX5_run wsX2_isShort := goodIn_r _ [193, 126, 127, 128, 21, 129, 39, 199, 200, 201, 202, 203, 204, 205, 206, 207, 208, 209, 210, 211, 212, 213, 214] (by decide +kernel) (by decide +kernel)
set_option maxRecDepth 20000 in
theorem gX5_run_X2_isShort : GoodIn wsX5_run (wsV RX5 154 RX2 yX2_isShort wsX2_isShort) := goodIn_app (goodIn_of _ (by decide +kernel)) ggX5_run_X2_isShort
theorem dX5_run_0 : decode cX5_run 0 = .ok (.iload_n 1, 1) := by decide +kernel
theorem dX5_run_1 : decode cX5_run 1 = .ok (.iconst 0, 1) := by decide +kernel
theorem dX5_run_2 : decode cX5_run 2 = .ok (.bipush 100, 2) := by decide +kernel
theorem dX5_run_4 : decode cX5_run 4 = .ok (.invokestatic 30, 3) := by decide +kernel
theorem dX5_run_7 : decode cX5_run 7 = .ok (.iload_n 1, 1) := by decide +kernel
theorem dX5_run_8 : decode cX5_run 8 = .ok (.aload_n 0, 1) := by decide +kernel
theorem dX5_run_9 : decode cX5_run 9 = .ok (.getfield 10, 3) := by decide +kernel
theorem dX5_run_12 : decode cX5_run 12 = .ok (.getfield 127, 3) := by decide +kernel
theorem dX5_run_15 : decode cX5_run 15 = .ok (.aload_n 0, 1) := by decide +kernel
theorem dX5_run_16 : decode cX5_run 16 = .ok (.getfield 10, 3) := by decide +kernel
theorem dX5_run_19 : decode cX5_run 19 = .ok (.getfield 143, 3) := by decide +kernel
theorem dX5_run_22 : decode cX5_run 22 = .ok (.isub, 1) := by decide +kernel
theorem dX5_run_23 : decode cX5_run 23 = .ok (.if_icmp .le 13, 3) := by decide +kernel
theorem dX5_run_26 : decode cX5_run 26 = .ok (.new 39, 3) := by decide +kernel
theorem dX5_run_29 : decode cX5_run 29 = .ok (.dup, 1) := by decide +kernel
theorem dX5_run_30 : decode cX5_run 30 = .ok (.ldc 146, 2) := by decide +kernel
theorem dX5_run_32 : decode cX5_run 32 = .ok (.invokespecial 43, 3) := by decide +kernel
theorem dX5_run_35 : decode cX5_run 35 = .ok (.athrow, 1) := by decide +kernel
theorem dX5_run_36 : decode cX5_run 36 = .ok (.aload_n 0, 1) := by decide +kernel
theorem dX5_run_37 : decode cX5_run 37 = .ok (.invokevirtual 46, 3) := by decide +kernel
theorem dX5_run_40 : decode cX5_run 40 = .ok (.iconst 0, 1) := by decide +kernel
theorem dX5_run_41 : decode cX5_run 41 = .ok (.istore_n 2, 1) := by decide +kernel
theorem dX5_run_42 : decode cX5_run 42 = .ok (.iconst 0, 1) := by decide +kernel
theorem dX5_run_43 : decode cX5_run 43 = .ok (.istore_n 3, 1) := by decide +kernel
theorem dX5_run_44 : decode cX5_run 44 = .ok (.iload_n 3, 1) := by decide +kernel
theorem dX5_run_45 : decode cX5_run 45 = .ok (.iload_n 1, 1) := by decide +kernel
theorem dX5_run_46 : decode cX5_run 46 = .ok (.if_icmp .ge 64, 3) := by decide +kernel
theorem dX5_run_49 : decode cX5_run 49 = .ok (.aload_n 0, 1) := by decide +kernel
theorem dX5_run_50 : decode cX5_run 50 = .ok (.getfield 10, 3) := by decide +kernel
theorem dX5_run_53 : decode cX5_run 53 = .ok (.getfield 143, 3) := by decide +kernel
theorem dX5_run_56 : decode cX5_run 56 = .ok (.istore 4, 2) := by decide +kernel
theorem dX5_run_58 : decode cX5_run 58 = .ok (.aload_n 0, 1) := by decide +kernel
theorem dX5_run_59 : decode cX5_run 59 = .ok (.getfield 10, 3) := by decide +kernel
theorem dX5_run_62 : decode cX5_run 62 = .ok (.iload 4, 2) := by decide +kernel
theorem dX5_run_64 : decode cX5_run 64 = .ok (.invokevirtual 148, 3) := by decide +kernel
theorem dX5_run_67 : decode cX5_run 67 = .ok (.aload_n 0, 1) := by decide +kernel
theorem dX5_run_68 : decode cX5_run 68 = .ok (.getfield 10, 3) := by decide +kernel
theorem dX5_run_71 : decode cX5_run 71 = .ok (.iload 4, 2) := by decide +kernel
theorem dX5_run_73 : decode cX5_run 73 = .ok (.invokevirtual 151, 3) := by decide +kernel
theorem dX5_run_76 : decode cX5_run 76 = .ok (.aload_n 0, 1) := by decide +kernel
theorem dX5_run_77 : decode cX5_run 77 = .ok (.getfield 10, 3) := by decide +kernel
theorem dX5_run_80 : decode cX5_run 80 = .ok (.dup, 1) := by decide +kernel
theorem dX5_run_81 : decode cX5_run 81 = .ok (.getfield 143, 3) := by decide +kernel
theorem dX5_run_84 : decode cX5_run 84 = .ok (.iconst 1, 1) := by decide +kernel
theorem dX5_run_85 : decode cX5_run 85 = .ok (.iadd, 1) := by decide +kernel
theorem dX5_run_86 : decode cX5_run 86 = .ok (.putfield 143, 3) := by decide +kernel
theorem dX5_run_89 : decode cX5_run 89 = .ok (.aload_n 0, 1) := by decide +kernel
theorem dX5_run_90 : decode cX5_run 90 = .ok (.getfield 10, 3) := by decide +kernel
theorem dX5_run_93 : decode cX5_run 93 = .ok (.iload 4, 2) := by decide +kernel
theorem dX5_run_95 : decode cX5_run 95 = .ok (.invokevirtual 154, 3) := by decide +kernel
theorem dX5_run_98 : decode cX5_run 98 = .ok (.ifCond .eq 6, 3) := by decide +kernel
theorem dX5_run_101 : decode cX5_run 101 = .ok (.iinc 2 1, 3) := by decide +kernel
theorem dX5_run_104 : decode cX5_run 104 = .ok (.iinc 3 1, 3) := by decide +kernel
theorem dX5_run_107 : decode cX5_run 107 = .ok (.goto (-63), 3) := by decide +kernel
theorem dX5_run_110 : decode cX5_run 110 = .ok (.iload_n 2, 1) := by decide +kernel
theorem dX5_run_111 : decode cX5_run 111 = .ok (.ireturn, 1) := by decide +kernel
set_option maxRecDepth 20000 in
theorem ggX5_restart_X5_save : GoodIn wsX5_restart wsX5_save := goodIn_r _ [7, 8, 9, 1, 10, 11, 12, 13, 14, 15, 16, 17, 18, 19, 20, 21, 22, 23, 24, 25, 26, 27, 28, 29, 30, 31, 32, 33, 34, 35, 36, 37, 38, 39, 40, 41, 42, 43, 44, 45, 46, 47, 48, 49, 50, 51, 52, 53, 54, 55, 56, 57, 58, 59, 60, 61, 62, 63, 64, 65, 66, 67, 68, 69, 70, 71, 72, 73, 74, 75, 76, 77, 88, 89, 90, 91, 92, 93, 94, 95, 96, 97, 98, 99, 100, 101, 102, 103, 104, 105, 106, 107, 108, 109, 110, 111, 112, 113, 114, 115, 116, 117, 118, 119, 120, 121] (by decide +kernel) (by decide +kernel)
set_option maxRecDepth 20000 in
theorem gX5_restart_X5_save : GoodIn wsX5_restart (wsV RX5 46 RX5 yX5_save wsX5_save) := goodIn_app (goodIn_of _ (by decide +kernel)) ggX5_restart_X5_save
set_option maxRecDepth 20000 in
theorem ggX5_restart_X2_goBack : GoodIn wsX5_restart wsX2_goBack := goodIn_r _ [81, 30, 32, 33, 34, 21, 22, 23, 82, 51, 52, 38, 53, 44, 45, 83, 84, 85, 57, 86, 59, 60, 87, 75, 76, 64, 77, 68, 69, 93, 94, 95, 96, 97, 98, 99, 100, 101, 102, 103, 104, 105, 106, 107, 108, 109, 110, 111, 112, 113, 114, 115, 116, 117, 118, 119, 120, 121] (by decide +kernel) (by decide +kernel)
set_option maxRecDepth 20000 in
theorem gX5_restart_X2_goBack : GoodIn wsX5_restart (wsV RX5 158 RX2 yX2_goBack wsX2_goBack) := goodIn_app (goodIn_of _ (by decide +kernel)) ggX5_restart_X2_goBack
theorem dX5_restart_0 : decode cX5_restart 0 = .ok (.aload_n 0, 1) := by decide +kernel
theorem dX5_restart_1 : decode cX5_restart 1 = .ok (.invokevirtual 46, 3) := by decide +kernel
theorem dX5_restart_4 : decode cX5_restart 4 = .ok (.aload_n 0, 1) := by decide +kernel
theorem dX5_restart_5 : decode cX5_restart 5 = .ok (.getfield 10, 3) := by decide +kernel
theorem dX5_restart_8 : decode cX5_restart 8 = .ok (.getfield 143, 3) := by decide +kernel
theorem dX5_restart_11 : decode cX5_restart 11 = .ok (.istore_n 1, 1) := by decide +kernel
theorem dX5_restart_12 : decode cX5_restart 12 = .ok (.aload_n 0, 1) := by decide +kernel
theorem dX5_restart_13 : decode cX5_restart 13 = .ok (.getfield 10, 3) := by decide +kernel
theorem dX5_restart_16 : decode cX5_restart 16 = .ok (.invokevirtual 158, 3) := by decide +kernel
theorem dX5_restart_19 : decode cX5_restart 19 = .ok (.iload_n 1, 1) := by decide +kernel
theorem dX5_restart_20 : decode cX5_restart 20 = .ok (.ireturn, 1) := by decide +kernel
set_option maxRecDepth 20000 in
theorem ggX5_day_X5_checkIndex : GoodIn wsX5_day wsX5_checkIndex := goodIn_ca (goodIn_r _ [6, 7, 8] (by decide +kernel) (by decide +kernel)) (goodIn_sub (fun _ h => List.mem_cons_of_mem _ (List.mem_append_left _ (List.mem_append_right _ h))) (by decide +kernel))
set_option maxRecDepth 20000 in
theorem gX5_day_X5_checkIndex : GoodIn wsX5_day (va_wsS RX5 79 yX5_checkIndex wsX5_checkIndex) := goodIn_app (goodIn_of _ (by decide +kernel)) ggX5_day_X5_checkIndex
set_option maxRecDepth 20000 in
theorem ggX5_day_X5_checkRange : GoodIn wsX5_day wsX5_checkRange := goodIn_ca (goodIn_r _ [11, 12, 13] (by decide +kernel) (by decide +kernel)) (goodIn_sub (fun _ h => List.mem_cons_of_mem _ (List.mem_append_right _ h)) (by decide +kernel))
set_option maxRecDepth 20000 in
theorem gX5_day_X5_checkRange : GoodIn wsX5_day (va_wsS RX5 30 yX5_checkRange wsX5_checkRange) := goodIn_app (goodIn_of _ (by decide +kernel)) ggX5_day_X5_checkRange
set_option maxRecDepth 20000 in
theorem ggX5_day_X2_account : GoodIn wsX5_day wsX2_account := goodIn_r _ [18, 19, 25, 26, 27, 28, 29, 30, 31, 32, 33, 34, 35, 36, 37, 38, 39, 40] (by decide +kernel) (by decide +kernel)
set_option maxRecDepth 20000 in
theorem gX5_day_X2_account : GoodIn wsX5_day (wsV RX5 161 RX2 yX2_account wsX2_account) := goodIn_app (goodIn_of _ (by decide +kernel)) ggX5_day_X2_account
theorem dX5_day_0 : decode cX5_day 0 = .ok (.iload_n 1, 1) := by decide +kernel
theorem dX5_day_1 : decode cX5_day 1 = .ok (.aload_n 0, 1) := by decide +kernel
theorem dX5_day_2 : decode cX5_day 2 = .ok (.getfield 10, 3) := by decide +kernel
theorem dX5_day_5 : decode cX5_day 5 = .ok (.getfield 143, 3) := by decide +kernel
theorem dX5_day_8 : decode cX5_day 8 = .ok (.invokestatic 79, 3) := by decide +kernel
theorem dX5_day_11 : decode cX5_day 11 = .ok (.iload_n 2, 1) := by decide +kernel
theorem dX5_day_12 : decode cX5_day 12 = .ok (.iconst 0, 1) := by decide +kernel
theorem dX5_day_13 : decode cX5_day 13 = .ok (.bipush 9, 2) := by decide +kernel
theorem dX5_day_15 : decode cX5_day 15 = .ok (.invokestatic 30, 3) := by decide +kernel
theorem dX5_day_18 : decode cX5_day 18 = .ok (.aload_n 0, 1) := by decide +kernel
theorem dX5_day_19 : decode cX5_day 19 = .ok (.getfield 10, 3) := by decide +kernel
theorem dX5_day_22 : decode cX5_day 22 = .ok (.iload_n 1, 1) := by decide +kernel
theorem dX5_day_23 : decode cX5_day 23 = .ok (.iload_n 2, 1) := by decide +kernel
theorem dX5_day_24 : decode cX5_day 24 = .ok (.invokevirtual 161, 3) := by decide +kernel
theorem dX5_day_27 : decode cX5_day 27 = .ok (.ireturn, 1) := by decide +kernel
set_option maxRecDepth 20000 in
theorem ggX5_sum_X5_checkRange : GoodIn wsX5_sum wsX5_checkRange := goodIn_ca (goodIn_r _ [7, 8, 9] (by decide +kernel) (by decide +kernel)) (goodIn_sub (fun _ h => List.mem_cons_of_mem _ (List.mem_append_right _ h)) (by decide +kernel))
set_option maxRecDepth 20000 in
theorem gX5_sum_X5_checkRange : GoodIn wsX5_sum (va_wsS RX5 30 yX5_checkRange wsX5_checkRange) := goodIn_app (goodIn_of _ (by decide +kernel)) ggX5_sum_X5_checkRange
set_option maxRecDepth 20000 in
theorem ggX5_sum_X2_account : GoodIn wsX5_sum wsX2_account := goodIn_r _ [14, 15, 21, 22, 23, 24, 25, 26, 27, 28, 29, 30, 31, 32, 33, 34, 35, 36] (by decide +kernel) (by decide +kernel)
set_option maxRecDepth 20000 in
theorem gX5_sum_X2_account : GoodIn wsX5_sum (wsV RX5 161 RX2 yX2_account wsX2_account) := goodIn_app (goodIn_of _ (by decide +kernel)) ggX5_sum_X2_account
theorem dX5_sum_0 : decode cX5_sum 0 = .ok (.iload_n 1, 1) := by decide +kernel
theorem dX5_sum_1 : decode cX5_sum 1 = .ok (.iconst 1, 1) := by decide +kernel
theorem dX5_sum_2 : decode cX5_sum 2 = .ok (.bipush 9, 2) := by decide +kernel
theorem dX5_sum_4 : decode cX5_sum 4 = .ok (.invokestatic 30, 3) := by decide +kernel
theorem dX5_sum_7 : decode cX5_sum 7 = .ok (.iload_n 1, 1) := by decide +kernel
theorem dX5_sum_8 : decode cX5_sum 8 = .ok (.iconst 4, 1) := by decide +kernel
theorem dX5_sum_9 : decode cX5_sum 9 = .ok (.if_icmp .ne 13, 3) := by decide +kernel
theorem dX5_sum_12 : decode cX5_sum 12 = .ok (.aload_n 0, 1) := by decide +kernel
theorem dX5_sum_13 : decode cX5_sum 13 = .ok (.getfield 10, 3) := by decide +kernel
theorem dX5_sum_16 : decode cX5_sum 16 = .ok (.getfield 95, 3) := by decide +kernel
theorem dX5_sum_19 : decode cX5_sum 19 = .ok (.goto 4, 3) := by decide +kernel
theorem dX5_sum_22 : decode cX5_sum 22 = .ok (.lconst 0, 1) := by decide +kernel
theorem dX5_sum_23 : decode cX5_sum 23 = .ok (.lstore_n 2, 1) := by decide +kernel
theorem dX5_sum_24 : decode cX5_sum 24 = .ok (.iconst 0, 1) := by decide +kernel
theorem dX5_sum_25 : decode cX5_sum 25 = .ok (.istore 4, 2) := by decide +kernel
theorem dX5_sum_27 : decode cX5_sum 27 = .ok (.iload 4, 2) := by decide +kernel
theorem dX5_sum_29 : decode cX5_sum 29 = .ok (.aload_n 0, 1) := by decide +kernel
theorem dX5_sum_30 : decode cX5_sum 30 = .ok (.getfield 10, 3) := by decide +kernel
theorem dX5_sum_33 : decode cX5_sum 33 = .ok (.getfield 143, 3) := by decide +kernel
theorem dX5_sum_36 : decode cX5_sum 36 = .ok (.if_icmp .ge 23, 3) := by decide +kernel
theorem dX5_sum_39 : decode cX5_sum 39 = .ok (.lload_n 2, 1) := by decide +kernel
theorem dX5_sum_40 : decode cX5_sum 40 = .ok (.aload_n 0, 1) := by decide +kernel
theorem dX5_sum_41 : decode cX5_sum 41 = .ok (.getfield 10, 3) := by decide +kernel
theorem dX5_sum_44 : decode cX5_sum 44 = .ok (.iload 4, 2) := by decide +kernel
theorem dX5_sum_46 : decode cX5_sum 46 = .ok (.iload_n 1, 1) := by decide +kernel
theorem dX5_sum_47 : decode cX5_sum 47 = .ok (.invokevirtual 161, 3) := by decide +kernel
theorem dX5_sum_50 : decode cX5_sum 50 = .ok (.i2l, 1) := by decide +kernel
theorem dX5_sum_51 : decode cX5_sum 51 = .ok (.ladd, 1) := by decide +kernel
theorem dX5_sum_52 : decode cX5_sum 52 = .ok (.lstore_n 2, 1) := by decide +kernel
theorem dX5_sum_53 : decode cX5_sum 53 = .ok (.iinc 4 1, 3) := by decide +kernel
theorem dX5_sum_56 : decode cX5_sum 56 = .ok (.goto (-29), 3) := by decide +kernel
theorem dX5_sum_59 : decode cX5_sum 59 = .ok (.lload_n 2, 1) := by decide +kernel
theorem dX5_sum_60 : decode cX5_sum 60 = .ok (.lreturn, 1) := by decide +kernel
set_option maxRecDepth 20000 in
theorem ggX5_reliability_X2_isShort : GoodIn wsX5_reliability wsX2_isShort := goodIn_r _ [7, 8, 9, 10, 6, 11, 12, 18, 19, 20, 21, 22, 23, 24, 25, 26, 27, 28, 29, 30, 31, 32, 33] (by decide +kernel) (by decide +kernel)
set_option maxRecDepth 20000 in
theorem gX5_reliability_X2_isShort : GoodIn wsX5_reliability (wsV RX5 154 RX2 yX2_isShort wsX2_isShort) := goodIn_app (goodIn_of _ (by decide +kernel)) ggX5_reliability_X2_isShort
theorem dX5_reliability_0 : decode cX5_reliability 0 = .ok (.aload_n 0, 1) := by decide +kernel
theorem dX5_reliability_1 : decode cX5_reliability 1 = .ok (.getfield 10, 3) := by decide +kernel
theorem dX5_reliability_4 : decode cX5_reliability 4 = .ok (.getfield 143, 3) := by decide +kernel
theorem dX5_reliability_7 : decode cX5_reliability 7 = .ok (.istore_n 1, 1) := by decide +kernel
theorem dX5_reliability_8 : decode cX5_reliability 8 = .ok (.iload_n 1, 1) := by decide +kernel
theorem dX5_reliability_9 : decode cX5_reliability 9 = .ok (.ifCond .ne 5, 3) := by decide +kernel
theorem dX5_reliability_12 : decode cX5_reliability 12 = .ok (.dconst 1, 1) := by decide +kernel
theorem dX5_reliability_13 : decode cX5_reliability 13 = .ok (.dreturn, 1) := by decide +kernel
theorem dX5_reliability_14 : decode cX5_reliability 14 = .ok (.iconst 0, 1) := by decide +kernel
theorem dX5_reliability_15 : decode cX5_reliability 15 = .ok (.istore_n 2, 1) := by decide +kernel
theorem dX5_reliability_16 : decode cX5_reliability 16 = .ok (.iconst 0, 1) := by decide +kernel
theorem dX5_reliability_17 : decode cX5_reliability 17 = .ok (.istore_n 3, 1) := by decide +kernel
theorem dX5_reliability_18 : decode cX5_reliability 18 = .ok (.iload_n 3, 1) := by decide +kernel
theorem dX5_reliability_19 : decode cX5_reliability 19 = .ok (.iload_n 1, 1) := by decide +kernel
theorem dX5_reliability_20 : decode cX5_reliability 20 = .ok (.if_icmp .ge 23, 3) := by decide +kernel
theorem dX5_reliability_23 : decode cX5_reliability 23 = .ok (.aload_n 0, 1) := by decide +kernel
theorem dX5_reliability_24 : decode cX5_reliability 24 = .ok (.getfield 10, 3) := by decide +kernel
theorem dX5_reliability_27 : decode cX5_reliability 27 = .ok (.iload_n 3, 1) := by decide +kernel
theorem dX5_reliability_28 : decode cX5_reliability 28 = .ok (.invokevirtual 154, 3) := by decide +kernel
theorem dX5_reliability_31 : decode cX5_reliability 31 = .ok (.ifCond .ne 6, 3) := by decide +kernel
theorem dX5_reliability_34 : decode cX5_reliability 34 = .ok (.iinc 2 1, 3) := by decide +kernel
theorem dX5_reliability_37 : decode cX5_reliability 37 = .ok (.iinc 3 1, 3) := by decide +kernel
theorem dX5_reliability_40 : decode cX5_reliability 40 = .ok (.goto (-22), 3) := by decide +kernel
theorem dX5_reliability_43 : decode cX5_reliability 43 = .ok (.iload_n 2, 1) := by decide +kernel
theorem dX5_reliability_44 : decode cX5_reliability 44 = .ok (.i2d, 1) := by decide +kernel
theorem dX5_reliability_45 : decode cX5_reliability 45 = .ok (.iload_n 1, 1) := by decide +kernel
theorem dX5_reliability_46 : decode cX5_reliability 46 = .ok (.i2d, 1) := by decide +kernel
theorem dX5_reliability_47 : decode cX5_reliability 47 = .ok (.ddiv, 1) := by decide +kernel
theorem dX5_reliability_48 : decode cX5_reliability 48 = .ok (.dreturn, 1) := by decide +kernel
set_option maxRecDepth 20000 in
theorem ggX5_longestShortage_X2_isShort : GoodIn wsX5_longestShortage wsX2_isShort := goodIn_r _ [11, 12, 13, 14, 10, 15, 16, 22, 23, 24, 25, 26, 27, 28, 29, 30, 31, 32, 33, 34, 35, 36, 37] (by decide +kernel) (by decide +kernel)
set_option maxRecDepth 20000 in
theorem gX5_longestShortage_X2_isShort : GoodIn wsX5_longestShortage (wsV RX5 154 RX2 yX2_isShort wsX2_isShort) := goodIn_app (goodIn_of _ (by decide +kernel)) ggX5_longestShortage_X2_isShort
theorem dX5_longestShortage_0 : decode cX5_longestShortage 0 = .ok (.iconst 0, 1) := by decide +kernel
theorem dX5_longestShortage_1 : decode cX5_longestShortage 1 = .ok (.istore_n 1, 1) := by decide +kernel
theorem dX5_longestShortage_2 : decode cX5_longestShortage 2 = .ok (.iconst 0, 1) := by decide +kernel
theorem dX5_longestShortage_3 : decode cX5_longestShortage 3 = .ok (.istore_n 2, 1) := by decide +kernel
theorem dX5_longestShortage_4 : decode cX5_longestShortage 4 = .ok (.iconst 0, 1) := by decide +kernel
theorem dX5_longestShortage_5 : decode cX5_longestShortage 5 = .ok (.istore_n 3, 1) := by decide +kernel
theorem dX5_longestShortage_6 : decode cX5_longestShortage 6 = .ok (.iload_n 3, 1) := by decide +kernel
theorem dX5_longestShortage_7 : decode cX5_longestShortage 7 = .ok (.aload_n 0, 1) := by decide +kernel
theorem dX5_longestShortage_8 : decode cX5_longestShortage 8 = .ok (.getfield 10, 3) := by decide +kernel
theorem dX5_longestShortage_11 : decode cX5_longestShortage 11 = .ok (.getfield 143, 3) := by decide +kernel
theorem dX5_longestShortage_14 : decode cX5_longestShortage 14 = .ok (.if_icmp .ge 34, 3) := by decide +kernel
theorem dX5_longestShortage_17 : decode cX5_longestShortage 17 = .ok (.aload_n 0, 1) := by decide +kernel
theorem dX5_longestShortage_18 : decode cX5_longestShortage 18 = .ok (.getfield 10, 3) := by decide +kernel
theorem dX5_longestShortage_21 : decode cX5_longestShortage 21 = .ok (.iload_n 3, 1) := by decide +kernel
theorem dX5_longestShortage_22 : decode cX5_longestShortage 22 = .ok (.invokevirtual 154, 3) := by decide +kernel
theorem dX5_longestShortage_25 : decode cX5_longestShortage 25 = .ok (.ifCond .eq 9, 3) := by decide +kernel
theorem dX5_longestShortage_28 : decode cX5_longestShortage 28 = .ok (.iload_n 2, 1) := by decide +kernel
theorem dX5_longestShortage_29 : decode cX5_longestShortage 29 = .ok (.iconst 1, 1) := by decide +kernel
theorem dX5_longestShortage_30 : decode cX5_longestShortage 30 = .ok (.iadd, 1) := by decide +kernel
theorem dX5_longestShortage_31 : decode cX5_longestShortage 31 = .ok (.goto 4, 3) := by decide +kernel
theorem dX5_longestShortage_34 : decode cX5_longestShortage 34 = .ok (.iconst 0, 1) := by decide +kernel
theorem dX5_longestShortage_35 : decode cX5_longestShortage 35 = .ok (.istore_n 2, 1) := by decide +kernel
theorem dX5_longestShortage_36 : decode cX5_longestShortage 36 = .ok (.iload_n 1, 1) := by decide +kernel
theorem dX5_longestShortage_37 : decode cX5_longestShortage 37 = .ok (.iload_n 2, 1) := by decide +kernel
theorem dX5_longestShortage_38 : decode cX5_longestShortage 38 = .ok (.invokestatic 165, 3) := by decide +kernel
theorem dX5_longestShortage_41 : decode cX5_longestShortage 41 = .ok (.istore_n 1, 1) := by decide +kernel
theorem dX5_longestShortage_42 : decode cX5_longestShortage 42 = .ok (.iinc 3 1, 3) := by decide +kernel
theorem dX5_longestShortage_45 : decode cX5_longestShortage 45 = .ok (.goto (-39), 3) := by decide +kernel
theorem dX5_longestShortage_48 : decode cX5_longestShortage 48 = .ok (.iload_n 1, 1) := by decide +kernel
theorem dX5_longestShortage_49 : decode cX5_longestShortage 49 = .ok (.ireturn, 1) := by decide +kernel
set_option maxRecDepth 20000 in
theorem ggX5_shortDaysWith_X5_checkRange : GoodIn wsX5_shortDaysWith wsX5_checkRange := goodIn_ca (goodIn_r _ [6, 7, 8] (by decide +kernel) (by decide +kernel)) (goodIn_sub (fun _ h => List.mem_cons_of_mem _ (List.mem_append_right _ h)) (by decide +kernel))
set_option maxRecDepth 20000 in
theorem gX5_shortDaysWith_X5_checkRange : GoodIn wsX5_shortDaysWith (va_wsS RX5 30 yX5_checkRange wsX5_checkRange) := goodIn_app (goodIn_of _ (by decide +kernel)) ggX5_shortDaysWith_X5_checkRange
set_option maxRecDepth 20000 in
theorem ggX5_shortDaysWith_X5_prepareTrial : GoodIn wsX5_shortDaysWith wsX5_prepareTrial := goodIn_r _ [12, 2, 13, 14, 15, 16, 17, 18, 19, 20, 21, 22, 23, 24, 25, 26, 27, 28, 29, 30, 31, 32, 33, 34, 35, 36, 37, 38, 39, 40, 41, 42, 43, 44, 45, 46, 47, 48, 49, 50, 51, 52, 53, 54, 55, 56, 57, 58, 59, 60, 61, 62, 63, 64, 65, 66, 67, 68, 69, 70, 71, 72, 73, 74, 75, 76, 77, 78, 79, 80, 81, 82, 83, 84, 85, 86, 87, 88, 89, 90, 91, 92, 93, 94, 95, 96, 97, 98, 99, 100, 101, 102, 103, 104, 105, 106, 107, 108, 109, 110, 111, 112, 113, 114, 115, 116, 117, 118, 119, 120, 121, 122, 123, 124, 125, 126, 127, 213, 214, 215, 216, 217, 218, 219, 220, 221, 222, 223, 224, 225, 226, 227, 228, 229, 230, 231, 232, 233, 234, 235, 236, 237, 238, 239, 240, 241, 242, 243, 244, 245, 246] (by decide +kernel) (by decide +kernel)
set_option maxRecDepth 20000 in
theorem gX5_shortDaysWith_X5_prepareTrial : GoodIn wsX5_shortDaysWith (wsV RX5 170 RX5 yX5_prepareTrial wsX5_prepareTrial) := goodIn_app (goodIn_of _ (by decide +kernel)) ggX5_shortDaysWith_X5_prepareTrial
set_option maxRecDepth 20000 in
theorem ggX5_shortDaysWith_X5_setTrialCapacity : GoodIn wsX5_shortDaysWith wsX5_setTrialCapacity := goodIn_r _ [131, 2, 132, 13, 133, 134, 114, 115, 116, 135, 213, 214, 215, 216, 217, 218, 219, 220, 221, 222, 223, 224, 225, 226, 227, 228, 229, 230, 231, 232, 233] (by decide +kernel) (by decide +kernel)
set_option maxRecDepth 20000 in
theorem gX5_shortDaysWith_X5_setTrialCapacity : GoodIn wsX5_shortDaysWith (wsV RX5 173 RX5 yX5_setTrialCapacity wsX5_setTrialCapacity) := goodIn_app (goodIn_of _ (by decide +kernel)) ggX5_shortDaysWith_X5_setTrialCapacity
set_option maxRecDepth 20000 in
theorem ggX5_shortDaysWith_X2_serveAll : GoodIn wsX5_shortDaysWith wsX2_serveAll := goodIn_r _ [139, 37, 28, 29, 88, 89, 90, 62, 91, 64, 65, 92, 80, 81, 69, 82, 73, 74, 140, 141, 142, 18, 143, 23, 21, 144, 122, 115, 123, 25, 22, 145, 146, 147, 148, 36, 149, 150, 151, 152, 20, 124, 125, 126, 127, 153, 154, 155, 156, 157, 158, 159, 160, 161, 162, 163, 164, 165, 166, 167, 168, 169, 170, 171, 172, 173, 174, 175, 176, 177, 114, 116, 178, 179, 180, 181, 71, 182, 183, 184, 185, 186, 187, 188, 189, 190, 191, 192, 193, 194, 195, 196, 197, 198, 199, 200, 201, 202, 203, 72, 204, 205, 206, 207, 208, 209, 210, 211, 212, 218, 219, 220, 221, 222, 223, 224, 225, 226, 227, 228, 229, 230, 231, 232, 233, 240, 241, 242, 243, 244, 245, 246] (by decide +kernel) (by decide +kernel)
set_option maxRecDepth 20000 in
theorem gX5_shortDaysWith_X2_serveAll : GoodIn wsX5_shortDaysWith (wsV RX5 176 RX2 yX2_serveAll wsX2_serveAll) := goodIn_app (goodIn_of _ (by decide +kernel)) ggX5_shortDaysWith_X2_serveAll
theorem dX5_shortDaysWith_0 : decode cX5_shortDaysWith 0 = .ok (.iload_n 1, 1) := by decide +kernel
theorem dX5_shortDaysWith_1 : decode cX5_shortDaysWith 1 = .ok (.bipush 100, 2) := by decide +kernel
theorem dX5_shortDaysWith_3 : decode cX5_shortDaysWith 3 = .ok (.ldc 85, 2) := by decide +kernel
theorem dX5_shortDaysWith_5 : decode cX5_shortDaysWith 5 = .ok (.invokestatic 30, 3) := by decide +kernel
theorem dX5_shortDaysWith_8 : decode cX5_shortDaysWith 8 = .ok (.aload_n 0, 1) := by decide +kernel
theorem dX5_shortDaysWith_9 : decode cX5_shortDaysWith 9 = .ok (.invokevirtual 170, 3) := by decide +kernel
theorem dX5_shortDaysWith_12 : decode cX5_shortDaysWith 12 = .ok (.aload_n 0, 1) := by decide +kernel
theorem dX5_shortDaysWith_13 : decode cX5_shortDaysWith 13 = .ok (.iload_n 1, 1) := by decide +kernel
theorem dX5_shortDaysWith_14 : decode cX5_shortDaysWith 14 = .ok (.invokevirtual 173, 3) := by decide +kernel
theorem dX5_shortDaysWith_17 : decode cX5_shortDaysWith 17 = .ok (.aload_n 0, 1) := by decide +kernel
theorem dX5_shortDaysWith_18 : decode cX5_shortDaysWith 18 = .ok (.getfield 16, 3) := by decide +kernel
theorem dX5_shortDaysWith_21 : decode cX5_shortDaysWith 21 = .ok (.bipush 100, 2) := by decide +kernel
theorem dX5_shortDaysWith_23 : decode cX5_shortDaysWith 23 = .ok (.invokevirtual 176, 3) := by decide +kernel
theorem dX5_shortDaysWith_26 : decode cX5_shortDaysWith 26 = .ok (.ireturn, 1) := by decide +kernel
set_option maxRecDepth 20000 in
theorem ggX5_capacityFor_X5_checkRange : GoodIn wsX5_capacityFor wsX5_checkRange := goodIn_ca (goodIn_r _ [6, 7, 8] (by decide +kernel) (by decide +kernel)) (goodIn_sub (fun _ h => List.mem_cons_of_mem _ (List.mem_append_right _ h)) (by decide +kernel))
set_option maxRecDepth 20000 in
theorem gX5_capacityFor_X5_checkRange : GoodIn wsX5_capacityFor (va_wsS RX5 30 yX5_checkRange wsX5_checkRange) := goodIn_app (goodIn_of _ (by decide +kernel)) ggX5_capacityFor_X5_checkRange
set_option maxRecDepth 20000 in
theorem ggX5_capacityFor_X5_prepareTrial : GoodIn wsX5_capacityFor wsX5_prepareTrial := goodIn_r _ [12, 2, 13, 14, 15, 16, 17, 18, 19, 20, 21, 22, 23, 24, 25, 26, 27, 28, 29, 30, 31, 32, 33, 34, 35, 36, 37, 38, 39, 40, 41, 42, 43, 44, 45, 46, 47, 48, 49, 50, 51, 52, 53, 54, 55, 56, 57, 58, 59, 60, 61, 62, 63, 64, 65, 66, 67, 68, 69, 70, 71, 72, 73, 74, 75, 76, 77, 78, 79, 80, 81, 82, 83, 84, 85, 86, 87, 88, 89, 90, 91, 92, 93, 94, 95, 96, 97, 98, 99, 100, 101, 102, 103, 104, 105, 106, 107, 108, 109, 110, 111, 112, 113, 114, 115, 116, 117, 118, 119, 120, 121, 122, 123, 124, 125, 126, 127, 213, 214, 215, 216, 217, 218, 219, 220, 221, 222, 223, 224, 225, 226, 227, 228, 229, 230, 231, 232, 233, 234, 235, 236, 237, 238, 239, 240, 241, 242, 243, 244, 245, 246] (by decide +kernel) (by decide +kernel)
set_option maxRecDepth 20000 in
theorem gX5_capacityFor_X5_prepareTrial : GoodIn wsX5_capacityFor (wsV RX5 170 RX5 yX5_prepareTrial wsX5_prepareTrial) := goodIn_app (goodIn_of _ (by decide +kernel)) ggX5_capacityFor_X5_prepareTrial
set_option maxRecDepth 20000 in
theorem ggX5_capacityFor_X5_setTrialCapacity : GoodIn wsX5_capacityFor wsX5_setTrialCapacity := goodIn_r _ [131, 2, 132, 13, 133, 134, 114, 115, 116, 135, 213, 214, 215, 216, 217, 218, 219, 220, 221, 222, 223, 224, 225, 226, 227, 228, 229, 230, 231, 232, 233] (by decide +kernel) (by decide +kernel)
set_option maxRecDepth 20000 in
theorem gX5_capacityFor_X5_setTrialCapacity : GoodIn wsX5_capacityFor (wsV RX5 173 RX5 yX5_setTrialCapacity wsX5_setTrialCapacity) := goodIn_app (goodIn_of _ (by decide +kernel)) ggX5_capacityFor_X5_setTrialCapacity
set_option maxRecDepth 20000 in
theorem ggX5_capacityFor_X2_serveAll : GoodIn wsX5_capacityFor wsX2_serveAll := goodIn_r _ [139, 37, 28, 29, 88, 89, 90, 62, 91, 64, 65, 92, 80, 81, 69, 82, 73, 74, 140, 141, 142, 18, 143, 23, 21, 144, 122, 115, 123, 25, 22, 145, 146, 147, 148, 36, 149, 150, 151, 152, 20, 124, 125, 126, 127, 153, 154, 155, 156, 157, 158, 159, 160, 161, 162, 163, 164, 165, 166, 167, 168, 169, 170, 171, 172, 173, 174, 175, 176, 177, 114, 116, 178, 179, 180, 181, 71, 182, 183, 184, 185, 186, 187, 188, 189, 190, 191, 192, 193, 194, 195, 196, 197, 198, 199, 200, 201, 202, 203, 72, 204, 205, 206, 207, 208, 209, 210, 211, 212, 218, 219, 220, 221, 222, 223, 224, 225, 226, 227, 228, 229, 230, 231, 232, 233, 240, 241, 242, 243, 244, 245, 246] (by decide +kernel) (by decide +kernel)
set_option maxRecDepth 20000 in
theorem gX5_capacityFor_X2_serveAll : GoodIn wsX5_capacityFor (wsV RX5 176 RX2 yX2_serveAll wsX2_serveAll) := goodIn_app (goodIn_of _ (by decide +kernel)) ggX5_capacityFor_X2_serveAll
theorem dX5_capacityFor_0 : decode cX5_capacityFor 0 = .ok (.iload_n 1, 1) := by decide +kernel
theorem dX5_capacityFor_1 : decode cX5_capacityFor 1 = .ok (.iconst 0, 1) := by decide +kernel
theorem dX5_capacityFor_2 : decode cX5_capacityFor 2 = .ok (.bipush 100, 2) := by decide +kernel
theorem dX5_capacityFor_4 : decode cX5_capacityFor 4 = .ok (.invokestatic 30, 3) := by decide +kernel
theorem dX5_capacityFor_7 : decode cX5_capacityFor 7 = .ok (.aload_n 0, 1) := by decide +kernel
theorem dX5_capacityFor_8 : decode cX5_capacityFor 8 = .ok (.invokevirtual 170, 3) := by decide +kernel
theorem dX5_capacityFor_11 : decode cX5_capacityFor 11 = .ok (.sipush 500, 3) := by decide +kernel
theorem dX5_capacityFor_14 : decode cX5_capacityFor 14 = .ok (.istore_n 2, 1) := by decide +kernel
theorem dX5_capacityFor_15 : decode cX5_capacityFor 15 = .ok (.iload_n 2, 1) := by decide +kernel
theorem dX5_capacityFor_16 : decode cX5_capacityFor 16 = .ok (.ldc 85, 2) := by decide +kernel
theorem dX5_capacityFor_18 : decode cX5_capacityFor 18 = .ok (.if_icmp .gt 31, 3) := by decide +kernel
theorem dX5_capacityFor_21 : decode cX5_capacityFor 21 = .ok (.aload_n 0, 1) := by decide +kernel
theorem dX5_capacityFor_22 : decode cX5_capacityFor 22 = .ok (.iload_n 2, 1) := by decide +kernel
theorem dX5_capacityFor_23 : decode cX5_capacityFor 23 = .ok (.invokevirtual 173, 3) := by decide +kernel
theorem dX5_capacityFor_26 : decode cX5_capacityFor 26 = .ok (.aload_n 0, 1) := by decide +kernel
theorem dX5_capacityFor_27 : decode cX5_capacityFor 27 = .ok (.getfield 16, 3) := by decide +kernel
theorem dX5_capacityFor_30 : decode cX5_capacityFor 30 = .ok (.iload_n 1, 1) := by decide +kernel
theorem dX5_capacityFor_31 : decode cX5_capacityFor 31 = .ok (.invokevirtual 176, 3) := by decide +kernel
theorem dX5_capacityFor_34 : decode cX5_capacityFor 34 = .ok (.iload_n 1, 1) := by decide +kernel
theorem dX5_capacityFor_35 : decode cX5_capacityFor 35 = .ok (.if_icmp .gt 5, 3) := by decide +kernel
theorem dX5_capacityFor_38 : decode cX5_capacityFor 38 = .ok (.iload_n 2, 1) := by decide +kernel
theorem dX5_capacityFor_39 : decode cX5_capacityFor 39 = .ok (.ireturn, 1) := by decide +kernel
theorem dX5_capacityFor_40 : decode cX5_capacityFor 40 = .ok (.iinc 2 500, 6) := by decide +kernel
theorem dX5_capacityFor_46 : decode cX5_capacityFor 46 = .ok (.goto (-31), 3) := by decide +kernel
theorem dX5_capacityFor_49 : decode cX5_capacityFor 49 = .ok (.iconst (-1), 1) := by decide +kernel
theorem dX5_capacityFor_50 : decode cX5_capacityFor 50 = .ok (.ireturn, 1) := by decide +kernel
set_option maxRecDepth 20000 in
theorem ggX5_bestRule_X5_prepareTrial : GoodIn wsX5_bestRule wsX5_prepareTrial := goodIn_r _ [9, 1, 10, 4, 11, 12, 13, 14, 15, 16, 17, 18, 19, 20, 21, 22, 23, 24, 25, 26, 27, 28, 29, 30, 31, 32, 33, 34, 35, 36, 37, 38, 39, 40, 41, 42, 43, 44, 45, 46, 47, 48, 49, 50, 51, 52, 53, 54, 55, 56, 57, 58, 59, 60, 61, 62, 63, 64, 65, 66, 67, 68, 69, 70, 71, 72, 73, 74, 75, 76, 77, 78, 79, 80, 81, 82, 83, 84, 85, 86, 87, 88, 89, 90, 91, 92, 93, 94, 95, 96, 97, 98, 99, 100, 101, 102, 103, 104, 105, 106, 107, 108, 109, 110, 111, 112, 113, 114, 115, 116, 117, 118, 119, 120, 121, 122, 123, 206, 207, 208, 209, 210, 211, 212, 213, 214, 215, 216, 217, 218, 219, 220, 221, 222, 223, 224, 225, 226, 227, 228, 229, 230, 231, 232, 233, 234, 235, 236, 237, 238, 239] (by decide +kernel) (by decide +kernel)
set_option maxRecDepth 20000 in
theorem gX5_bestRule_X5_prepareTrial : GoodIn wsX5_bestRule (wsV RX5 170 RX5 yX5_prepareTrial wsX5_prepareTrial) := goodIn_app (goodIn_of _ (by decide +kernel)) ggX5_bestRule_X5_prepareTrial
set_option maxRecDepth 20000 in
theorem ggX5_bestRule_X2_serveAll : GoodIn wsX5_bestRule wsX2_serveAll := goodIn_r _ [127, 33, 24, 25, 84, 85, 86, 58, 87, 60, 61, 88, 76, 77, 65, 78, 69, 70, 128, 129, 130, 14, 131, 19, 17, 132, 118, 111, 119, 21, 18, 133, 134, 135, 136, 32, 137, 138, 139, 140, 16, 120, 121, 122, 123, 141, 142, 143, 144, 145, 146, 147, 148, 149, 150, 151, 152, 153, 154, 155, 156, 157, 158, 159, 160, 161, 162, 163, 164, 165, 110, 112, 166, 167, 168, 169, 67, 170, 171, 172, 173, 174, 175, 176, 177, 178, 179, 180, 181, 182, 183, 184, 185, 186, 187, 188, 189, 190, 191, 68, 192, 193, 194, 195, 196, 197, 198, 199, 200, 211, 212, 213, 214, 215, 216, 217, 218, 219, 220, 221, 222, 223, 224, 225, 226, 233, 234, 235, 236, 237, 238, 239] (by decide +kernel) (by decide +kernel)
set_option maxRecDepth 20000 in
theorem gX5_bestRule_X2_serveAll : GoodIn wsX5_bestRule (wsV RX5 176 RX2 yX2_serveAll wsX2_serveAll) := goodIn_app (goodIn_of _ (by decide +kernel)) ggX5_bestRule_X2_serveAll
set_option maxRecDepth 20000 in
theorem ggX5_bestRule_X4_greatestLack : GoodIn wsX5_bestRule wsX4_greatestLack := goodIn_r _ [204, 60, 61, 151, 146, 205, 118, 111, 119, 233, 234, 235, 236, 237, 238, 239] (by decide +kernel) (by decide +kernel)
set_option maxRecDepth 20000 in
theorem gX5_bestRule_X4_greatestLack : GoodIn wsX5_bestRule (wsV RX5 179 RX4 yX4_greatestLack wsX4_greatestLack) := goodIn_app (goodIn_of _ (by decide +kernel)) ggX5_bestRule_X4_greatestLack
theorem dX5_bestRule_0 : decode cX5_bestRule 0 = .ok (.aload_n 0, 1) := by decide +kernel
theorem dX5_bestRule_1 : decode cX5_bestRule 1 = .ok (.invokevirtual 170, 3) := by decide +kernel
theorem dX5_bestRule_4 : decode cX5_bestRule 4 = .ok (.iconst 0, 1) := by decide +kernel
theorem dX5_bestRule_5 : decode cX5_bestRule 5 = .ok (.istore_n 1, 1) := by decide +kernel
theorem dX5_bestRule_6 : decode cX5_bestRule 6 = .ok (.iconst 0, 1) := by decide +kernel
theorem dX5_bestRule_7 : decode cX5_bestRule 7 = .ok (.istore_n 2, 1) := by decide +kernel
theorem dX5_bestRule_8 : decode cX5_bestRule 8 = .ok (.iconst 0, 1) := by decide +kernel
theorem dX5_bestRule_9 : decode cX5_bestRule 9 = .ok (.istore_n 3, 1) := by decide +kernel
theorem dX5_bestRule_10 : decode cX5_bestRule 10 = .ok (.iload_n 3, 1) := by decide +kernel
theorem dX5_bestRule_11 : decode cX5_bestRule 11 = .ok (.iconst 4, 1) := by decide +kernel
theorem dX5_bestRule_12 : decode cX5_bestRule 12 = .ok (.if_icmp .ge 61, 3) := by decide +kernel
theorem dX5_bestRule_15 : decode cX5_bestRule 15 = .ok (.aload_n 0, 1) := by decide +kernel
theorem dX5_bestRule_16 : decode cX5_bestRule 16 = .ok (.getfield 16, 3) := by decide +kernel
theorem dX5_bestRule_19 : decode cX5_bestRule 19 = .ok (.iload_n 3, 1) := by decide +kernel
theorem dX5_bestRule_20 : decode cX5_bestRule 20 = .ok (.putfield 103, 3) := by decide +kernel
theorem dX5_bestRule_23 : decode cX5_bestRule 23 = .ok (.aload_n 0, 1) := by decide +kernel
theorem dX5_bestRule_24 : decode cX5_bestRule 24 = .ok (.getfield 16, 3) := by decide +kernel
theorem dX5_bestRule_27 : decode cX5_bestRule 27 = .ok (.bipush 100, 2) := by decide +kernel
theorem dX5_bestRule_29 : decode cX5_bestRule 29 = .ok (.invokevirtual 176, 3) := by decide +kernel
theorem dX5_bestRule_32 : decode cX5_bestRule 32 = .ok (.pop, 1) := by decide +kernel
theorem dX5_bestRule_33 : decode cX5_bestRule 33 = .ok (.aload_n 0, 1) := by decide +kernel
theorem dX5_bestRule_34 : decode cX5_bestRule 34 = .ok (.getfield 16, 3) := by decide +kernel
theorem dX5_bestRule_37 : decode cX5_bestRule 37 = .ok (.getfield 59, 3) := by decide +kernel
theorem dX5_bestRule_40 : decode cX5_bestRule 40 = .ok (.aload_n 0, 1) := by decide +kernel
theorem dX5_bestRule_41 : decode cX5_bestRule 41 = .ok (.getfield 16, 3) := by decide +kernel
theorem dX5_bestRule_44 : decode cX5_bestRule 44 = .ok (.getfield 127, 3) := by decide +kernel
theorem dX5_bestRule_47 : decode cX5_bestRule 47 = .ok (.invokevirtual 179, 3) := by decide +kernel
theorem dX5_bestRule_50 : decode cX5_bestRule 50 = .ok (.istore 4, 2) := by decide +kernel
theorem dX5_bestRule_52 : decode cX5_bestRule 52 = .ok (.iload_n 3, 1) := by decide +kernel
theorem dX5_bestRule_53 : decode cX5_bestRule 53 = .ok (.ifCond .eq 9, 3) := by decide +kernel
theorem dX5_bestRule_56 : decode cX5_bestRule 56 = .ok (.iload 4, 2) := by decide +kernel
theorem dX5_bestRule_58 : decode cX5_bestRule 58 = .ok (.iload_n 2, 1) := by decide +kernel
theorem dX5_bestRule_59 : decode cX5_bestRule 59 = .ok (.if_icmp .ge 8, 3) := by decide +kernel
theorem dX5_bestRule_62 : decode cX5_bestRule 62 = .ok (.iload_n 3, 1) := by decide +kernel
theorem dX5_bestRule_63 : decode cX5_bestRule 63 = .ok (.istore_n 1, 1) := by decide +kernel
theorem dX5_bestRule_64 : decode cX5_bestRule 64 = .ok (.iload 4, 2) := by decide +kernel
theorem dX5_bestRule_66 : decode cX5_bestRule 66 = .ok (.istore_n 2, 1) := by decide +kernel
theorem dX5_bestRule_67 : decode cX5_bestRule 67 = .ok (.iinc 3 1, 3) := by decide +kernel
theorem dX5_bestRule_70 : decode cX5_bestRule 70 = .ok (.goto (-60), 3) := by decide +kernel
theorem dX5_bestRule_73 : decode cX5_bestRule 73 = .ok (.iload_n 1, 1) := by decide +kernel
theorem dX5_bestRule_74 : decode cX5_bestRule 74 = .ok (.ireturn, 1) := by decide +kernel
set_option maxRecDepth 20000 in
theorem ggX5_sustainable_X5_prepareTrial : GoodIn wsX5_sustainable wsX5_prepareTrial := goodIn_r _ [8, 1, 3, 9, 10, 11, 12, 13, 14, 15, 16, 17, 18, 19, 20, 21, 22, 23, 24, 25, 26, 27, 28, 29, 30, 31, 32, 33, 34, 35, 36, 37, 38, 39, 40, 41, 42, 43, 44, 45, 46, 47, 48, 49, 50, 51, 52, 53, 54, 55, 56, 57, 58, 59, 60, 61, 62, 63, 64, 65, 66, 67, 68, 69, 70, 71, 72, 73, 74, 75, 76, 77, 78, 79, 80, 81, 82, 83, 84, 85, 86, 87, 88, 89, 90, 91, 92, 93, 94, 95, 96, 97, 98, 99, 100, 101, 102, 103, 104, 105, 106, 107, 108, 109, 110, 111, 112, 113, 114, 115, 116, 117, 118, 119, 120, 121, 122, 204, 205, 206, 207, 208, 209, 210, 211, 212, 213, 214, 215, 216, 217, 218, 219, 220, 221, 222, 223, 224, 225, 226, 227, 228, 229, 230, 231, 232, 233, 234, 235, 236, 237] (by decide +kernel) (by decide +kernel)
set_option maxRecDepth 20000 in
theorem gX5_sustainable_X5_prepareTrial : GoodIn wsX5_sustainable (wsV RX5 170 RX5 yX5_prepareTrial wsX5_prepareTrial) := goodIn_app (goodIn_of _ (by decide +kernel)) ggX5_sustainable_X5_prepareTrial
set_option maxRecDepth 20000 in
theorem ggX5_sustainable_X4_scaleDemands : GoodIn wsX5_sustainable wsX4_scaleDemands := goodIn_r _ [126, 59, 60, 127, 231, 232, 233, 234, 235, 236, 237] (by decide +kernel) (by decide +kernel)
set_option maxRecDepth 20000 in
theorem gX5_sustainable_X4_scaleDemands : GoodIn wsX5_sustainable (wsV RX5 182 RX4 yX4_scaleDemands wsX4_scaleDemands) := goodIn_app (goodIn_of _ (by decide +kernel)) ggX5_sustainable_X4_scaleDemands
set_option maxRecDepth 20000 in
theorem ggX5_sustainable_X2_serveAll : GoodIn wsX5_sustainable wsX2_serveAll := goodIn_r _ [131, 32, 23, 24, 83, 84, 85, 57, 86, 59, 60, 87, 75, 76, 64, 77, 68, 69, 132, 133, 134, 13, 135, 18, 16, 136, 117, 110, 118, 20, 17, 137, 138, 139, 140, 31, 141, 142, 143, 144, 15, 119, 120, 121, 122, 145, 146, 147, 148, 149, 150, 151, 152, 153, 154, 127, 155, 156, 157, 158, 159, 160, 161, 162, 163, 164, 165, 166, 167, 168, 109, 111, 169, 170, 171, 172, 66, 173, 174, 175, 176, 177, 178, 179, 180, 181, 182, 183, 184, 185, 186, 187, 188, 189, 190, 191, 192, 193, 194, 67, 195, 196, 197, 198, 199, 200, 201, 202, 203, 209, 210, 211, 212, 213, 214, 215, 216, 217, 218, 219, 220, 221, 222, 223, 224, 231, 232, 233, 234, 235, 236, 237] (by decide +kernel) (by decide +kernel)
set_option maxRecDepth 20000 in
theorem gX5_sustainable_X2_serveAll : GoodIn wsX5_sustainable (wsV RX5 176 RX2 yX2_serveAll wsX2_serveAll) := goodIn_app (goodIn_of _ (by decide +kernel)) ggX5_sustainable_X2_serveAll
theorem dX5_sustainable_0 : decode cX5_sustainable 0 = .ok (.aload_n 0, 1) := by decide +kernel
theorem dX5_sustainable_1 : decode cX5_sustainable 1 = .ok (.invokevirtual 170, 3) := by decide +kernel
theorem dX5_sustainable_4 : decode cX5_sustainable 4 = .ok (.sipush 300, 3) := by decide +kernel
theorem dX5_sustainable_7 : decode cX5_sustainable 7 = .ok (.istore_n 1, 1) := by decide +kernel
theorem dX5_sustainable_8 : decode cX5_sustainable 8 = .ok (.iload_n 1, 1) := by decide +kernel
theorem dX5_sustainable_9 : decode cX5_sustainable 9 = .ok (.iconst 5, 1) := by decide +kernel
theorem dX5_sustainable_10 : decode cX5_sustainable 10 = .ok (.if_icmp .lt 40, 3) := by decide +kernel
theorem dX5_sustainable_13 : decode cX5_sustainable 13 = .ok (.aload_n 0, 1) := by decide +kernel
theorem dX5_sustainable_14 : decode cX5_sustainable 14 = .ok (.getfield 16, 3) := by decide +kernel
theorem dX5_sustainable_17 : decode cX5_sustainable 17 = .ok (.getfield 59, 3) := by decide +kernel
theorem dX5_sustainable_20 : decode cX5_sustainable 20 = .ok (.aload_n 0, 1) := by decide +kernel
theorem dX5_sustainable_21 : decode cX5_sustainable 21 = .ok (.getfield 10, 3) := by decide +kernel
theorem dX5_sustainable_24 : decode cX5_sustainable 24 = .ok (.getfield 59, 3) := by decide +kernel
theorem dX5_sustainable_27 : decode cX5_sustainable 27 = .ok (.iload_n 1, 1) := by decide +kernel
theorem dX5_sustainable_28 : decode cX5_sustainable 28 = .ok (.invokevirtual 182, 3) := by decide +kernel
theorem dX5_sustainable_31 : decode cX5_sustainable 31 = .ok (.aload_n 0, 1) := by decide +kernel
theorem dX5_sustainable_32 : decode cX5_sustainable 32 = .ok (.getfield 16, 3) := by decide +kernel
theorem dX5_sustainable_35 : decode cX5_sustainable 35 = .ok (.iconst 0, 1) := by decide +kernel
theorem dX5_sustainable_36 : decode cX5_sustainable 36 = .ok (.invokevirtual 176, 3) := by decide +kernel
theorem dX5_sustainable_39 : decode cX5_sustainable 39 = .ok (.ifCond .ne 5, 3) := by decide +kernel
theorem dX5_sustainable_42 : decode cX5_sustainable 42 = .ok (.iload_n 1, 1) := by decide +kernel
theorem dX5_sustainable_43 : decode cX5_sustainable 43 = .ok (.ireturn, 1) := by decide +kernel
theorem dX5_sustainable_44 : decode cX5_sustainable 44 = .ok (.iinc 1 (-5), 3) := by decide +kernel
theorem dX5_sustainable_47 : decode cX5_sustainable 47 = .ok (.goto (-39), 3) := by decide +kernel
theorem dX5_sustainable_50 : decode cX5_sustainable 50 = .ok (.iconst (-1), 1) := by decide +kernel
theorem dX5_sustainable_51 : decode cX5_sustainable 51 = .ok (.ireturn, 1) := by decide +kernel
set_option maxRecDepth 20000 in
theorem ggX5_gutterLoss_X5_checkIndex : GoodIn wsX5_gutterLoss wsX5_checkIndex := goodIn_ca (goodIn_r _ [9, 10, 11] (by decide +kernel) (by decide +kernel)) (goodIn_sub (fun _ h => List.mem_cons_of_mem _ (List.mem_append_right _ h)) (by decide +kernel))
set_option maxRecDepth 20000 in
theorem gX5_gutterLoss_X5_checkIndex : GoodIn wsX5_gutterLoss (va_wsS RX5 79 yX5_checkIndex wsX5_checkIndex) := goodIn_app (goodIn_of _ (by decide +kernel)) ggX5_gutterLoss_X5_checkIndex
set_option maxRecDepth 20000 in
theorem ggX5_gutterLoss_X5_prepareTrial : GoodIn wsX5_gutterLoss wsX5_prepareTrial := goodIn_r _ [15, 3, 1, 16, 17, 18, 19, 20, 21, 22, 23, 24, 25, 26, 27, 28, 29, 30, 31, 32, 33, 34, 35, 36, 37, 38, 39, 40, 41, 42, 43, 44, 45, 46, 47, 48, 49, 50, 51, 52, 53, 54, 55, 56, 57, 58, 59, 60, 61, 62, 63, 64, 65, 66, 67, 68, 69, 70, 71, 72, 73, 74, 75, 76, 77, 78, 79, 80, 81, 82, 83, 84, 85, 86, 87, 88, 89, 90, 91, 92, 93, 94, 95, 96, 97, 98, 99, 100, 101, 102, 103, 104, 105, 106, 107, 108, 109, 110, 111, 112, 113, 114, 115, 116, 117, 118, 119, 120, 121, 122, 123, 124, 125, 126, 127, 128, 129, 130, 131, 132, 133, 134, 135, 136, 137, 138, 139, 140, 141, 142, 143, 144, 145, 146, 147, 148, 149, 150, 151, 152, 153, 154, 155, 156, 157, 158, 159, 160, 161, 162, 163] (by decide +kernel) (by decide +kernel)
set_option maxRecDepth 20000 in
theorem gX5_gutterLoss_X5_prepareTrial : GoodIn wsX5_gutterLoss (wsV RX5 170 RX5 yX5_prepareTrial wsX5_prepareTrial) := goodIn_app (goodIn_of _ (by decide +kernel)) ggX5_gutterLoss_X5_prepareTrial
theorem dX5_gutterLoss_0 : decode cX5_gutterLoss 0 = .ok (.iload_n 1, 1) := by decide +kernel
theorem dX5_gutterLoss_1 : decode cX5_gutterLoss 1 = .ok (.aload_n 0, 1) := by decide +kernel
theorem dX5_gutterLoss_2 : decode cX5_gutterLoss 2 = .ok (.getfield 10, 3) := by decide +kernel
theorem dX5_gutterLoss_5 : decode cX5_gutterLoss 5 = .ok (.getfield 35, 3) := by decide +kernel
theorem dX5_gutterLoss_8 : decode cX5_gutterLoss 8 = .ok (.invokestatic 79, 3) := by decide +kernel
theorem dX5_gutterLoss_11 : decode cX5_gutterLoss 11 = .ok (.aload_n 0, 1) := by decide +kernel
theorem dX5_gutterLoss_12 : decode cX5_gutterLoss 12 = .ok (.invokevirtual 170, 3) := by decide +kernel
theorem dX5_gutterLoss_15 : decode cX5_gutterLoss 15 = .ok (.aload_n 0, 1) := by decide +kernel
theorem dX5_gutterLoss_16 : decode cX5_gutterLoss 16 = .ok (.getfield 16, 3) := by decide +kernel
theorem dX5_gutterLoss_19 : decode cX5_gutterLoss 19 = .ok (.getfield 49, 3) := by decide +kernel
theorem dX5_gutterLoss_22 : decode cX5_gutterLoss 22 = .ok (.iload_n 1, 1) := by decide +kernel
theorem dX5_gutterLoss_23 : decode cX5_gutterLoss 23 = .ok (.aaload, 1) := by decide +kernel
theorem dX5_gutterLoss_24 : decode cX5_gutterLoss 24 = .ok (.getfield 186, 3) := by decide +kernel
theorem dX5_gutterLoss_27 : decode cX5_gutterLoss 27 = .ok (.i2l, 1) := by decide +kernel
theorem dX5_gutterLoss_28 : decode cX5_gutterLoss 28 = .ok (.lreturn, 1) := by decide +kernel
set_option maxRecDepth 20000 in
theorem ggX5_undo_X2_copyFrom : GoodIn wsX5_undo wsX2_copyFrom := goodIn_r _ [10, 11, 12, 13, 14, 15, 16, 17, 18, 19, 20, 21, 22, 23, 24, 25, 26, 27, 28, 29, 30, 31, 32, 33, 34, 35, 36, 37, 38, 39, 40, 41, 42, 43, 44, 45, 46, 47, 48, 49, 50, 51, 52, 53, 54, 55, 56, 57, 58, 59, 60, 61, 62, 63, 64, 65, 66, 67, 68, 69, 70, 71, 72, 73, 79, 80, 81, 82, 83, 84, 85, 86, 87, 88, 89, 90, 91, 92, 93, 94, 95, 96, 97, 98, 99, 100, 101, 102, 103, 104, 105, 106, 107] (by decide +kernel) (by decide +kernel)
set_option maxRecDepth 20000 in
theorem gX5_undo_X2_copyFrom : GoodIn wsX5_undo (wsV RX5 212 RX2 yX2_copyFrom wsX2_copyFrom) := goodIn_app (goodIn_of _ (by decide +kernel)) ggX5_undo_X2_copyFrom
theorem dX5_undo_0 : decode cX5_undo 0 = .ok (.aload_n 0, 1) := by decide +kernel
theorem dX5_undo_1 : decode cX5_undo 1 = .ok (.getfield 207, 3) := by decide +kernel
theorem dX5_undo_4 : decode cX5_undo 4 = .ok (.iconst 1, 1) := by decide +kernel
theorem dX5_undo_5 : decode cX5_undo 5 = .ok (.if_icmp .ge 13, 3) := by decide +kernel
theorem dX5_undo_8 : decode cX5_undo 8 = .ok (.new 39, 3) := by decide +kernel
theorem dX5_undo_11 : decode cX5_undo 11 = .ok (.dup, 1) := by decide +kernel
theorem dX5_undo_12 : decode cX5_undo 12 = .ok (.ldc 210, 2) := by decide +kernel
theorem dX5_undo_14 : decode cX5_undo 14 = .ok (.invokespecial 43, 3) := by decide +kernel
theorem dX5_undo_17 : decode cX5_undo 17 = .ok (.athrow, 1) := by decide +kernel
theorem dX5_undo_18 : decode cX5_undo 18 = .ok (.aload_n 0, 1) := by decide +kernel
theorem dX5_undo_19 : decode cX5_undo 19 = .ok (.dup, 1) := by decide +kernel
theorem dX5_undo_20 : decode cX5_undo 20 = .ok (.getfield 207, 3) := by decide +kernel
theorem dX5_undo_23 : decode cX5_undo 23 = .ok (.iconst 1, 1) := by decide +kernel
theorem dX5_undo_24 : decode cX5_undo 24 = .ok (.isub, 1) := by decide +kernel
theorem dX5_undo_25 : decode cX5_undo 25 = .ok (.putfield 207, 3) := by decide +kernel
theorem dX5_undo_28 : decode cX5_undo 28 = .ok (.aload_n 0, 1) := by decide +kernel
theorem dX5_undo_29 : decode cX5_undo 29 = .ok (.getfield 10, 3) := by decide +kernel
theorem dX5_undo_32 : decode cX5_undo 32 = .ok (.aload_n 0, 1) := by decide +kernel
theorem dX5_undo_33 : decode cX5_undo 33 = .ok (.getfield 19, 3) := by decide +kernel
theorem dX5_undo_36 : decode cX5_undo 36 = .ok (.aload_n 0, 1) := by decide +kernel
theorem dX5_undo_37 : decode cX5_undo 37 = .ok (.getfield 207, 3) := by decide +kernel
theorem dX5_undo_40 : decode cX5_undo 40 = .ok (.aaload, 1) := by decide +kernel
theorem dX5_undo_41 : decode cX5_undo 41 = .ok (.invokevirtual 212, 3) := by decide +kernel
theorem dX5_undo_44 : decode cX5_undo 44 = .ok (.aload_n 0, 1) := by decide +kernel
theorem dX5_undo_45 : decode cX5_undo 45 = .ok (.getfield 207, 3) := by decide +kernel
theorem dX5_undo_48 : decode cX5_undo 48 = .ok (.ireturn, 1) := by decide +kernel
set_option maxRecDepth 20000 in
theorem ggX5_digest_X2_settingValue : GoodIn wsX5_digest wsX2_settingValue := goodIn_r _ [19, 20, 21, 22, 23, 24, 25, 26, 27, 28, 29, 30, 31, 32, 79, 80, 81, 82, 83, 84, 85, 86, 87, 88, 89, 90, 91, 92, 93, 94, 95, 96, 97] (by decide +kernel) (by decide +kernel)
set_option maxRecDepth 20000 in
theorem gX5_digest_X2_settingValue : GoodIn wsX5_digest (wsV RX5 112 RX2 yX2_settingValue wsX2_settingValue) := goodIn_app (goodIn_of _ (by decide +kernel)) ggX5_digest_X2_settingValue
set_option maxRecDepth 20000 in
theorem ggX5_digest_X1_value : GoodIn wsX5_digest wsX1_value := goodIn_r _ [37, 38, 39, 40, 41, 42, 98, 99, 100, 101, 102, 103] (by decide +kernel) (by decide +kernel)
set_option maxRecDepth 20000 in
theorem gX5_digest_X1_value : GoodIn wsX5_digest (wsV RX5 116 RX1 yX1_value wsX1_value) := goodIn_app (goodIn_of _ (by decide +kernel)) ggX5_digest_X1_value
set_option maxRecDepth 20000 in
theorem ggX5_digest_X3_value : GoodIn wsX5_digest wsX3_value := goodIn_r _ [47, 48, 49, 50, 51, 104, 105, 106, 107] (by decide +kernel) (by decide +kernel)
set_option maxRecDepth 20000 in
theorem gX5_digest_X3_value : GoodIn wsX5_digest (wsV RX5 119 RX3 yX3_value wsX3_value) := goodIn_app (goodIn_of _ (by decide +kernel)) ggX5_digest_X3_value
set_option maxRecDepth 20000 in
theorem ggX5_digest_X2_account : GoodIn wsX5_digest wsX2_account := goodIn_r _ [55, 56, 79, 80, 81, 82, 83, 84, 85, 86, 87, 88, 89, 90, 91, 92, 93, 94] (by decide +kernel) (by decide +kernel)
set_option maxRecDepth 20000 in
theorem gX5_digest_X2_account : GoodIn wsX5_digest (wsV RX5 161 RX2 yX2_account wsX2_account) := goodIn_app (goodIn_of _ (by decide +kernel)) ggX5_digest_X2_account
set_option maxRecDepth 20000 in
theorem ggX5_digest_X5_sum : GoodIn wsX5_digest wsX5_sum := goodIn_ca (goodIn_r _ [61, 5, 62, 13, 63, 64, 60, 65, 66, 67, 52, 53, 54, 18, 55, 56, 68, 69, 70, 71, 72, 79, 80, 81, 82, 83, 84, 85, 86, 87, 88, 89, 90, 91, 92, 93, 94] (by decide +kernel) (by decide +kernel)) (goodIn_sub (fun _ h => List.mem_cons_of_mem _ (List.mem_append_right _ h)) (by decide +kernel))
set_option maxRecDepth 20000 in
theorem gX5_digest_X5_sum : GoodIn wsX5_digest (wsV RX5 220 RX5 yX5_sum wsX5_sum) := goodIn_app (goodIn_of _ (by decide +kernel)) ggX5_digest_X5_sum
theorem dX5_digest_0 : decode cX5_digest 0 = .ok (.ldc2_w 216, 3) := by decide +kernel
theorem dX5_digest_3 : decode cX5_digest 3 = .ok (.aload_n 0, 1) := by decide +kernel
theorem dX5_digest_4 : decode cX5_digest 4 = .ok (.getfield 26, 3) := by decide +kernel
theorem dX5_digest_7 : decode cX5_digest 7 = .ok (.getfield 189, 3) := by decide +kernel
theorem dX5_digest_10 : decode cX5_digest 10 = .ok (.i2l, 1) := by decide +kernel
theorem dX5_digest_11 : decode cX5_digest 11 = .ok (.ladd, 1) := by decide +kernel
theorem dX5_digest_12 : decode cX5_digest 12 = .ok (.lstore_n 1, 1) := by decide +kernel
theorem dX5_digest_13 : decode cX5_digest 13 = .ok (.iconst 0, 1) := by decide +kernel
theorem dX5_digest_14 : decode cX5_digest 14 = .ok (.istore_n 3, 1) := by decide +kernel
theorem dX5_digest_15 : decode cX5_digest 15 = .ok (.iload_n 3, 1) := by decide +kernel
theorem dX5_digest_16 : decode cX5_digest 16 = .ok (.bipush 12, 2) := by decide +kernel
theorem dX5_digest_18 : decode cX5_digest 18 = .ok (.if_icmp .ge 25, 3) := by decide +kernel
theorem dX5_digest_21 : decode cX5_digest 21 = .ok (.ldc2_w 218, 3) := by decide +kernel
theorem dX5_digest_24 : decode cX5_digest 24 = .ok (.lload_n 1, 1) := by decide +kernel
theorem dX5_digest_25 : decode cX5_digest 25 = .ok (.lmul, 1) := by decide +kernel
theorem dX5_digest_26 : decode cX5_digest 26 = .ok (.aload_n 0, 1) := by decide +kernel
theorem dX5_digest_27 : decode cX5_digest 27 = .ok (.getfield 10, 3) := by decide +kernel
theorem dX5_digest_30 : decode cX5_digest 30 = .ok (.iload_n 3, 1) := by decide +kernel
theorem dX5_digest_31 : decode cX5_digest 31 = .ok (.invokevirtual 112, 3) := by decide +kernel
theorem dX5_digest_34 : decode cX5_digest 34 = .ok (.i2l, 1) := by decide +kernel
theorem dX5_digest_35 : decode cX5_digest 35 = .ok (.ladd, 1) := by decide +kernel
theorem dX5_digest_36 : decode cX5_digest 36 = .ok (.lstore_n 1, 1) := by decide +kernel
theorem dX5_digest_37 : decode cX5_digest 37 = .ok (.iinc 3 1, 3) := by decide +kernel
theorem dX5_digest_40 : decode cX5_digest 40 = .ok (.goto (-25), 3) := by decide +kernel
theorem dX5_digest_43 : decode cX5_digest 43 = .ok (.iconst 0, 1) := by decide +kernel
theorem dX5_digest_44 : decode cX5_digest 44 = .ok (.istore_n 3, 1) := by decide +kernel
theorem dX5_digest_45 : decode cX5_digest 45 = .ok (.iload_n 3, 1) := by decide +kernel
theorem dX5_digest_46 : decode cX5_digest 46 = .ok (.aload_n 0, 1) := by decide +kernel
theorem dX5_digest_47 : decode cX5_digest 47 = .ok (.getfield 10, 3) := by decide +kernel
theorem dX5_digest_50 : decode cX5_digest 50 = .ok (.getfield 35, 3) := by decide +kernel
theorem dX5_digest_53 : decode cX5_digest 53 = .ok (.if_icmp .ge 46, 3) := by decide +kernel
theorem dX5_digest_56 : decode cX5_digest 56 = .ok (.iconst 0, 1) := by decide +kernel
theorem dX5_digest_57 : decode cX5_digest 57 = .ok (.istore 4, 2) := by decide +kernel
theorem dX5_digest_59 : decode cX5_digest 59 = .ok (.iload 4, 2) := by decide +kernel
theorem dX5_digest_61 : decode cX5_digest 61 = .ok (.iconst 5, 1) := by decide +kernel
theorem dX5_digest_62 : decode cX5_digest 62 = .ok (.if_icmp .ge 31, 3) := by decide +kernel
theorem dX5_digest_65 : decode cX5_digest 65 = .ok (.ldc2_w 218, 3) := by decide +kernel
theorem dX5_digest_68 : decode cX5_digest 68 = .ok (.lload_n 1, 1) := by decide +kernel
theorem dX5_digest_69 : decode cX5_digest 69 = .ok (.lmul, 1) := by decide +kernel
theorem dX5_digest_70 : decode cX5_digest 70 = .ok (.aload_n 0, 1) := by decide +kernel
theorem dX5_digest_71 : decode cX5_digest 71 = .ok (.getfield 10, 3) := by decide +kernel
theorem dX5_digest_74 : decode cX5_digest 74 = .ok (.getfield 49, 3) := by decide +kernel
theorem dX5_digest_77 : decode cX5_digest 77 = .ok (.iload_n 3, 1) := by decide +kernel
theorem dX5_digest_78 : decode cX5_digest 78 = .ok (.aaload, 1) := by decide +kernel
theorem dX5_digest_79 : decode cX5_digest 79 = .ok (.iload 4, 2) := by decide +kernel
theorem dX5_digest_81 : decode cX5_digest 81 = .ok (.invokevirtual 116, 3) := by decide +kernel
theorem dX5_digest_84 : decode cX5_digest 84 = .ok (.i2l, 1) := by decide +kernel
theorem dX5_digest_85 : decode cX5_digest 85 = .ok (.ladd, 1) := by decide +kernel
theorem dX5_digest_86 : decode cX5_digest 86 = .ok (.lstore_n 1, 1) := by decide +kernel
theorem dX5_digest_87 : decode cX5_digest 87 = .ok (.iinc 4 1, 3) := by decide +kernel
theorem dX5_digest_90 : decode cX5_digest 90 = .ok (.goto (-31), 3) := by decide +kernel
theorem dX5_digest_93 : decode cX5_digest 93 = .ok (.iinc 3 1, 3) := by decide +kernel
theorem dX5_digest_96 : decode cX5_digest 96 = .ok (.goto (-51), 3) := by decide +kernel
theorem dX5_digest_99 : decode cX5_digest 99 = .ok (.iconst 0, 1) := by decide +kernel
theorem dX5_digest_100 : decode cX5_digest 100 = .ok (.istore_n 3, 1) := by decide +kernel
theorem dX5_digest_101 : decode cX5_digest 101 = .ok (.iload_n 3, 1) := by decide +kernel
theorem dX5_digest_102 : decode cX5_digest 102 = .ok (.aload_n 0, 1) := by decide +kernel
theorem dX5_digest_103 : decode cX5_digest 103 = .ok (.getfield 10, 3) := by decide +kernel
theorem dX5_digest_106 : decode cX5_digest 106 = .ok (.getfield 59, 3) := by decide +kernel
theorem dX5_digest_109 : decode cX5_digest 109 = .ok (.getfield 63, 3) := by decide +kernel
theorem dX5_digest_112 : decode cX5_digest 112 = .ok (.if_icmp .ge 49, 3) := by decide +kernel
theorem dX5_digest_115 : decode cX5_digest 115 = .ok (.iconst 0, 1) := by decide +kernel
theorem dX5_digest_116 : decode cX5_digest 116 = .ok (.istore 4, 2) := by decide +kernel
theorem dX5_digest_118 : decode cX5_digest 118 = .ok (.iload 4, 2) := by decide +kernel
theorem dX5_digest_120 : decode cX5_digest 120 = .ok (.iconst 4, 1) := by decide +kernel
theorem dX5_digest_121 : decode cX5_digest 121 = .ok (.if_icmp .ge 34, 3) := by decide +kernel
theorem dX5_digest_124 : decode cX5_digest 124 = .ok (.ldc2_w 218, 3) := by decide +kernel
theorem dX5_digest_127 : decode cX5_digest 127 = .ok (.lload_n 1, 1) := by decide +kernel
theorem dX5_digest_128 : decode cX5_digest 128 = .ok (.lmul, 1) := by decide +kernel
theorem dX5_digest_129 : decode cX5_digest 129 = .ok (.aload_n 0, 1) := by decide +kernel
theorem dX5_digest_130 : decode cX5_digest 130 = .ok (.getfield 10, 3) := by decide +kernel
theorem dX5_digest_133 : decode cX5_digest 133 = .ok (.getfield 59, 3) := by decide +kernel
theorem dX5_digest_136 : decode cX5_digest 136 = .ok (.getfield 70, 3) := by decide +kernel
theorem dX5_digest_139 : decode cX5_digest 139 = .ok (.iload_n 3, 1) := by decide +kernel
theorem dX5_digest_140 : decode cX5_digest 140 = .ok (.aaload, 1) := by decide +kernel
theorem dX5_digest_141 : decode cX5_digest 141 = .ok (.iload 4, 2) := by decide +kernel
theorem dX5_digest_143 : decode cX5_digest 143 = .ok (.invokevirtual 119, 3) := by decide +kernel
theorem dX5_digest_146 : decode cX5_digest 146 = .ok (.i2l, 1) := by decide +kernel
theorem dX5_digest_147 : decode cX5_digest 147 = .ok (.ladd, 1) := by decide +kernel
theorem dX5_digest_148 : decode cX5_digest 148 = .ok (.lstore_n 1, 1) := by decide +kernel
theorem dX5_digest_149 : decode cX5_digest 149 = .ok (.iinc 4 1, 3) := by decide +kernel
theorem dX5_digest_152 : decode cX5_digest 152 = .ok (.goto (-34), 3) := by decide +kernel
theorem dX5_digest_155 : decode cX5_digest 155 = .ok (.iinc 3 1, 3) := by decide +kernel
theorem dX5_digest_158 : decode cX5_digest 158 = .ok (.goto (-57), 3) := by decide +kernel
theorem dX5_digest_161 : decode cX5_digest 161 = .ok (.iconst 0, 1) := by decide +kernel
theorem dX5_digest_162 : decode cX5_digest 162 = .ok (.istore_n 3, 1) := by decide +kernel
theorem dX5_digest_163 : decode cX5_digest 163 = .ok (.iload_n 3, 1) := by decide +kernel
theorem dX5_digest_164 : decode cX5_digest 164 = .ok (.aload_n 0, 1) := by decide +kernel
theorem dX5_digest_165 : decode cX5_digest 165 = .ok (.getfield 10, 3) := by decide +kernel
theorem dX5_digest_168 : decode cX5_digest 168 = .ok (.getfield 127, 3) := by decide +kernel
theorem dX5_digest_171 : decode cX5_digest 171 = .ok (.if_icmp .ge 26, 3) := by decide +kernel
theorem dX5_digest_174 : decode cX5_digest 174 = .ok (.ldc2_w 218, 3) := by decide +kernel
theorem dX5_digest_177 : decode cX5_digest 177 = .ok (.lload_n 1, 1) := by decide +kernel
theorem dX5_digest_178 : decode cX5_digest 178 = .ok (.lmul, 1) := by decide +kernel
theorem dX5_digest_179 : decode cX5_digest 179 = .ok (.aload_n 0, 1) := by decide +kernel
theorem dX5_digest_180 : decode cX5_digest 180 = .ok (.getfield 10, 3) := by decide +kernel
theorem dX5_digest_183 : decode cX5_digest 183 = .ok (.getfield 139, 3) := by decide +kernel
theorem dX5_digest_186 : decode cX5_digest 186 = .ok (.iload_n 3, 1) := by decide +kernel
theorem dX5_digest_187 : decode cX5_digest 187 = .ok (.iaload, 1) := by decide +kernel
theorem dX5_digest_188 : decode cX5_digest 188 = .ok (.i2l, 1) := by decide +kernel
theorem dX5_digest_189 : decode cX5_digest 189 = .ok (.ladd, 1) := by decide +kernel
theorem dX5_digest_190 : decode cX5_digest 190 = .ok (.lstore_n 1, 1) := by decide +kernel
theorem dX5_digest_191 : decode cX5_digest 191 = .ok (.iinc 3 1, 3) := by decide +kernel
theorem dX5_digest_194 : decode cX5_digest 194 = .ok (.goto (-31), 3) := by decide +kernel
theorem dX5_digest_197 : decode cX5_digest 197 = .ok (.iconst 0, 1) := by decide +kernel
theorem dX5_digest_198 : decode cX5_digest 198 = .ok (.istore_n 3, 1) := by decide +kernel
theorem dX5_digest_199 : decode cX5_digest 199 = .ok (.iload_n 3, 1) := by decide +kernel
theorem dX5_digest_200 : decode cX5_digest 200 = .ok (.aload_n 0, 1) := by decide +kernel
theorem dX5_digest_201 : decode cX5_digest 201 = .ok (.getfield 10, 3) := by decide +kernel
theorem dX5_digest_204 : decode cX5_digest 204 = .ok (.getfield 143, 3) := by decide +kernel
theorem dX5_digest_207 : decode cX5_digest 207 = .ok (.if_icmp .ge 43, 3) := by decide +kernel
theorem dX5_digest_210 : decode cX5_digest 210 = .ok (.iconst 0, 1) := by decide +kernel
theorem dX5_digest_211 : decode cX5_digest 211 = .ok (.istore 4, 2) := by decide +kernel
theorem dX5_digest_213 : decode cX5_digest 213 = .ok (.iload 4, 2) := by decide +kernel
theorem dX5_digest_215 : decode cX5_digest 215 = .ok (.bipush 10, 2) := by decide +kernel
theorem dX5_digest_217 : decode cX5_digest 217 = .ok (.if_icmp .ge 27, 3) := by decide +kernel
theorem dX5_digest_220 : decode cX5_digest 220 = .ok (.ldc2_w 218, 3) := by decide +kernel
theorem dX5_digest_223 : decode cX5_digest 223 = .ok (.lload_n 1, 1) := by decide +kernel
theorem dX5_digest_224 : decode cX5_digest 224 = .ok (.lmul, 1) := by decide +kernel
theorem dX5_digest_225 : decode cX5_digest 225 = .ok (.aload_n 0, 1) := by decide +kernel
theorem dX5_digest_226 : decode cX5_digest 226 = .ok (.getfield 10, 3) := by decide +kernel
theorem dX5_digest_229 : decode cX5_digest 229 = .ok (.iload_n 3, 1) := by decide +kernel
theorem dX5_digest_230 : decode cX5_digest 230 = .ok (.iload 4, 2) := by decide +kernel
theorem dX5_digest_232 : decode cX5_digest 232 = .ok (.invokevirtual 161, 3) := by decide +kernel
theorem dX5_digest_235 : decode cX5_digest 235 = .ok (.i2l, 1) := by decide +kernel
theorem dX5_digest_236 : decode cX5_digest 236 = .ok (.ladd, 1) := by decide +kernel
theorem dX5_digest_237 : decode cX5_digest 237 = .ok (.lstore_n 1, 1) := by decide +kernel
theorem dX5_digest_238 : decode cX5_digest 238 = .ok (.iinc 4 1, 3) := by decide +kernel
theorem dX5_digest_241 : decode cX5_digest 241 = .ok (.goto (-28), 3) := by decide +kernel
theorem dX5_digest_244 : decode cX5_digest 244 = .ok (.iinc 3 1, 3) := by decide +kernel
theorem dX5_digest_247 : decode cX5_digest 247 = .ok (.goto (-48), 3) := by decide +kernel
theorem dX5_digest_250 : decode cX5_digest 250 = .ok (.iconst 1, 1) := by decide +kernel
theorem dX5_digest_251 : decode cX5_digest 251 = .ok (.istore_n 3, 1) := by decide +kernel
theorem dX5_digest_252 : decode cX5_digest 252 = .ok (.iload_n 3, 1) := by decide +kernel
theorem dX5_digest_253 : decode cX5_digest 253 = .ok (.bipush 10, 2) := by decide +kernel
theorem dX5_digest_255 : decode cX5_digest 255 = .ok (.if_icmp .ge 21, 3) := by decide +kernel
theorem dX5_digest_258 : decode cX5_digest 258 = .ok (.ldc2_w 218, 3) := by decide +kernel
theorem dX5_digest_261 : decode cX5_digest 261 = .ok (.lload_n 1, 1) := by decide +kernel
theorem dX5_digest_262 : decode cX5_digest 262 = .ok (.lmul, 1) := by decide +kernel
theorem dX5_digest_263 : decode cX5_digest 263 = .ok (.aload_n 0, 1) := by decide +kernel
theorem dX5_digest_264 : decode cX5_digest 264 = .ok (.iload_n 3, 1) := by decide +kernel
theorem dX5_digest_265 : decode cX5_digest 265 = .ok (.invokevirtual 220, 3) := by decide +kernel
theorem dX5_digest_268 : decode cX5_digest 268 = .ok (.ladd, 1) := by decide +kernel
theorem dX5_digest_269 : decode cX5_digest 269 = .ok (.lstore_n 1, 1) := by decide +kernel
theorem dX5_digest_270 : decode cX5_digest 270 = .ok (.iinc 3 1, 3) := by decide +kernel
theorem dX5_digest_273 : decode cX5_digest 273 = .ok (.goto (-21), 3) := by decide +kernel
theorem dX5_digest_276 : decode cX5_digest 276 = .ok (.ldc2_w 218, 3) := by decide +kernel
theorem dX5_digest_279 : decode cX5_digest 279 = .ok (.lload_n 1, 1) := by decide +kernel
theorem dX5_digest_280 : decode cX5_digest 280 = .ok (.lmul, 1) := by decide +kernel
theorem dX5_digest_281 : decode cX5_digest 281 = .ok (.aload_n 0, 1) := by decide +kernel
theorem dX5_digest_282 : decode cX5_digest 282 = .ok (.getfield 207, 3) := by decide +kernel
theorem dX5_digest_285 : decode cX5_digest 285 = .ok (.i2l, 1) := by decide +kernel
theorem dX5_digest_286 : decode cX5_digest 286 = .ok (.ladd, 1) := by decide +kernel
theorem dX5_digest_287 : decode cX5_digest 287 = .ok (.lreturn, 1) := by decide +kernel
theorem dX5_checkRange_0 : decode cX5_checkRange 0 = .ok (.iload_n 0, 1) := by decide +kernel
theorem dX5_checkRange_1 : decode cX5_checkRange 1 = .ok (.iload_n 1, 1) := by decide +kernel
theorem dX5_checkRange_2 : decode cX5_checkRange 2 = .ok (.if_icmp .lt 8, 3) := by decide +kernel
theorem dX5_checkRange_5 : decode cX5_checkRange 5 = .ok (.iload_n 0, 1) := by decide +kernel
theorem dX5_checkRange_6 : decode cX5_checkRange 6 = .ok (.iload_n 2, 1) := by decide +kernel
theorem dX5_checkRange_7 : decode cX5_checkRange 7 = .ok (.if_icmp .le 13, 3) := by decide +kernel
theorem dX5_checkRange_10 : decode cX5_checkRange 10 = .ok (.new 224, 3) := by decide +kernel
theorem dX5_checkRange_13 : decode cX5_checkRange 13 = .ok (.dup, 1) := by decide +kernel
theorem dX5_checkRange_14 : decode cX5_checkRange 14 = .ok (.ldc 226, 2) := by decide +kernel
theorem dX5_checkRange_16 : decode cX5_checkRange 16 = .ok (.invokespecial 228, 3) := by decide +kernel
theorem dX5_checkRange_19 : decode cX5_checkRange 19 = .ok (.athrow, 1) := by decide +kernel
theorem dX5_checkRange_20 : decode cX5_checkRange 20 = .ok (.return_, 1) := by decide +kernel
theorem dX5_checkIndex_0 : decode cX5_checkIndex 0 = .ok (.iload_n 0, 1) := by decide +kernel
theorem dX5_checkIndex_1 : decode cX5_checkIndex 1 = .ok (.ifCond .lt 8, 3) := by decide +kernel
theorem dX5_checkIndex_4 : decode cX5_checkIndex 4 = .ok (.iload_n 0, 1) := by decide +kernel
theorem dX5_checkIndex_5 : decode cX5_checkIndex 5 = .ok (.iload_n 1, 1) := by decide +kernel
theorem dX5_checkIndex_6 : decode cX5_checkIndex 6 = .ok (.if_icmp .lt 13, 3) := by decide +kernel
theorem dX5_checkIndex_9 : decode cX5_checkIndex 9 = .ok (.new 229, 3) := by decide +kernel
theorem dX5_checkIndex_12 : decode cX5_checkIndex 12 = .ok (.dup, 1) := by decide +kernel
theorem dX5_checkIndex_13 : decode cX5_checkIndex 13 = .ok (.ldc 231, 2) := by decide +kernel
theorem dX5_checkIndex_15 : decode cX5_checkIndex 15 = .ok (.invokespecial 233, 3) := by decide +kernel
theorem dX5_checkIndex_18 : decode cX5_checkIndex 18 = .ok (.athrow, 1) := by decide +kernel
theorem dX5_checkIndex_19 : decode cX5_checkIndex 19 = .ok (.return_, 1) := by decide +kernel
theorem dX5_checkRoomForDays_0 : decode cX5_checkRoomForDays 0 = .ok (.aload_n 0, 1) := by decide +kernel
theorem dX5_checkRoomForDays_1 : decode cX5_checkRoomForDays 1 = .ok (.getfield 10, 3) := by decide +kernel
theorem dX5_checkRoomForDays_4 : decode cX5_checkRoomForDays 4 = .ok (.getfield 127, 3) := by decide +kernel
theorem dX5_checkRoomForDays_7 : decode cX5_checkRoomForDays 7 = .ok (.iload_n 1, 1) := by decide +kernel
theorem dX5_checkRoomForDays_8 : decode cX5_checkRoomForDays 8 = .ok (.iadd, 1) := by decide +kernel
theorem dX5_checkRoomForDays_9 : decode cX5_checkRoomForDays 9 = .ok (.bipush 100, 2) := by decide +kernel
theorem dX5_checkRoomForDays_11 : decode cX5_checkRoomForDays 11 = .ok (.if_icmp .le 13, 3) := by decide +kernel
theorem dX5_checkRoomForDays_14 : decode cX5_checkRoomForDays 14 = .ok (.new 39, 3) := by decide +kernel
theorem dX5_checkRoomForDays_17 : decode cX5_checkRoomForDays 17 = .ok (.dup, 1) := by decide +kernel
theorem dX5_checkRoomForDays_18 : decode cX5_checkRoomForDays 18 = .ok (.ldc 234, 2) := by decide +kernel
theorem dX5_checkRoomForDays_20 : decode cX5_checkRoomForDays 20 = .ok (.invokespecial 43, 3) := by decide +kernel
theorem dX5_checkRoomForDays_23 : decode cX5_checkRoomForDays 23 = .ok (.athrow, 1) := by decide +kernel
theorem dX5_checkRoomForDays_24 : decode cX5_checkRoomForDays 24 = .ok (.return_, 1) := by decide +kernel
theorem dX5_nextRandom_0 : decode cX5_nextRandom 0 = .ok (.ldc2_w 236, 3) := by decide +kernel
theorem dX5_nextRandom_3 : decode cX5_nextRandom 3 = .ok (.lload_n 0, 1) := by decide +kernel
theorem dX5_nextRandom_4 : decode cX5_nextRandom 4 = .ok (.lmul, 1) := by decide +kernel
theorem dX5_nextRandom_5 : decode cX5_nextRandom 5 = .ok (.ldc2_w 238, 3) := by decide +kernel
theorem dX5_nextRandom_8 : decode cX5_nextRandom 8 = .ok (.ladd, 1) := by decide +kernel
theorem dX5_nextRandom_9 : decode cX5_nextRandom 9 = .ok (.ldc2_w 240, 3) := by decide +kernel
theorem dX5_nextRandom_12 : decode cX5_nextRandom 12 = .ok (.lrem, 1) := by decide +kernel
theorem dX5_nextRandom_13 : decode cX5_nextRandom 13 = .ok (.lreturn, 1) := by decide +kernel
set_option maxRecDepth 20000 in
theorem ggX5_save_X2_copyFrom : GoodIn wsX5_save wsX2_copyFrom := goodIn_r _ [8, 9, 10, 11, 12, 13, 14, 15, 16, 17, 18, 19, 20, 21, 22, 23, 24, 25, 26, 27, 28, 29, 30, 31, 32, 33, 34, 35, 36, 37, 38, 39, 40, 41, 42, 43, 44, 45, 46, 47, 48, 49, 50, 51, 52, 53, 54, 55, 56, 57, 58, 59, 60, 61, 62, 63, 64, 65, 66, 67, 68, 69, 70, 71, 77, 78, 79, 80, 81, 82, 83, 84, 85, 86, 87, 88, 89, 90, 91, 92, 93, 94, 95, 96, 97, 98, 99, 100, 101, 102, 103, 104, 105] (by decide +kernel) (by decide +kernel)
set_option maxRecDepth 20000 in
theorem gX5_save_X2_copyFrom : GoodIn wsX5_save (wsV RX5 212 RX2 yX2_copyFrom wsX2_copyFrom) := goodIn_app (goodIn_of _ (by decide +kernel)) ggX5_save_X2_copyFrom
theorem dX5_save_0 : decode cX5_save 0 = .ok (.aload_n 0, 1) := by decide +kernel
theorem dX5_save_1 : decode cX5_save 1 = .ok (.getfield 207, 3) := by decide +kernel
theorem dX5_save_4 : decode cX5_save 4 = .ok (.iconst 4, 1) := by decide +kernel
theorem dX5_save_5 : decode cX5_save 5 = .ok (.if_icmp .lt 49, 3) := by decide +kernel
theorem dX5_save_8 : decode cX5_save 8 = .ok (.aload_n 0, 1) := by decide +kernel
theorem dX5_save_9 : decode cX5_save 9 = .ok (.getfield 19, 3) := by decide +kernel
theorem dX5_save_12 : decode cX5_save 12 = .ok (.iconst 0, 1) := by decide +kernel
theorem dX5_save_13 : decode cX5_save 13 = .ok (.aaload, 1) := by decide +kernel
theorem dX5_save_14 : decode cX5_save 14 = .ok (.astore_n 1, 1) := by decide +kernel
theorem dX5_save_15 : decode cX5_save 15 = .ok (.iconst 1, 1) := by decide +kernel
theorem dX5_save_16 : decode cX5_save 16 = .ok (.istore_n 2, 1) := by decide +kernel
theorem dX5_save_17 : decode cX5_save 17 = .ok (.iload_n 2, 1) := by decide +kernel
theorem dX5_save_18 : decode cX5_save 18 = .ok (.iconst 4, 1) := by decide +kernel
theorem dX5_save_19 : decode cX5_save 19 = .ok (.if_icmp .ge 23, 3) := by decide +kernel
theorem dX5_save_22 : decode cX5_save 22 = .ok (.aload_n 0, 1) := by decide +kernel
theorem dX5_save_23 : decode cX5_save 23 = .ok (.getfield 19, 3) := by decide +kernel
theorem dX5_save_26 : decode cX5_save 26 = .ok (.iload_n 2, 1) := by decide +kernel
theorem dX5_save_27 : decode cX5_save 27 = .ok (.iconst 1, 1) := by decide +kernel
theorem dX5_save_28 : decode cX5_save 28 = .ok (.isub, 1) := by decide +kernel
theorem dX5_save_29 : decode cX5_save 29 = .ok (.aload_n 0, 1) := by decide +kernel
theorem dX5_save_30 : decode cX5_save 30 = .ok (.getfield 19, 3) := by decide +kernel
theorem dX5_save_33 : decode cX5_save 33 = .ok (.iload_n 2, 1) := by decide +kernel
theorem dX5_save_34 : decode cX5_save 34 = .ok (.aaload, 1) := by decide +kernel
theorem dX5_save_35 : decode cX5_save 35 = .ok (.aastore, 1) := by decide +kernel
theorem dX5_save_36 : decode cX5_save 36 = .ok (.iinc 2 1, 3) := by decide +kernel
theorem dX5_save_39 : decode cX5_save 39 = .ok (.goto (-22), 3) := by decide +kernel
theorem dX5_save_42 : decode cX5_save 42 = .ok (.aload_n 0, 1) := by decide +kernel
theorem dX5_save_43 : decode cX5_save 43 = .ok (.getfield 19, 3) := by decide +kernel
theorem dX5_save_46 : decode cX5_save 46 = .ok (.iconst 3, 1) := by decide +kernel
theorem dX5_save_47 : decode cX5_save 47 = .ok (.aload_n 1, 1) := by decide +kernel
theorem dX5_save_48 : decode cX5_save 48 = .ok (.aastore, 1) := by decide +kernel
theorem dX5_save_49 : decode cX5_save 49 = .ok (.aload_n 0, 1) := by decide +kernel
theorem dX5_save_50 : decode cX5_save 50 = .ok (.iconst 3, 1) := by decide +kernel
theorem dX5_save_51 : decode cX5_save 51 = .ok (.putfield 207, 3) := by decide +kernel
theorem dX5_save_54 : decode cX5_save 54 = .ok (.aload_n 0, 1) := by decide +kernel
theorem dX5_save_55 : decode cX5_save 55 = .ok (.getfield 19, 3) := by decide +kernel
theorem dX5_save_58 : decode cX5_save 58 = .ok (.aload_n 0, 1) := by decide +kernel
theorem dX5_save_59 : decode cX5_save 59 = .ok (.getfield 207, 3) := by decide +kernel
theorem dX5_save_62 : decode cX5_save 62 = .ok (.aaload, 1) := by decide +kernel
theorem dX5_save_63 : decode cX5_save 63 = .ok (.aload_n 0, 1) := by decide +kernel
theorem dX5_save_64 : decode cX5_save 64 = .ok (.getfield 10, 3) := by decide +kernel
theorem dX5_save_67 : decode cX5_save 67 = .ok (.invokevirtual 212, 3) := by decide +kernel
theorem dX5_save_70 : decode cX5_save 70 = .ok (.aload_n 0, 1) := by decide +kernel
theorem dX5_save_71 : decode cX5_save 71 = .ok (.dup, 1) := by decide +kernel
theorem dX5_save_72 : decode cX5_save 72 = .ok (.getfield 207, 3) := by decide +kernel
theorem dX5_save_75 : decode cX5_save 75 = .ok (.iconst 1, 1) := by decide +kernel
theorem dX5_save_76 : decode cX5_save 76 = .ok (.iadd, 1) := by decide +kernel
theorem dX5_save_77 : decode cX5_save 77 = .ok (.putfield 207, 3) := by decide +kernel
theorem dX5_save_80 : decode cX5_save 80 = .ok (.return_, 1) := by decide +kernel
set_option maxRecDepth 20000 in
theorem ggX5_prepareTrial_X2_copyFrom : GoodIn wsX5_prepareTrial wsX2_copyFrom := goodIn_r _ [8, 9, 10, 11, 12, 13, 14, 15, 16, 17, 18, 19, 20, 21, 22, 23, 24, 25, 26, 27, 28, 29, 30, 31, 32, 33, 34, 35, 36, 37, 38, 39, 40, 41, 42, 43, 44, 45, 46, 47, 48, 49, 50, 51, 52, 53, 54, 55, 56, 57, 58, 59, 60, 61, 62, 63, 64, 65, 66, 67, 68, 69, 70, 71, 122, 123, 124, 125, 126, 127, 128, 129, 130, 131, 132, 133, 134, 135, 136, 137, 138, 139, 140, 141, 142, 143, 144, 145, 146, 147, 148, 149, 150] (by decide +kernel) (by decide +kernel)
set_option maxRecDepth 20000 in
theorem gX5_prepareTrial_X2_copyFrom : GoodIn wsX5_prepareTrial (wsV RX5 212 RX2 yX2_copyFrom wsX2_copyFrom) := goodIn_app (goodIn_of _ (by decide +kernel)) ggX5_prepareTrial_X2_copyFrom
set_option maxRecDepth 20000 in
theorem ggX5_prepareTrial_X2_goBack : GoodIn wsX5_prepareTrial wsX2_goBack := goodIn_r _ [75, 24, 26, 27, 28, 15, 16, 17, 76, 45, 46, 32, 47, 38, 39, 77, 78, 79, 51, 80, 53, 54, 81, 69, 70, 58, 71, 62, 63, 122, 123, 124, 125, 126, 127, 128, 129, 130, 131, 132, 133, 134, 135, 136, 137, 138, 139, 140, 141, 142, 143, 144, 145, 146, 147, 148, 149, 150] (by decide +kernel) (by decide +kernel)
set_option maxRecDepth 20000 in
theorem gX5_prepareTrial_X2_goBack : GoodIn wsX5_prepareTrial (wsV RX5 158 RX2 yX2_goBack wsX2_goBack) := goodIn_app (goodIn_of _ (by decide +kernel)) ggX5_prepareTrial_X2_goBack
set_option maxRecDepth 20000 in
theorem ggX5_prepareTrial_X2_collect : GoodIn wsX5_prepareTrial wsX2_collect := goodIn_r _ [85, 19, 15, 16, 86, 87, 88, 7, 89, 27, 13, 90, 91, 92, 32, 93, 38, 94, 95, 96, 97, 34, 35, 98, 99, 100, 101, 36, 102, 103, 104, 105, 106, 107, 108, 109, 37, 110, 111, 112, 39, 113, 114, 115, 116, 25, 122, 123, 124, 125, 126, 127, 128, 129, 130, 131, 132, 133, 134, 135, 136, 137, 138, 139, 140, 141, 142, 143] (by decide +kernel) (by decide +kernel)
set_option maxRecDepth 20000 in
theorem gX5_prepareTrial_X2_collect : GoodIn wsX5_prepareTrial (wsV RX5 148 RX2 yX2_collect wsX2_collect) := goodIn_app (goodIn_of _ (by decide +kernel)) ggX5_prepareTrial_X2_collect
theorem dX5_prepareTrial_0 : decode cX5_prepareTrial 0 = .ok (.aload_n 0, 1) := by decide +kernel
theorem dX5_prepareTrial_1 : decode cX5_prepareTrial 1 = .ok (.getfield 16, 3) := by decide +kernel
theorem dX5_prepareTrial_4 : decode cX5_prepareTrial 4 = .ok (.aload_n 0, 1) := by decide +kernel
theorem dX5_prepareTrial_5 : decode cX5_prepareTrial 5 = .ok (.getfield 10, 3) := by decide +kernel
theorem dX5_prepareTrial_8 : decode cX5_prepareTrial 8 = .ok (.invokevirtual 212, 3) := by decide +kernel
theorem dX5_prepareTrial_11 : decode cX5_prepareTrial 11 = .ok (.aload_n 0, 1) := by decide +kernel
theorem dX5_prepareTrial_12 : decode cX5_prepareTrial 12 = .ok (.getfield 16, 3) := by decide +kernel
theorem dX5_prepareTrial_15 : decode cX5_prepareTrial 15 = .ok (.invokevirtual 158, 3) := by decide +kernel
theorem dX5_prepareTrial_18 : decode cX5_prepareTrial 18 = .ok (.iconst 0, 1) := by decide +kernel
theorem dX5_prepareTrial_19 : decode cX5_prepareTrial 19 = .ok (.istore_n 1, 1) := by decide +kernel
theorem dX5_prepareTrial_20 : decode cX5_prepareTrial 20 = .ok (.iload_n 1, 1) := by decide +kernel
theorem dX5_prepareTrial_21 : decode cX5_prepareTrial 21 = .ok (.aload_n 0, 1) := by decide +kernel
theorem dX5_prepareTrial_22 : decode cX5_prepareTrial 22 = .ok (.getfield 16, 3) := by decide +kernel
theorem dX5_prepareTrial_25 : decode cX5_prepareTrial 25 = .ok (.getfield 127, 3) := by decide +kernel
theorem dX5_prepareTrial_28 : decode cX5_prepareTrial 28 = .ok (.if_icmp .ge 17, 3) := by decide +kernel
theorem dX5_prepareTrial_31 : decode cX5_prepareTrial 31 = .ok (.aload_n 0, 1) := by decide +kernel
theorem dX5_prepareTrial_32 : decode cX5_prepareTrial 32 = .ok (.getfield 16, 3) := by decide +kernel
theorem dX5_prepareTrial_35 : decode cX5_prepareTrial 35 = .ok (.iload_n 1, 1) := by decide +kernel
theorem dX5_prepareTrial_36 : decode cX5_prepareTrial 36 = .ok (.invokevirtual 148, 3) := by decide +kernel
theorem dX5_prepareTrial_39 : decode cX5_prepareTrial 39 = .ok (.iinc 1 1, 3) := by decide +kernel
theorem dX5_prepareTrial_42 : decode cX5_prepareTrial 42 = .ok (.goto (-22), 3) := by decide +kernel
theorem dX5_prepareTrial_45 : decode cX5_prepareTrial 45 = .ok (.return_, 1) := by decide +kernel
theorem dX5_setTrialCapacity_0 : decode cX5_setTrialCapacity 0 = .ok (.aload_n 0, 1) := by decide +kernel
theorem dX5_setTrialCapacity_1 : decode cX5_setTrialCapacity 1 = .ok (.getfield 16, 3) := by decide +kernel
theorem dX5_setTrialCapacity_4 : decode cX5_setTrialCapacity 4 = .ok (.iload_n 1, 1) := by decide +kernel
theorem dX5_setTrialCapacity_5 : decode cX5_setTrialCapacity 5 = .ok (.putfield 86, 3) := by decide +kernel
theorem dX5_setTrialCapacity_8 : decode cX5_setTrialCapacity 8 = .ok (.aload_n 0, 1) := by decide +kernel
theorem dX5_setTrialCapacity_9 : decode cX5_setTrialCapacity 9 = .ok (.getfield 16, 3) := by decide +kernel
theorem dX5_setTrialCapacity_12 : decode cX5_setTrialCapacity 12 = .ok (.aload_n 0, 1) := by decide +kernel
theorem dX5_setTrialCapacity_13 : decode cX5_setTrialCapacity 13 = .ok (.getfield 10, 3) := by decide +kernel
theorem dX5_setTrialCapacity_16 : decode cX5_setTrialCapacity 16 = .ok (.getfield 89, 3) := by decide +kernel
theorem dX5_setTrialCapacity_19 : decode cX5_setTrialCapacity 19 = .ok (.iload_n 1, 1) := by decide +kernel
theorem dX5_setTrialCapacity_20 : decode cX5_setTrialCapacity 20 = .ok (.invokestatic 242, 3) := by decide +kernel
theorem dX5_setTrialCapacity_23 : decode cX5_setTrialCapacity 23 = .ok (.putfield 89, 3) := by decide +kernel
theorem dX5_setTrialCapacity_26 : decode cX5_setTrialCapacity 26 = .ok (.aload_n 0, 1) := by decide +kernel
theorem dX5_setTrialCapacity_27 : decode cX5_setTrialCapacity 27 = .ok (.getfield 16, 3) := by decide +kernel
theorem dX5_setTrialCapacity_30 : decode cX5_setTrialCapacity 30 = .ok (.aload_n 0, 1) := by decide +kernel
theorem dX5_setTrialCapacity_31 : decode cX5_setTrialCapacity 31 = .ok (.getfield 10, 3) := by decide +kernel
theorem dX5_setTrialCapacity_34 : decode cX5_setTrialCapacity 34 = .ok (.getfield 92, 3) := by decide +kernel
theorem dX5_setTrialCapacity_37 : decode cX5_setTrialCapacity 37 = .ok (.iload_n 1, 1) := by decide +kernel
theorem dX5_setTrialCapacity_38 : decode cX5_setTrialCapacity 38 = .ok (.invokestatic 242, 3) := by decide +kernel
theorem dX5_setTrialCapacity_41 : decode cX5_setTrialCapacity 41 = .ok (.putfield 92, 3) := by decide +kernel
theorem dX5_setTrialCapacity_44 : decode cX5_setTrialCapacity 44 = .ok (.return_, 1) := by decide +kernel
