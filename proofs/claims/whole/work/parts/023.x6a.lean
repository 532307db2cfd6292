theorem dX6_init_0 : decode cX6_init 0 = .ok (.aload_n 0, 1) := by decide +kernel
theorem dX6_init_1 : decode cX6_init 1 = .ok (.invokespecial 1, 3) := by decide +kernel
theorem dX6_init_4 : decode cX6_init 4 = .ok (.aload_n 0, 1) := by decide +kernel
theorem dX6_init_5 : decode cX6_init 5 = .ok (.sipush 1163, 3) := by decide +kernel
theorem dX6_init_8 : decode cX6_init 8 = .ok (.newarray .int, 2) := by decide +kernel
theorem dX6_init_10 : decode cX6_init 10 = .ok (.putfield 7, 3) := by decide +kernel
theorem dX6_init_13 : decode cX6_init 13 = .ok (.aload_n 0, 1) := by decide +kernel
theorem dX6_init_14 : decode cX6_init 14 = .ok (.sipush 4652, 3) := by decide +kernel
theorem dX6_init_17 : decode cX6_init 17 = .ok (.newarray .int, 2) := by decide +kernel
theorem dX6_init_19 : decode cX6_init 19 = .ok (.putfield 13, 3) := by decide +kernel
theorem dX6_init_22 : decode cX6_init 22 = .ok (.aload_n 0, 1) := by decide +kernel
theorem dX6_init_23 : decode cX6_init 23 = .ok (.sipush 1163, 3) := by decide +kernel
theorem dX6_init_26 : decode cX6_init 26 = .ok (.newarray .int, 2) := by decide +kernel
theorem dX6_init_28 : decode cX6_init 28 = .ok (.putfield 16, 3) := by decide +kernel
theorem dX6_init_31 : decode cX6_init 31 = .ok (.aload_n 0, 1) := by decide +kernel
theorem dX6_init_32 : decode cX6_init 32 = .ok (.bipush 6, 2) := by decide +kernel
theorem dX6_init_34 : decode cX6_init 34 = .ok (.newarray .long, 2) := by decide +kernel
theorem dX6_init_36 : decode cX6_init 36 = .ok (.putfield 19, 3) := by decide +kernel
theorem dX6_init_39 : decode cX6_init 39 = .ok (.aload_n 0, 1) := by decide +kernel
theorem dX6_init_40 : decode cX6_init 40 = .ok (.bipush 120, 2) := by decide +kernel
theorem dX6_init_42 : decode cX6_init 42 = .ok (.newarray .int, 2) := by decide +kernel
theorem dX6_init_44 : decode cX6_init 44 = .ok (.putfield 23, 3) := by decide +kernel
theorem dX6_init_47 : decode cX6_init 47 = .ok (.aload_n 0, 1) := by decide +kernel
theorem dX6_init_48 : decode cX6_init 48 = .ok (.getfield 7, 3) := by decide +kernel
theorem dX6_init_51 : decode cX6_init 51 = .ok (.iconst 0, 1) := by decide +kernel
theorem dX6_init_52 : decode cX6_init 52 = .ok (.sipush 10000, 3) := by decide +kernel
theorem dX6_init_55 : decode cX6_init 55 = .ok (.iastore, 1) := by decide +kernel
theorem dX6_init_56 : decode cX6_init 56 = .ok (.aload_n 0, 1) := by decide +kernel
theorem dX6_init_57 : decode cX6_init 57 = .ok (.getfield 7, 3) := by decide +kernel
theorem dX6_init_60 : decode cX6_init 60 = .ok (.iconst 4, 1) := by decide +kernel
theorem dX6_init_61 : decode cX6_init 61 = .ok (.iconst 3, 1) := by decide +kernel
theorem dX6_init_62 : decode cX6_init 62 = .ok (.iastore, 1) := by decide +kernel
theorem dX6_init_63 : decode cX6_init 63 = .ok (.return_, 1) := by decide +kernel
theorem dX6_thrown_0 : decode cX6_thrown 0 = .ok (.aload_n 0, 1) := by decide +kernel
theorem dX6_thrown_1 : decode cX6_thrown 1 = .ok (.getfield 26, 3) := by decide +kernel
theorem dX6_thrown_4 : decode cX6_thrown 4 = .ok (.ireturn, 1) := by decide +kernel
theorem dX6_in_0 : decode cX6_in 0 = .ok (.lload_n 0, 1) := by decide +kernel
theorem dX6_in_1 : decode cX6_in 1 = .ok (.lload_n 2, 1) := by decide +kernel
theorem dX6_in_2 : decode cX6_in 2 = .ok (.lcmp, 1) := by decide +kernel
theorem dX6_in_3 : decode cX6_in 3 = .ok (.ifCond .lt 14, 3) := by decide +kernel
theorem dX6_in_6 : decode cX6_in 6 = .ok (.lload_n 0, 1) := by decide +kernel
theorem dX6_in_7 : decode cX6_in 7 = .ok (.lload 4, 2) := by decide +kernel
theorem dX6_in_9 : decode cX6_in 9 = .ok (.lcmp, 1) := by decide +kernel
theorem dX6_in_10 : decode cX6_in 10 = .ok (.ifCond .gt 7, 3) := by decide +kernel
theorem dX6_in_13 : decode cX6_in 13 = .ok (.iconst 1, 1) := by decide +kernel
theorem dX6_in_14 : decode cX6_in 14 = .ok (.goto 4, 3) := by decide +kernel
theorem dX6_in_17 : decode cX6_in 17 = .ok (.iconst 0, 1) := by decide +kernel
theorem dX6_in_18 : decode cX6_in 18 = .ok (.ireturn, 1) := by decide +kernel
theorem dX6_goes_0 : decode cX6_goes 0 = .ok (.aload_n 0, 1) := by decide +kernel
theorem dX6_goes_1 : decode cX6_goes 1 = .ok (.iload_n 1, 1) := by decide +kernel
theorem dX6_goes_2 : decode cX6_goes 2 = .ok (.ifCond .ne 7, 3) := by decide +kernel
theorem dX6_goes_5 : decode cX6_goes 5 = .ok (.iconst 1, 1) := by decide +kernel
theorem dX6_goes_6 : decode cX6_goes 6 = .ok (.goto 12, 3) := by decide +kernel
theorem dX6_goes_9 : decode cX6_goes 9 = .ok (.iload_n 2, 1) := by decide +kernel
theorem dX6_goes_10 : decode cX6_goes 10 = .ok (.ifCond .ne 7, 3) := by decide +kernel
theorem dX6_goes_13 : decode cX6_goes 13 = .ok (.iconst 2, 1) := by decide +kernel
theorem dX6_goes_14 : decode cX6_goes 14 = .ok (.goto 4, 3) := by decide +kernel
theorem dX6_goes_17 : decode cX6_goes 17 = .ok (.iconst 0, 1) := by decide +kernel
theorem dX6_goes_18 : decode cX6_goes 18 = .ok (.putfield 26, 3) := by decide +kernel
theorem dX6_goes_21 : decode cX6_goes 21 = .ok (.aload_n 0, 1) := by decide +kernel
theorem dX6_goes_22 : decode cX6_goes 22 = .ok (.getfield 26, 3) := by decide +kernel
theorem dX6_goes_25 : decode cX6_goes 25 = .ok (.ifCond .ne 7, 3) := by decide +kernel
theorem dX6_goes_28 : decode cX6_goes 28 = .ok (.iconst 1, 1) := by decide +kernel
theorem dX6_goes_29 : decode cX6_goes 29 = .ok (.goto 4, 3) := by decide +kernel
theorem dX6_goes_32 : decode cX6_goes 32 = .ok (.iconst 0, 1) := by decide +kernel
theorem dX6_goes_33 : decode cX6_goes 33 = .ok (.ireturn, 1) := by decide +kernel
theorem dX6_save_0 : decode cX6_save 0 = .ok (.aload_n 0, 1) := by decide +kernel
theorem dX6_save_1 : decode cX6_save 1 = .ok (.getfield 30, 3) := by decide +kernel
theorem dX6_save_4 : decode cX6_save 4 = .ok (.iconst 4, 1) := by decide +kernel
theorem dX6_save_5 : decode cX6_save 5 = .ok (.if_icmp .ne 44, 3) := by decide +kernel
theorem dX6_save_8 : decode cX6_save 8 = .ok (.iconst 0, 1) := by decide +kernel
theorem dX6_save_9 : decode cX6_save 9 = .ok (.istore_n 1, 1) := by decide +kernel
theorem dX6_save_10 : decode cX6_save 10 = .ok (.iload_n 1, 1) := by decide +kernel
theorem dX6_save_11 : decode cX6_save 11 = .ok (.sipush 3489, 3) := by decide +kernel
theorem dX6_save_14 : decode cX6_save 14 = .ok (.if_icmp .ge 25, 3) := by decide +kernel
theorem dX6_save_17 : decode cX6_save 17 = .ok (.aload_n 0, 1) := by decide +kernel
theorem dX6_save_18 : decode cX6_save 18 = .ok (.getfield 13, 3) := by decide +kernel
theorem dX6_save_21 : decode cX6_save 21 = .ok (.iload_n 1, 1) := by decide +kernel
theorem dX6_save_22 : decode cX6_save 22 = .ok (.aload_n 0, 1) := by decide +kernel
theorem dX6_save_23 : decode cX6_save 23 = .ok (.getfield 13, 3) := by decide +kernel
theorem dX6_save_26 : decode cX6_save 26 = .ok (.iload_n 1, 1) := by decide +kernel
theorem dX6_save_27 : decode cX6_save 27 = .ok (.sipush 1163, 3) := by decide +kernel
theorem dX6_save_30 : decode cX6_save 30 = .ok (.iadd, 1) := by decide +kernel
theorem dX6_save_31 : decode cX6_save 31 = .ok (.iaload, 1) := by decide +kernel
theorem dX6_save_32 : decode cX6_save 32 = .ok (.iastore, 1) := by decide +kernel
theorem dX6_save_33 : decode cX6_save 33 = .ok (.iinc 1 1, 3) := by decide +kernel
theorem dX6_save_36 : decode cX6_save 36 = .ok (.goto (-26), 3) := by decide +kernel
theorem dX6_save_39 : decode cX6_save 39 = .ok (.aload_n 0, 1) := by decide +kernel
theorem dX6_save_40 : decode cX6_save 40 = .ok (.dup, 1) := by decide +kernel
theorem dX6_save_41 : decode cX6_save 41 = .ok (.getfield 30, 3) := by decide +kernel
theorem dX6_save_44 : decode cX6_save 44 = .ok (.iconst 1, 1) := by decide +kernel
theorem dX6_save_45 : decode cX6_save 45 = .ok (.isub, 1) := by decide +kernel
theorem dX6_save_46 : decode cX6_save 46 = .ok (.putfield 30, 3) := by decide +kernel
theorem dX6_save_49 : decode cX6_save 49 = .ok (.iconst 0, 1) := by decide +kernel
theorem dX6_save_50 : decode cX6_save 50 = .ok (.istore_n 1, 1) := by decide +kernel
theorem dX6_save_51 : decode cX6_save 51 = .ok (.iload_n 1, 1) := by decide +kernel
theorem dX6_save_52 : decode cX6_save 52 = .ok (.sipush 1163, 3) := by decide +kernel
theorem dX6_save_55 : decode cX6_save 55 = .ok (.if_icmp .ge 30, 3) := by decide +kernel
theorem dX6_save_58 : decode cX6_save 58 = .ok (.aload_n 0, 1) := by decide +kernel
theorem dX6_save_59 : decode cX6_save 59 = .ok (.getfield 13, 3) := by decide +kernel
theorem dX6_save_62 : decode cX6_save 62 = .ok (.sipush 1163, 3) := by decide +kernel
theorem dX6_save_65 : decode cX6_save 65 = .ok (.aload_n 0, 1) := by decide +kernel
theorem dX6_save_66 : decode cX6_save 66 = .ok (.getfield 30, 3) := by decide +kernel
theorem dX6_save_69 : decode cX6_save 69 = .ok (.imul, 1) := by decide +kernel
theorem dX6_save_70 : decode cX6_save 70 = .ok (.iload_n 1, 1) := by decide +kernel
theorem dX6_save_71 : decode cX6_save 71 = .ok (.iadd, 1) := by decide +kernel
theorem dX6_save_72 : decode cX6_save 72 = .ok (.aload_n 0, 1) := by decide +kernel
theorem dX6_save_73 : decode cX6_save 73 = .ok (.getfield 7, 3) := by decide +kernel
theorem dX6_save_76 : decode cX6_save 76 = .ok (.iload_n 1, 1) := by decide +kernel
theorem dX6_save_77 : decode cX6_save 77 = .ok (.iaload, 1) := by decide +kernel
theorem dX6_save_78 : decode cX6_save 78 = .ok (.iastore, 1) := by decide +kernel
theorem dX6_save_79 : decode cX6_save 79 = .ok (.iinc 1 1, 3) := by decide +kernel
theorem dX6_save_82 : decode cX6_save 82 = .ok (.goto (-31), 3) := by decide +kernel
theorem dX6_save_85 : decode cX6_save 85 = .ok (.aload_n 0, 1) := by decide +kernel
theorem dX6_save_86 : decode cX6_save 86 = .ok (.dup, 1) := by decide +kernel
theorem dX6_save_87 : decode cX6_save 87 = .ok (.getfield 30, 3) := by decide +kernel
theorem dX6_save_90 : decode cX6_save 90 = .ok (.iconst 1, 1) := by decide +kernel
theorem dX6_save_91 : decode cX6_save 91 = .ok (.iadd, 1) := by decide +kernel
theorem dX6_save_92 : decode cX6_save 92 = .ok (.putfield 30, 3) := by decide +kernel
theorem dX6_save_95 : decode cX6_save 95 = .ok (.return_, 1) := by decide +kernel
theorem dX6_lays_0 : decode cX6_lays 0 = .ok (.iconst 0, 1) := by decide +kernel
theorem dX6_lays_1 : decode cX6_lays 1 = .ok (.istore_n 1, 1) := by decide +kernel
theorem dX6_lays_2 : decode cX6_lays 2 = .ok (.iload_n 1, 1) := by decide +kernel
theorem dX6_lays_3 : decode cX6_lays 3 = .ok (.sipush 1163, 3) := by decide +kernel
theorem dX6_lays_6 : decode cX6_lays 6 = .ok (.if_icmp .ge 21, 3) := by decide +kernel
theorem dX6_lays_9 : decode cX6_lays 9 = .ok (.aload_n 0, 1) := by decide +kernel
theorem dX6_lays_10 : decode cX6_lays 10 = .ok (.getfield 16, 3) := by decide +kernel
theorem dX6_lays_13 : decode cX6_lays 13 = .ok (.iload_n 1, 1) := by decide +kernel
theorem dX6_lays_14 : decode cX6_lays 14 = .ok (.aload_n 0, 1) := by decide +kernel
theorem dX6_lays_15 : decode cX6_lays 15 = .ok (.getfield 7, 3) := by decide +kernel
theorem dX6_lays_18 : decode cX6_lays 18 = .ok (.iload_n 1, 1) := by decide +kernel
theorem dX6_lays_19 : decode cX6_lays 19 = .ok (.iaload, 1) := by decide +kernel
theorem dX6_lays_20 : decode cX6_lays 20 = .ok (.iastore, 1) := by decide +kernel
theorem dX6_lays_21 : decode cX6_lays 21 = .ok (.iinc 1 1, 3) := by decide +kernel
theorem dX6_lays_24 : decode cX6_lays 24 = .ok (.goto (-22), 3) := by decide +kernel
theorem dX6_lays_27 : decode cX6_lays 27 = .ok (.return_, 1) := by decide +kernel
theorem dX6_takesBack_0 : decode cX6_takesBack 0 = .ok (.iconst 0, 1) := by decide +kernel
theorem dX6_takesBack_1 : decode cX6_takesBack 1 = .ok (.istore_n 1, 1) := by decide +kernel
theorem dX6_takesBack_2 : decode cX6_takesBack 2 = .ok (.iload_n 1, 1) := by decide +kernel
theorem dX6_takesBack_3 : decode cX6_takesBack 3 = .ok (.sipush 1163, 3) := by decide +kernel
theorem dX6_takesBack_6 : decode cX6_takesBack 6 = .ok (.if_icmp .ge 21, 3) := by decide +kernel
theorem dX6_takesBack_9 : decode cX6_takesBack 9 = .ok (.aload_n 0, 1) := by decide +kernel
theorem dX6_takesBack_10 : decode cX6_takesBack 10 = .ok (.getfield 7, 3) := by decide +kernel
theorem dX6_takesBack_13 : decode cX6_takesBack 13 = .ok (.iload_n 1, 1) := by decide +kernel
theorem dX6_takesBack_14 : decode cX6_takesBack 14 = .ok (.aload_n 0, 1) := by decide +kernel
theorem dX6_takesBack_15 : decode cX6_takesBack 15 = .ok (.getfield 16, 3) := by decide +kernel
theorem dX6_takesBack_18 : decode cX6_takesBack 18 = .ok (.iload_n 1, 1) := by decide +kernel
theorem dX6_takesBack_19 : decode cX6_takesBack 19 = .ok (.iaload, 1) := by decide +kernel
theorem dX6_takesBack_20 : decode cX6_takesBack 20 = .ok (.iastore, 1) := by decide +kernel
theorem dX6_takesBack_21 : decode cX6_takesBack 21 = .ok (.iinc 1 1, 3) := by decide +kernel
theorem dX6_takesBack_24 : decode cX6_takesBack 24 = .ok (.goto (-22), 3) := by decide +kernel
theorem dX6_takesBack_27 : decode cX6_takesBack 27 = .ok (.return_, 1) := by decide +kernel
theorem dX6_roofAt_0 : decode cX6_roofAt 0 = .ok (.bipush 13, 2) := by decide +kernel
theorem dX6_roofAt_2 : decode cX6_roofAt 2 = .ok (.iconst 5, 1) := by decide +kernel
theorem dX6_roofAt_3 : decode cX6_roofAt 3 = .ok (.iload_n 0, 1) := by decide +kernel
theorem dX6_roofAt_4 : decode cX6_roofAt 4 = .ok (.imul, 1) := by decide +kernel
theorem dX6_roofAt_5 : decode cX6_roofAt 5 = .ok (.iadd, 1) := by decide +kernel
theorem dX6_roofAt_6 : decode cX6_roofAt 6 = .ok (.iload_n 1, 1) := by decide +kernel
theorem dX6_roofAt_7 : decode cX6_roofAt 7 = .ok (.iadd, 1) := by decide +kernel
theorem dX6_roofAt_8 : decode cX6_roofAt 8 = .ok (.ireturn, 1) := by decide +kernel
set_option maxRecDepth 20000 in
theorem ggX6_ofRoof_X6_roofAt : GoodIn wsX6_ofRoof wsX6_roofAt := goodIn_r _ [5] (by decide +kernel) (by decide +kernel)
set_option maxRecDepth 20000 in
theorem gX6_ofRoof_X6_roofAt : GoodIn wsX6_ofRoof (va_wsS RX6 33 yX6_roofAt wsX6_roofAt) := goodIn_app (goodIn_of _ (by decide +kernel)) ggX6_ofRoof_X6_roofAt
theorem dX6_ofRoof_0 : decode cX6_ofRoof 0 = .ok (.aload_n 0, 1) := by decide +kernel
theorem dX6_ofRoof_1 : decode cX6_ofRoof 1 = .ok (.getfield 7, 3) := by decide +kernel
theorem dX6_ofRoof_4 : decode cX6_ofRoof 4 = .ok (.iload_n 1, 1) := by decide +kernel
theorem dX6_ofRoof_5 : decode cX6_ofRoof 5 = .ok (.iload_n 2, 1) := by decide +kernel
theorem dX6_ofRoof_6 : decode cX6_ofRoof 6 = .ok (.invokestatic 33, 3) := by decide +kernel
theorem dX6_ofRoof_9 : decode cX6_ofRoof 9 = .ok (.iaload, 1) := by decide +kernel
theorem dX6_ofRoof_10 : decode cX6_ofRoof 10 = .ok (.ireturn, 1) := by decide +kernel
theorem dX6_userAt_0 : decode cX6_userAt 0 = .ok (.bipush 43, 2) := by decide +kernel
theorem dX6_userAt_2 : decode cX6_userAt 2 = .ok (.iconst 4, 1) := by decide +kernel
theorem dX6_userAt_3 : decode cX6_userAt 3 = .ok (.iload_n 0, 1) := by decide +kernel
theorem dX6_userAt_4 : decode cX6_userAt 4 = .ok (.imul, 1) := by decide +kernel
theorem dX6_userAt_5 : decode cX6_userAt 5 = .ok (.iadd, 1) := by decide +kernel
theorem dX6_userAt_6 : decode cX6_userAt 6 = .ok (.iload_n 1, 1) := by decide +kernel
theorem dX6_userAt_7 : decode cX6_userAt 7 = .ok (.iadd, 1) := by decide +kernel
theorem dX6_userAt_8 : decode cX6_userAt 8 = .ok (.ireturn, 1) := by decide +kernel
set_option maxRecDepth 20000 in
theorem ggX6_ofUser_X6_userAt : GoodIn wsX6_ofUser wsX6_userAt := goodIn_r _ [5] (by decide +kernel) (by decide +kernel)
set_option maxRecDepth 20000 in
theorem gX6_ofUser_X6_userAt : GoodIn wsX6_ofUser (va_wsS RX6 37 yX6_userAt wsX6_userAt) := goodIn_app (goodIn_of _ (by decide +kernel)) ggX6_ofUser_X6_userAt
theorem dX6_ofUser_0 : decode cX6_ofUser 0 = .ok (.aload_n 0, 1) := by decide +kernel
theorem dX6_ofUser_1 : decode cX6_ofUser 1 = .ok (.getfield 7, 3) := by decide +kernel
theorem dX6_ofUser_4 : decode cX6_ofUser 4 = .ok (.iload_n 1, 1) := by decide +kernel
theorem dX6_ofUser_5 : decode cX6_ofUser 5 = .ok (.iload_n 2, 1) := by decide +kernel
theorem dX6_ofUser_6 : decode cX6_ofUser 6 = .ok (.invokestatic 37, 3) := by decide +kernel
theorem dX6_ofUser_9 : decode cX6_ofUser 9 = .ok (.iaload, 1) := by decide +kernel
theorem dX6_ofUser_10 : decode cX6_ofUser 10 = .ok (.ireturn, 1) := by decide +kernel
set_option maxRecDepth 20000 in
theorem ggX6_isRoof_X6_in : GoodIn wsX6_isRoof wsX6_in := goodIn_r _ [5] (by decide +kernel) (by decide +kernel)
set_option maxRecDepth 20000 in
theorem gX6_isRoof_X6_in : GoodIn wsX6_isRoof (va_wsS RX6 40 yX6_in wsX6_in) := goodIn_app (goodIn_of _ (by decide +kernel)) ggX6_isRoof_X6_in
theorem dX6_isRoof_0 : decode cX6_isRoof 0 = .ok (.iload_n 1, 1) := by decide +kernel
theorem dX6_isRoof_1 : decode cX6_isRoof 1 = .ok (.i2l, 1) := by decide +kernel
theorem dX6_isRoof_2 : decode cX6_isRoof 2 = .ok (.lconst 0, 1) := by decide +kernel
theorem dX6_isRoof_3 : decode cX6_isRoof 3 = .ok (.aload_n 0, 1) := by decide +kernel
theorem dX6_isRoof_4 : decode cX6_isRoof 4 = .ok (.getfield 7, 3) := by decide +kernel
theorem dX6_isRoof_7 : decode cX6_isRoof 7 = .ok (.bipush 6, 2) := by decide +kernel
theorem dX6_isRoof_9 : decode cX6_isRoof 9 = .ok (.iaload, 1) := by decide +kernel
theorem dX6_isRoof_10 : decode cX6_isRoof 10 = .ok (.i2l, 1) := by decide +kernel
theorem dX6_isRoof_11 : decode cX6_isRoof 11 = .ok (.lconst 1, 1) := by decide +kernel
theorem dX6_isRoof_12 : decode cX6_isRoof 12 = .ok (.lsub, 1) := by decide +kernel
theorem dX6_isRoof_13 : decode cX6_isRoof 13 = .ok (.invokestatic 40, 3) := by decide +kernel
theorem dX6_isRoof_16 : decode cX6_isRoof 16 = .ok (.ireturn, 1) := by decide +kernel
set_option maxRecDepth 20000 in
theorem ggX6_isUser_X6_in : GoodIn wsX6_isUser wsX6_in := goodIn_r _ [5] (by decide +kernel) (by decide +kernel)
set_option maxRecDepth 20000 in
theorem gX6_isUser_X6_in : GoodIn wsX6_isUser (va_wsS RX6 40 yX6_in wsX6_in) := goodIn_app (goodIn_of _ (by decide +kernel)) ggX6_isUser_X6_in
theorem dX6_isUser_0 : decode cX6_isUser 0 = .ok (.iload_n 1, 1) := by decide +kernel
theorem dX6_isUser_1 : decode cX6_isUser 1 = .ok (.i2l, 1) := by decide +kernel
theorem dX6_isUser_2 : decode cX6_isUser 2 = .ok (.lconst 0, 1) := by decide +kernel
theorem dX6_isUser_3 : decode cX6_isUser 3 = .ok (.aload_n 0, 1) := by decide +kernel
theorem dX6_isUser_4 : decode cX6_isUser 4 = .ok (.getfield 7, 3) := by decide +kernel
theorem dX6_isUser_7 : decode cX6_isUser 7 = .ok (.bipush 7, 2) := by decide +kernel
theorem dX6_isUser_9 : decode cX6_isUser 9 = .ok (.iaload, 1) := by decide +kernel
theorem dX6_isUser_10 : decode cX6_isUser 10 = .ok (.i2l, 1) := by decide +kernel
theorem dX6_isUser_11 : decode cX6_isUser 11 = .ok (.lconst 1, 1) := by decide +kernel
theorem dX6_isUser_12 : decode cX6_isUser 12 = .ok (.lsub, 1) := by decide +kernel
theorem dX6_isUser_13 : decode cX6_isUser 13 = .ok (.invokestatic 40, 3) := by decide +kernel
theorem dX6_isUser_16 : decode cX6_isUser 16 = .ok (.ireturn, 1) := by decide +kernel
set_option maxRecDepth 20000 in
theorem ggX6_addRoof_X6_in : GoodIn wsX6_addRoof wsX6_in := goodIn_r _ [9] (by decide +kernel) (by decide +kernel)
set_option maxRecDepth 20000 in
theorem gX6_addRoof_X6_in : GoodIn wsX6_addRoof (va_wsS RX6 40 yX6_in wsX6_in) := goodIn_app (goodIn_of _ (by decide +kernel)) ggX6_addRoof_X6_in
set_option maxRecDepth 20000 in
theorem ggX6_addRoof_X6_goes : GoodIn wsX6_addRoof wsX6_goes := goodIn_r _ [13, 14, 24, 25, 26, 27, 28, 29, 30, 31, 32, 33, 34, 35, 36] (by decide +kernel) (by decide +kernel)
set_option maxRecDepth 20000 in
theorem gX6_addRoof_X6_goes : GoodIn wsX6_addRoof (wsV RX6 52 RX6 yX6_goes wsX6_goes) := goodIn_app (goodIn_of _ (by decide +kernel)) ggX6_addRoof_X6_goes
set_option maxRecDepth 20000 in
theorem ggX6_addRoof_X6_save : GoodIn wsX6_addRoof wsX6_save := goodIn_r _ [18, 19, 20, 5, 24, 25, 26, 27, 28, 29, 30, 31, 32, 33, 34, 35, 36] (by decide +kernel) (by decide +kernel)
set_option maxRecDepth 20000 in
theorem gX6_addRoof_X6_save : GoodIn wsX6_addRoof (wsV RX6 56 RX6 yX6_save wsX6_save) := goodIn_app (goodIn_of _ (by decide +kernel)) ggX6_addRoof_X6_save
set_option maxRecDepth 20000 in
theorem ggX6_addRoof_X6_roofAt : GoodIn wsX6_addRoof wsX6_roofAt := goodIn_r _ [23] (by decide +kernel) (by decide +kernel)
set_option maxRecDepth 20000 in
theorem gX6_addRoof_X6_roofAt : GoodIn wsX6_addRoof (va_wsS RX6 33 yX6_roofAt wsX6_roofAt) := goodIn_app (goodIn_of _ (by decide +kernel)) ggX6_addRoof_X6_roofAt
theorem dX6_addRoof_0 : decode cX6_addRoof 0 = .ok (.iload_n 1, 1) := by decide +kernel
theorem dX6_addRoof_1 : decode cX6_addRoof 1 = .ok (.i2l, 1) := by decide +kernel
theorem dX6_addRoof_2 : decode cX6_addRoof 2 = .ok (.lconst 1, 1) := by decide +kernel
theorem dX6_addRoof_3 : decode cX6_addRoof 3 = .ok (.ldc2_w 44, 3) := by decide +kernel
theorem dX6_addRoof_6 : decode cX6_addRoof 6 = .ok (.invokestatic 40, 3) := by decide +kernel
theorem dX6_addRoof_9 : decode cX6_addRoof 9 = .ok (.ifCond .eq 44, 3) := by decide +kernel
theorem dX6_addRoof_12 : decode cX6_addRoof 12 = .ok (.iload_n 2, 1) := by decide +kernel
theorem dX6_addRoof_13 : decode cX6_addRoof 13 = .ok (.i2l, 1) := by decide +kernel
theorem dX6_addRoof_14 : decode cX6_addRoof 14 = .ok (.lconst 1, 1) := by decide +kernel
theorem dX6_addRoof_15 : decode cX6_addRoof 15 = .ok (.ldc2_w 46, 3) := by decide +kernel
theorem dX6_addRoof_18 : decode cX6_addRoof 18 = .ok (.invokestatic 40, 3) := by decide +kernel
theorem dX6_addRoof_21 : decode cX6_addRoof 21 = .ok (.ifCond .eq 32, 3) := by decide +kernel
theorem dX6_addRoof_24 : decode cX6_addRoof 24 = .ok (.iload_n 3, 1) := by decide +kernel
theorem dX6_addRoof_25 : decode cX6_addRoof 25 = .ok (.i2l, 1) := by decide +kernel
theorem dX6_addRoof_26 : decode cX6_addRoof 26 = .ok (.lconst 0, 1) := by decide +kernel
theorem dX6_addRoof_27 : decode cX6_addRoof 27 = .ok (.ldc2_w 48, 3) := by decide +kernel
theorem dX6_addRoof_30 : decode cX6_addRoof 30 = .ok (.invokestatic 40, 3) := by decide +kernel
theorem dX6_addRoof_33 : decode cX6_addRoof 33 = .ok (.ifCond .eq 20, 3) := by decide +kernel
theorem dX6_addRoof_36 : decode cX6_addRoof 36 = .ok (.iload 4, 2) := by decide +kernel
theorem dX6_addRoof_38 : decode cX6_addRoof 38 = .ok (.i2l, 1) := by decide +kernel
theorem dX6_addRoof_39 : decode cX6_addRoof 39 = .ok (.lconst 1, 1) := by decide +kernel
theorem dX6_addRoof_40 : decode cX6_addRoof 40 = .ok (.ldc2_w 50, 3) := by decide +kernel
theorem dX6_addRoof_43 : decode cX6_addRoof 43 = .ok (.invokestatic 40, 3) := by decide +kernel
theorem dX6_addRoof_46 : decode cX6_addRoof 46 = .ok (.ifCond .eq 7, 3) := by decide +kernel
theorem dX6_addRoof_49 : decode cX6_addRoof 49 = .ok (.iconst 1, 1) := by decide +kernel
theorem dX6_addRoof_50 : decode cX6_addRoof 50 = .ok (.goto 4, 3) := by decide +kernel
theorem dX6_addRoof_53 : decode cX6_addRoof 53 = .ok (.iconst 0, 1) := by decide +kernel
theorem dX6_addRoof_54 : decode cX6_addRoof 54 = .ok (.istore 5, 2) := by decide +kernel
theorem dX6_addRoof_56 : decode cX6_addRoof 56 = .ok (.aload_n 0, 1) := by decide +kernel
theorem dX6_addRoof_57 : decode cX6_addRoof 57 = .ok (.iload 5, 2) := by decide +kernel
theorem dX6_addRoof_59 : decode cX6_addRoof 59 = .ok (.aload_n 0, 1) := by decide +kernel
theorem dX6_addRoof_60 : decode cX6_addRoof 60 = .ok (.getfield 7, 3) := by decide +kernel
theorem dX6_addRoof_63 : decode cX6_addRoof 63 = .ok (.bipush 6, 2) := by decide +kernel
theorem dX6_addRoof_65 : decode cX6_addRoof 65 = .ok (.iaload, 1) := by decide +kernel
theorem dX6_addRoof_66 : decode cX6_addRoof 66 = .ok (.bipush 6, 2) := by decide +kernel
theorem dX6_addRoof_68 : decode cX6_addRoof 68 = .ok (.if_icmp .ge 7, 3) := by decide +kernel
theorem dX6_addRoof_71 : decode cX6_addRoof 71 = .ok (.iconst 1, 1) := by decide +kernel
theorem dX6_addRoof_72 : decode cX6_addRoof 72 = .ok (.goto 4, 3) := by decide +kernel
theorem dX6_addRoof_75 : decode cX6_addRoof 75 = .ok (.iconst 0, 1) := by decide +kernel
theorem dX6_addRoof_76 : decode cX6_addRoof 76 = .ok (.invokevirtual 52, 3) := by decide +kernel
theorem dX6_addRoof_79 : decode cX6_addRoof 79 = .ok (.ifCond .ne 5, 3) := by decide +kernel
theorem dX6_addRoof_82 : decode cX6_addRoof 82 = .ok (.iconst 0, 1) := by decide +kernel
theorem dX6_addRoof_83 : decode cX6_addRoof 83 = .ok (.ireturn, 1) := by decide +kernel
theorem dX6_addRoof_84 : decode cX6_addRoof 84 = .ok (.aload_n 0, 1) := by decide +kernel
theorem dX6_addRoof_85 : decode cX6_addRoof 85 = .ok (.invokevirtual 56, 3) := by decide +kernel
theorem dX6_addRoof_88 : decode cX6_addRoof 88 = .ok (.aload_n 0, 1) := by decide +kernel
theorem dX6_addRoof_89 : decode cX6_addRoof 89 = .ok (.getfield 7, 3) := by decide +kernel
theorem dX6_addRoof_92 : decode cX6_addRoof 92 = .ok (.bipush 6, 2) := by decide +kernel
theorem dX6_addRoof_94 : decode cX6_addRoof 94 = .ok (.iaload, 1) := by decide +kernel
theorem dX6_addRoof_95 : decode cX6_addRoof 95 = .ok (.istore 6, 2) := by decide +kernel
theorem dX6_addRoof_97 : decode cX6_addRoof 97 = .ok (.aload_n 0, 1) := by decide +kernel
theorem dX6_addRoof_98 : decode cX6_addRoof 98 = .ok (.getfield 7, 3) := by decide +kernel
theorem dX6_addRoof_101 : decode cX6_addRoof 101 = .ok (.iload 6, 2) := by decide +kernel
theorem dX6_addRoof_103 : decode cX6_addRoof 103 = .ok (.iconst 0, 1) := by decide +kernel
theorem dX6_addRoof_104 : decode cX6_addRoof 104 = .ok (.invokestatic 33, 3) := by decide +kernel
theorem dX6_addRoof_107 : decode cX6_addRoof 107 = .ok (.iload_n 1, 1) := by decide +kernel
theorem dX6_addRoof_108 : decode cX6_addRoof 108 = .ok (.iastore, 1) := by decide +kernel
theorem dX6_addRoof_109 : decode cX6_addRoof 109 = .ok (.aload_n 0, 1) := by decide +kernel
theorem dX6_addRoof_110 : decode cX6_addRoof 110 = .ok (.getfield 7, 3) := by decide +kernel
theorem dX6_addRoof_113 : decode cX6_addRoof 113 = .ok (.iload 6, 2) := by decide +kernel
theorem dX6_addRoof_115 : decode cX6_addRoof 115 = .ok (.iconst 1, 1) := by decide +kernel
theorem dX6_addRoof_116 : decode cX6_addRoof 116 = .ok (.invokestatic 33, 3) := by decide +kernel
theorem dX6_addRoof_119 : decode cX6_addRoof 119 = .ok (.iload_n 2, 1) := by decide +kernel
theorem dX6_addRoof_120 : decode cX6_addRoof 120 = .ok (.iastore, 1) := by decide +kernel
theorem dX6_addRoof_121 : decode cX6_addRoof 121 = .ok (.aload_n 0, 1) := by decide +kernel
theorem dX6_addRoof_122 : decode cX6_addRoof 122 = .ok (.getfield 7, 3) := by decide +kernel
theorem dX6_addRoof_125 : decode cX6_addRoof 125 = .ok (.iload 6, 2) := by decide +kernel
theorem dX6_addRoof_127 : decode cX6_addRoof 127 = .ok (.iconst 2, 1) := by decide +kernel
theorem dX6_addRoof_128 : decode cX6_addRoof 128 = .ok (.invokestatic 33, 3) := by decide +kernel
theorem dX6_addRoof_131 : decode cX6_addRoof 131 = .ok (.iload_n 3, 1) := by decide +kernel
theorem dX6_addRoof_132 : decode cX6_addRoof 132 = .ok (.iastore, 1) := by decide +kernel
theorem dX6_addRoof_133 : decode cX6_addRoof 133 = .ok (.aload_n 0, 1) := by decide +kernel
theorem dX6_addRoof_134 : decode cX6_addRoof 134 = .ok (.getfield 7, 3) := by decide +kernel
theorem dX6_addRoof_137 : decode cX6_addRoof 137 = .ok (.iload 6, 2) := by decide +kernel
theorem dX6_addRoof_139 : decode cX6_addRoof 139 = .ok (.iconst 3, 1) := by decide +kernel
theorem dX6_addRoof_140 : decode cX6_addRoof 140 = .ok (.invokestatic 33, 3) := by decide +kernel
theorem dX6_addRoof_143 : decode cX6_addRoof 143 = .ok (.iload 4, 2) := by decide +kernel
theorem dX6_addRoof_145 : decode cX6_addRoof 145 = .ok (.iastore, 1) := by decide +kernel
theorem dX6_addRoof_146 : decode cX6_addRoof 146 = .ok (.aload_n 0, 1) := by decide +kernel
theorem dX6_addRoof_147 : decode cX6_addRoof 147 = .ok (.getfield 7, 3) := by decide +kernel
theorem dX6_addRoof_150 : decode cX6_addRoof 150 = .ok (.iload 6, 2) := by decide +kernel
theorem dX6_addRoof_152 : decode cX6_addRoof 152 = .ok (.iconst 4, 1) := by decide +kernel
theorem dX6_addRoof_153 : decode cX6_addRoof 153 = .ok (.invokestatic 33, 3) := by decide +kernel
theorem dX6_addRoof_156 : decode cX6_addRoof 156 = .ok (.iconst 0, 1) := by decide +kernel
theorem dX6_addRoof_157 : decode cX6_addRoof 157 = .ok (.iastore, 1) := by decide +kernel
theorem dX6_addRoof_158 : decode cX6_addRoof 158 = .ok (.aload_n 0, 1) := by decide +kernel
theorem dX6_addRoof_159 : decode cX6_addRoof 159 = .ok (.getfield 7, 3) := by decide +kernel
theorem dX6_addRoof_162 : decode cX6_addRoof 162 = .ok (.bipush 6, 2) := by decide +kernel
theorem dX6_addRoof_164 : decode cX6_addRoof 164 = .ok (.dup2, 1) := by decide +kernel
theorem dX6_addRoof_165 : decode cX6_addRoof 165 = .ok (.iaload, 1) := by decide +kernel
theorem dX6_addRoof_166 : decode cX6_addRoof 166 = .ok (.iconst 1, 1) := by decide +kernel
theorem dX6_addRoof_167 : decode cX6_addRoof 167 = .ok (.iadd, 1) := by decide +kernel
theorem dX6_addRoof_168 : decode cX6_addRoof 168 = .ok (.iastore, 1) := by decide +kernel
theorem dX6_addRoof_169 : decode cX6_addRoof 169 = .ok (.iload 6, 2) := by decide +kernel
theorem dX6_addRoof_171 : decode cX6_addRoof 171 = .ok (.ireturn, 1) := by decide +kernel
set_option maxRecDepth 20000 in
theorem ggX6_addUser_X6_in : GoodIn wsX6_addUser wsX6_in := goodIn_r _ [7] (by decide +kernel) (by decide +kernel)
set_option maxRecDepth 20000 in
theorem gX6_addUser_X6_in : GoodIn wsX6_addUser (va_wsS RX6 40 yX6_in wsX6_in) := goodIn_app (goodIn_of _ (by decide +kernel)) ggX6_addUser_X6_in
set_option maxRecDepth 20000 in
theorem ggX6_addUser_X6_goes : GoodIn wsX6_addUser wsX6_goes := goodIn_r _ [11, 12, 22, 23, 24, 25, 26, 27, 28, 29, 30, 31, 32, 33, 34] (by decide +kernel) (by decide +kernel)
set_option maxRecDepth 20000 in
theorem gX6_addUser_X6_goes : GoodIn wsX6_addUser (wsV RX6 52 RX6 yX6_goes wsX6_goes) := goodIn_app (goodIn_of _ (by decide +kernel)) ggX6_addUser_X6_goes
set_option maxRecDepth 20000 in
theorem ggX6_addUser_X6_save : GoodIn wsX6_addUser wsX6_save := goodIn_r _ [16, 17, 18, 3, 22, 23, 24, 25, 26, 27, 28, 29, 30, 31, 32, 33, 34] (by decide +kernel) (by decide +kernel)
set_option maxRecDepth 20000 in
theorem gX6_addUser_X6_save : GoodIn wsX6_addUser (wsV RX6 56 RX6 yX6_save wsX6_save) := goodIn_app (goodIn_of _ (by decide +kernel)) ggX6_addUser_X6_save
set_option maxRecDepth 20000 in
theorem ggX6_addUser_X6_userAt : GoodIn wsX6_addUser wsX6_userAt := goodIn_r _ [21] (by decide +kernel) (by decide +kernel)
set_option maxRecDepth 20000 in
theorem gX6_addUser_X6_userAt : GoodIn wsX6_addUser (va_wsS RX6 37 yX6_userAt wsX6_userAt) := goodIn_app (goodIn_of _ (by decide +kernel)) ggX6_addUser_X6_userAt
theorem dX6_addUser_0 : decode cX6_addUser 0 = .ok (.aload_n 0, 1) := by decide +kernel
theorem dX6_addUser_1 : decode cX6_addUser 1 = .ok (.iload_n 1, 1) := by decide +kernel
theorem dX6_addUser_2 : decode cX6_addUser 2 = .ok (.i2l, 1) := by decide +kernel
theorem dX6_addUser_3 : decode cX6_addUser 3 = .ok (.lconst 0, 1) := by decide +kernel
theorem dX6_addUser_4 : decode cX6_addUser 4 = .ok (.ldc2_w 59, 3) := by decide +kernel
theorem dX6_addUser_7 : decode cX6_addUser 7 = .ok (.invokestatic 40, 3) := by decide +kernel
theorem dX6_addUser_10 : decode cX6_addUser 10 = .ok (.ifCond .eq 19, 3) := by decide +kernel
theorem dX6_addUser_13 : decode cX6_addUser 13 = .ok (.iload_n 2, 1) := by decide +kernel
theorem dX6_addUser_14 : decode cX6_addUser 14 = .ok (.i2l, 1) := by decide +kernel
theorem dX6_addUser_15 : decode cX6_addUser 15 = .ok (.lconst 1, 1) := by decide +kernel
theorem dX6_addUser_16 : decode cX6_addUser 16 = .ok (.ldc2_w 61, 3) := by decide +kernel
theorem dX6_addUser_19 : decode cX6_addUser 19 = .ok (.invokestatic 40, 3) := by decide +kernel
theorem dX6_addUser_22 : decode cX6_addUser 22 = .ok (.ifCond .eq 7, 3) := by decide +kernel
theorem dX6_addUser_25 : decode cX6_addUser 25 = .ok (.iconst 1, 1) := by decide +kernel
theorem dX6_addUser_26 : decode cX6_addUser 26 = .ok (.goto 4, 3) := by decide +kernel
theorem dX6_addUser_29 : decode cX6_addUser 29 = .ok (.iconst 0, 1) := by decide +kernel
theorem dX6_addUser_30 : decode cX6_addUser 30 = .ok (.aload_n 0, 1) := by decide +kernel
theorem dX6_addUser_31 : decode cX6_addUser 31 = .ok (.getfield 7, 3) := by decide +kernel
theorem dX6_addUser_34 : decode cX6_addUser 34 = .ok (.bipush 7, 2) := by decide +kernel
theorem dX6_addUser_36 : decode cX6_addUser 36 = .ok (.iaload, 1) := by decide +kernel
theorem dX6_addUser_37 : decode cX6_addUser 37 = .ok (.iconst 5, 1) := by decide +kernel
theorem dX6_addUser_38 : decode cX6_addUser 38 = .ok (.if_icmp .ge 7, 3) := by decide +kernel
theorem dX6_addUser_41 : decode cX6_addUser 41 = .ok (.iconst 1, 1) := by decide +kernel
theorem dX6_addUser_42 : decode cX6_addUser 42 = .ok (.goto 4, 3) := by decide +kernel
theorem dX6_addUser_45 : decode cX6_addUser 45 = .ok (.iconst 0, 1) := by decide +kernel
theorem dX6_addUser_46 : decode cX6_addUser 46 = .ok (.invokevirtual 52, 3) := by decide +kernel
theorem dX6_addUser_49 : decode cX6_addUser 49 = .ok (.ifCond .ne 5, 3) := by decide +kernel
theorem dX6_addUser_52 : decode cX6_addUser 52 = .ok (.iconst 0, 1) := by decide +kernel
theorem dX6_addUser_53 : decode cX6_addUser 53 = .ok (.ireturn, 1) := by decide +kernel
theorem dX6_addUser_54 : decode cX6_addUser 54 = .ok (.aload_n 0, 1) := by decide +kernel
theorem dX6_addUser_55 : decode cX6_addUser 55 = .ok (.invokevirtual 56, 3) := by decide +kernel
theorem dX6_addUser_58 : decode cX6_addUser 58 = .ok (.aload_n 0, 1) := by decide +kernel
theorem dX6_addUser_59 : decode cX6_addUser 59 = .ok (.getfield 7, 3) := by decide +kernel
theorem dX6_addUser_62 : decode cX6_addUser 62 = .ok (.bipush 7, 2) := by decide +kernel
theorem dX6_addUser_64 : decode cX6_addUser 64 = .ok (.iaload, 1) := by decide +kernel
theorem dX6_addUser_65 : decode cX6_addUser 65 = .ok (.istore_n 3, 1) := by decide +kernel
theorem dX6_addUser_66 : decode cX6_addUser 66 = .ok (.aload_n 0, 1) := by decide +kernel
theorem dX6_addUser_67 : decode cX6_addUser 67 = .ok (.getfield 7, 3) := by decide +kernel
theorem dX6_addUser_70 : decode cX6_addUser 70 = .ok (.iload_n 3, 1) := by decide +kernel
theorem dX6_addUser_71 : decode cX6_addUser 71 = .ok (.iconst 0, 1) := by decide +kernel
theorem dX6_addUser_72 : decode cX6_addUser 72 = .ok (.invokestatic 37, 3) := by decide +kernel
theorem dX6_addUser_75 : decode cX6_addUser 75 = .ok (.iload_n 1, 1) := by decide +kernel
theorem dX6_addUser_76 : decode cX6_addUser 76 = .ok (.iastore, 1) := by decide +kernel
theorem dX6_addUser_77 : decode cX6_addUser 77 = .ok (.aload_n 0, 1) := by decide +kernel
theorem dX6_addUser_78 : decode cX6_addUser 78 = .ok (.getfield 7, 3) := by decide +kernel
theorem dX6_addUser_81 : decode cX6_addUser 81 = .ok (.iload_n 3, 1) := by decide +kernel
theorem dX6_addUser_82 : decode cX6_addUser 82 = .ok (.iconst 1, 1) := by decide +kernel
theorem dX6_addUser_83 : decode cX6_addUser 83 = .ok (.invokestatic 37, 3) := by decide +kernel
theorem dX6_addUser_86 : decode cX6_addUser 86 = .ok (.iload_n 2, 1) := by decide +kernel
theorem dX6_addUser_87 : decode cX6_addUser 87 = .ok (.iastore, 1) := by decide +kernel
theorem dX6_addUser_88 : decode cX6_addUser 88 = .ok (.aload_n 0, 1) := by decide +kernel
theorem dX6_addUser_89 : decode cX6_addUser 89 = .ok (.getfield 7, 3) := by decide +kernel
theorem dX6_addUser_92 : decode cX6_addUser 92 = .ok (.iload_n 3, 1) := by decide +kernel
theorem dX6_addUser_93 : decode cX6_addUser 93 = .ok (.iconst 2, 1) := by decide +kernel
theorem dX6_addUser_94 : decode cX6_addUser 94 = .ok (.invokestatic 37, 3) := by decide +kernel
theorem dX6_addUser_97 : decode cX6_addUser 97 = .ok (.iconst 0, 1) := by decide +kernel
theorem dX6_addUser_98 : decode cX6_addUser 98 = .ok (.iastore, 1) := by decide +kernel
theorem dX6_addUser_99 : decode cX6_addUser 99 = .ok (.aload_n 0, 1) := by decide +kernel
theorem dX6_addUser_100 : decode cX6_addUser 100 = .ok (.getfield 7, 3) := by decide +kernel
theorem dX6_addUser_103 : decode cX6_addUser 103 = .ok (.iload_n 3, 1) := by decide +kernel
theorem dX6_addUser_104 : decode cX6_addUser 104 = .ok (.iconst 3, 1) := by decide +kernel
theorem dX6_addUser_105 : decode cX6_addUser 105 = .ok (.invokestatic 37, 3) := by decide +kernel
theorem dX6_addUser_108 : decode cX6_addUser 108 = .ok (.iconst 0, 1) := by decide +kernel
theorem dX6_addUser_109 : decode cX6_addUser 109 = .ok (.iastore, 1) := by decide +kernel
theorem dX6_addUser_110 : decode cX6_addUser 110 = .ok (.aload_n 0, 1) := by decide +kernel
theorem dX6_addUser_111 : decode cX6_addUser 111 = .ok (.getfield 7, 3) := by decide +kernel
theorem dX6_addUser_114 : decode cX6_addUser 114 = .ok (.bipush 7, 2) := by decide +kernel
theorem dX6_addUser_116 : decode cX6_addUser 116 = .ok (.dup2, 1) := by decide +kernel
theorem dX6_addUser_117 : decode cX6_addUser 117 = .ok (.iaload, 1) := by decide +kernel
theorem dX6_addUser_118 : decode cX6_addUser 118 = .ok (.iconst 1, 1) := by decide +kernel
theorem dX6_addUser_119 : decode cX6_addUser 119 = .ok (.iadd, 1) := by decide +kernel
theorem dX6_addUser_120 : decode cX6_addUser 120 = .ok (.iastore, 1) := by decide +kernel
theorem dX6_addUser_121 : decode cX6_addUser 121 = .ok (.iload_n 3, 1) := by decide +kernel
theorem dX6_addUser_122 : decode cX6_addUser 122 = .ok (.ireturn, 1) := by decide +kernel
set_option maxRecDepth 20000 in
theorem ggX6_setDemand_X6_isUser : GoodIn wsX6_setDemand wsX6_isUser := goodIn_r _ [7, 2, 8, 9, 6, 10, 29, 30, 31, 32, 33, 34, 35, 36, 37, 38, 39, 40, 41] (by decide +kernel) (by decide +kernel)
set_option maxRecDepth 20000 in
theorem gX6_setDemand_X6_isUser : GoodIn wsX6_setDemand (wsV RX6 63 RX6 yX6_isUser wsX6_isUser) := goodIn_app (goodIn_of _ (by decide +kernel)) ggX6_setDemand_X6_isUser
set_option maxRecDepth 20000 in
theorem ggX6_setDemand_X6_in : GoodIn wsX6_setDemand wsX6_in := goodIn_r _ [10] (by decide +kernel) (by decide +kernel)
set_option maxRecDepth 20000 in
theorem gX6_setDemand_X6_in : GoodIn wsX6_setDemand (va_wsS RX6 40 yX6_in wsX6_in) := goodIn_app (goodIn_of _ (by decide +kernel)) ggX6_setDemand_X6_in
set_option maxRecDepth 20000 in
theorem ggX6_setDemand_X6_goes : GoodIn wsX6_setDemand wsX6_goes := goodIn_r _ [14, 15, 29, 30, 31, 32, 33, 34, 35, 36, 37, 38, 39, 40, 41] (by decide +kernel) (by decide +kernel)
set_option maxRecDepth 20000 in
theorem gX6_setDemand_X6_goes : GoodIn wsX6_setDemand (wsV RX6 52 RX6 yX6_goes wsX6_goes) := goodIn_app (goodIn_of _ (by decide +kernel)) ggX6_setDemand_X6_goes
set_option maxRecDepth 20000 in
theorem ggX6_setDemand_X6_save : GoodIn wsX6_setDemand wsX6_save := goodIn_r _ [19, 20, 21, 2, 29, 30, 31, 32, 33, 34, 35, 36, 37, 38, 39, 40, 41] (by decide +kernel) (by decide +kernel)
set_option maxRecDepth 20000 in
theorem gX6_setDemand_X6_save : GoodIn wsX6_setDemand (wsV RX6 56 RX6 yX6_save wsX6_save) := goodIn_app (goodIn_of _ (by decide +kernel)) ggX6_setDemand_X6_save
set_option maxRecDepth 20000 in
theorem ggX6_setDemand_X6_ofUser : GoodIn wsX6_setDemand wsX6_ofUser := goodIn_r _ [25, 2, 26, 27, 6, 28, 29, 30, 31, 32, 33, 34, 35, 36, 37, 38, 39, 40, 41] (by decide +kernel) (by decide +kernel)
set_option maxRecDepth 20000 in
theorem gX6_setDemand_X6_ofUser : GoodIn wsX6_setDemand (wsV RX6 67 RX6 yX6_ofUser wsX6_ofUser) := goodIn_app (goodIn_of _ (by decide +kernel)) ggX6_setDemand_X6_ofUser
set_option maxRecDepth 20000 in
theorem ggX6_setDemand_X6_userAt : GoodIn wsX6_setDemand wsX6_userAt := goodIn_r _ [28] (by decide +kernel) (by decide +kernel)
set_option maxRecDepth 20000 in
theorem gX6_setDemand_X6_userAt : GoodIn wsX6_setDemand (va_wsS RX6 37 yX6_userAt wsX6_userAt) := goodIn_app (goodIn_of _ (by decide +kernel)) ggX6_setDemand_X6_userAt
theorem dX6_setDemand_0 : decode cX6_setDemand 0 = .ok (.aload_n 0, 1) := by decide +kernel
theorem dX6_setDemand_1 : decode cX6_setDemand 1 = .ok (.aload_n 0, 1) := by decide +kernel
theorem dX6_setDemand_2 : decode cX6_setDemand 2 = .ok (.iload_n 1, 1) := by decide +kernel
theorem dX6_setDemand_3 : decode cX6_setDemand 3 = .ok (.invokevirtual 63, 3) := by decide +kernel
theorem dX6_setDemand_6 : decode cX6_setDemand 6 = .ok (.iload_n 2, 1) := by decide +kernel
theorem dX6_setDemand_7 : decode cX6_setDemand 7 = .ok (.i2l, 1) := by decide +kernel
theorem dX6_setDemand_8 : decode cX6_setDemand 8 = .ok (.lconst 0, 1) := by decide +kernel
theorem dX6_setDemand_9 : decode cX6_setDemand 9 = .ok (.ldc2_w 59, 3) := by decide +kernel
theorem dX6_setDemand_12 : decode cX6_setDemand 12 = .ok (.invokestatic 40, 3) := by decide +kernel
theorem dX6_setDemand_15 : decode cX6_setDemand 15 = .ok (.invokevirtual 52, 3) := by decide +kernel
theorem dX6_setDemand_18 : decode cX6_setDemand 18 = .ok (.ifCond .ne 5, 3) := by decide +kernel
theorem dX6_setDemand_21 : decode cX6_setDemand 21 = .ok (.iconst 0, 1) := by decide +kernel
theorem dX6_setDemand_22 : decode cX6_setDemand 22 = .ok (.ireturn, 1) := by decide +kernel
theorem dX6_setDemand_23 : decode cX6_setDemand 23 = .ok (.aload_n 0, 1) := by decide +kernel
theorem dX6_setDemand_24 : decode cX6_setDemand 24 = .ok (.invokevirtual 56, 3) := by decide +kernel
theorem dX6_setDemand_27 : decode cX6_setDemand 27 = .ok (.aload_n 0, 1) := by decide +kernel
theorem dX6_setDemand_28 : decode cX6_setDemand 28 = .ok (.iload_n 1, 1) := by decide +kernel
theorem dX6_setDemand_29 : decode cX6_setDemand 29 = .ok (.iconst 0, 1) := by decide +kernel
theorem dX6_setDemand_30 : decode cX6_setDemand 30 = .ok (.invokevirtual 67, 3) := by decide +kernel
theorem dX6_setDemand_33 : decode cX6_setDemand 33 = .ok (.istore_n 3, 1) := by decide +kernel
theorem dX6_setDemand_34 : decode cX6_setDemand 34 = .ok (.aload_n 0, 1) := by decide +kernel
theorem dX6_setDemand_35 : decode cX6_setDemand 35 = .ok (.getfield 7, 3) := by decide +kernel
theorem dX6_setDemand_38 : decode cX6_setDemand 38 = .ok (.iload_n 1, 1) := by decide +kernel
theorem dX6_setDemand_39 : decode cX6_setDemand 39 = .ok (.iconst 0, 1) := by decide +kernel
theorem dX6_setDemand_40 : decode cX6_setDemand 40 = .ok (.invokestatic 37, 3) := by decide +kernel
theorem dX6_setDemand_43 : decode cX6_setDemand 43 = .ok (.iload_n 2, 1) := by decide +kernel
theorem dX6_setDemand_44 : decode cX6_setDemand 44 = .ok (.iastore, 1) := by decide +kernel
theorem dX6_setDemand_45 : decode cX6_setDemand 45 = .ok (.iload_n 3, 1) := by decide +kernel
theorem dX6_setDemand_46 : decode cX6_setDemand 46 = .ok (.ireturn, 1) := by decide +kernel
set_option maxRecDepth 20000 in
theorem ggX6_setReservoir_X6_in : GoodIn wsX6_setReservoir wsX6_in := goodIn_r _ [7] (by decide +kernel) (by decide +kernel)
set_option maxRecDepth 20000 in
theorem gX6_setReservoir_X6_in : GoodIn wsX6_setReservoir (va_wsS RX6 40 yX6_in wsX6_in) := goodIn_app (goodIn_of _ (by decide +kernel)) ggX6_setReservoir_X6_in
set_option maxRecDepth 20000 in
theorem ggX6_setReservoir_X6_goes : GoodIn wsX6_setReservoir wsX6_goes := goodIn_r _ [11, 12, 19, 20, 21, 22, 23, 24, 25, 26, 27, 28, 29, 30, 31] (by decide +kernel) (by decide +kernel)
set_option maxRecDepth 20000 in
theorem gX6_setReservoir_X6_goes : GoodIn wsX6_setReservoir (wsV RX6 52 RX6 yX6_goes wsX6_goes) := goodIn_app (goodIn_of _ (by decide +kernel)) ggX6_setReservoir_X6_goes
set_option maxRecDepth 20000 in
theorem ggX6_setReservoir_X6_save : GoodIn wsX6_setReservoir wsX6_save := goodIn_r _ [16, 17, 18, 3, 19, 20, 21, 22, 23, 24, 25, 26, 27, 28, 29, 30, 31] (by decide +kernel) (by decide +kernel)
set_option maxRecDepth 20000 in
theorem gX6_setReservoir_X6_save : GoodIn wsX6_setReservoir (wsV RX6 56 RX6 yX6_save wsX6_save) := goodIn_app (goodIn_of _ (by decide +kernel)) ggX6_setReservoir_X6_save
theorem dX6_setReservoir_0 : decode cX6_setReservoir 0 = .ok (.aload_n 0, 1) := by decide +kernel
theorem dX6_setReservoir_1 : decode cX6_setReservoir 1 = .ok (.iload_n 1, 1) := by decide +kernel
theorem dX6_setReservoir_2 : decode cX6_setReservoir 2 = .ok (.i2l, 1) := by decide +kernel
theorem dX6_setReservoir_3 : decode cX6_setReservoir 3 = .ok (.ldc2_w 46, 3) := by decide +kernel
theorem dX6_setReservoir_6 : decode cX6_setReservoir 6 = .ok (.ldc2_w 70, 3) := by decide +kernel
theorem dX6_setReservoir_9 : decode cX6_setReservoir 9 = .ok (.invokestatic 40, 3) := by decide +kernel
theorem dX6_setReservoir_12 : decode cX6_setReservoir 12 = .ok (.ifCond .eq 29, 3) := by decide +kernel
theorem dX6_setReservoir_15 : decode cX6_setReservoir 15 = .ok (.iload_n 2, 1) := by decide +kernel
theorem dX6_setReservoir_16 : decode cX6_setReservoir 16 = .ok (.i2l, 1) := by decide +kernel
theorem dX6_setReservoir_17 : decode cX6_setReservoir 17 = .ok (.lconst 0, 1) := by decide +kernel
theorem dX6_setReservoir_18 : decode cX6_setReservoir 18 = .ok (.iload_n 1, 1) := by decide +kernel
theorem dX6_setReservoir_19 : decode cX6_setReservoir 19 = .ok (.i2l, 1) := by decide +kernel
theorem dX6_setReservoir_20 : decode cX6_setReservoir 20 = .ok (.invokestatic 40, 3) := by decide +kernel
theorem dX6_setReservoir_23 : decode cX6_setReservoir 23 = .ok (.ifCond .eq 18, 3) := by decide +kernel
theorem dX6_setReservoir_26 : decode cX6_setReservoir 26 = .ok (.iload_n 3, 1) := by decide +kernel
theorem dX6_setReservoir_27 : decode cX6_setReservoir 27 = .ok (.i2l, 1) := by decide +kernel
theorem dX6_setReservoir_28 : decode cX6_setReservoir 28 = .ok (.lconst 0, 1) := by decide +kernel
theorem dX6_setReservoir_29 : decode cX6_setReservoir 29 = .ok (.iload_n 1, 1) := by decide +kernel
theorem dX6_setReservoir_30 : decode cX6_setReservoir 30 = .ok (.i2l, 1) := by decide +kernel
theorem dX6_setReservoir_31 : decode cX6_setReservoir 31 = .ok (.invokestatic 40, 3) := by decide +kernel
theorem dX6_setReservoir_34 : decode cX6_setReservoir 34 = .ok (.ifCond .eq 7, 3) := by decide +kernel
theorem dX6_setReservoir_37 : decode cX6_setReservoir 37 = .ok (.iconst 1, 1) := by decide +kernel
theorem dX6_setReservoir_38 : decode cX6_setReservoir 38 = .ok (.goto 4, 3) := by decide +kernel
theorem dX6_setReservoir_41 : decode cX6_setReservoir 41 = .ok (.iconst 0, 1) := by decide +kernel
theorem dX6_setReservoir_42 : decode cX6_setReservoir 42 = .ok (.iconst 1, 1) := by decide +kernel
theorem dX6_setReservoir_43 : decode cX6_setReservoir 43 = .ok (.invokevirtual 52, 3) := by decide +kernel
theorem dX6_setReservoir_46 : decode cX6_setReservoir 46 = .ok (.ifCond .ne 5, 3) := by decide +kernel
theorem dX6_setReservoir_49 : decode cX6_setReservoir 49 = .ok (.iconst 0, 1) := by decide +kernel
theorem dX6_setReservoir_50 : decode cX6_setReservoir 50 = .ok (.ireturn, 1) := by decide +kernel
theorem dX6_setReservoir_51 : decode cX6_setReservoir 51 = .ok (.aload_n 0, 1) := by decide +kernel
theorem dX6_setReservoir_52 : decode cX6_setReservoir 52 = .ok (.invokevirtual 56, 3) := by decide +kernel
theorem dX6_setReservoir_55 : decode cX6_setReservoir 55 = .ok (.aload_n 0, 1) := by decide +kernel
theorem dX6_setReservoir_56 : decode cX6_setReservoir 56 = .ok (.getfield 7, 3) := by decide +kernel
theorem dX6_setReservoir_59 : decode cX6_setReservoir 59 = .ok (.iconst 0, 1) := by decide +kernel
theorem dX6_setReservoir_60 : decode cX6_setReservoir 60 = .ok (.iaload, 1) := by decide +kernel
theorem dX6_setReservoir_61 : decode cX6_setReservoir 61 = .ok (.istore 4, 2) := by decide +kernel
theorem dX6_setReservoir_63 : decode cX6_setReservoir 63 = .ok (.aload_n 0, 1) := by decide +kernel
theorem dX6_setReservoir_64 : decode cX6_setReservoir 64 = .ok (.getfield 7, 3) := by decide +kernel
theorem dX6_setReservoir_67 : decode cX6_setReservoir 67 = .ok (.iconst 0, 1) := by decide +kernel
theorem dX6_setReservoir_68 : decode cX6_setReservoir 68 = .ok (.iload_n 1, 1) := by decide +kernel
theorem dX6_setReservoir_69 : decode cX6_setReservoir 69 = .ok (.iastore, 1) := by decide +kernel
theorem dX6_setReservoir_70 : decode cX6_setReservoir 70 = .ok (.aload_n 0, 1) := by decide +kernel
theorem dX6_setReservoir_71 : decode cX6_setReservoir 71 = .ok (.getfield 7, 3) := by decide +kernel
theorem dX6_setReservoir_74 : decode cX6_setReservoir 74 = .ok (.iconst 1, 1) := by decide +kernel
theorem dX6_setReservoir_75 : decode cX6_setReservoir 75 = .ok (.iload_n 2, 1) := by decide +kernel
theorem dX6_setReservoir_76 : decode cX6_setReservoir 76 = .ok (.iastore, 1) := by decide +kernel
theorem dX6_setReservoir_77 : decode cX6_setReservoir 77 = .ok (.aload_n 0, 1) := by decide +kernel
theorem dX6_setReservoir_78 : decode cX6_setReservoir 78 = .ok (.getfield 7, 3) := by decide +kernel
theorem dX6_setReservoir_81 : decode cX6_setReservoir 81 = .ok (.iconst 2, 1) := by decide +kernel
theorem dX6_setReservoir_82 : decode cX6_setReservoir 82 = .ok (.iload_n 3, 1) := by decide +kernel
theorem dX6_setReservoir_83 : decode cX6_setReservoir 83 = .ok (.iastore, 1) := by decide +kernel
theorem dX6_setReservoir_84 : decode cX6_setReservoir 84 = .ok (.aload_n 0, 1) := by decide +kernel
theorem dX6_setReservoir_85 : decode cX6_setReservoir 85 = .ok (.getfield 7, 3) := by decide +kernel
theorem dX6_setReservoir_88 : decode cX6_setReservoir 88 = .ok (.bipush 10, 2) := by decide +kernel
theorem dX6_setReservoir_90 : decode cX6_setReservoir 90 = .ok (.iaload, 1) := by decide +kernel
theorem dX6_setReservoir_91 : decode cX6_setReservoir 91 = .ok (.iload_n 1, 1) := by decide +kernel
theorem dX6_setReservoir_92 : decode cX6_setReservoir 92 = .ok (.if_icmp .le 30, 3) := by decide +kernel
theorem dX6_setReservoir_95 : decode cX6_setReservoir 95 = .ok (.aload_n 0, 1) := by decide +kernel
theorem dX6_setReservoir_96 : decode cX6_setReservoir 96 = .ok (.getfield 7, 3) := by decide +kernel
theorem dX6_setReservoir_99 : decode cX6_setReservoir 99 = .ok (.bipush 12, 2) := by decide +kernel
theorem dX6_setReservoir_101 : decode cX6_setReservoir 101 = .ok (.dup2, 1) := by decide +kernel
theorem dX6_setReservoir_102 : decode cX6_setReservoir 102 = .ok (.iaload, 1) := by decide +kernel
theorem dX6_setReservoir_103 : decode cX6_setReservoir 103 = .ok (.aload_n 0, 1) := by decide +kernel
theorem dX6_setReservoir_104 : decode cX6_setReservoir 104 = .ok (.getfield 7, 3) := by decide +kernel
theorem dX6_setReservoir_107 : decode cX6_setReservoir 107 = .ok (.bipush 10, 2) := by decide +kernel
theorem dX6_setReservoir_109 : decode cX6_setReservoir 109 = .ok (.iaload, 1) := by decide +kernel
theorem dX6_setReservoir_110 : decode cX6_setReservoir 110 = .ok (.iload_n 1, 1) := by decide +kernel
theorem dX6_setReservoir_111 : decode cX6_setReservoir 111 = .ok (.isub, 1) := by decide +kernel
theorem dX6_setReservoir_112 : decode cX6_setReservoir 112 = .ok (.iadd, 1) := by decide +kernel
theorem dX6_setReservoir_113 : decode cX6_setReservoir 113 = .ok (.iastore, 1) := by decide +kernel
theorem dX6_setReservoir_114 : decode cX6_setReservoir 114 = .ok (.aload_n 0, 1) := by decide +kernel
theorem dX6_setReservoir_115 : decode cX6_setReservoir 115 = .ok (.getfield 7, 3) := by decide +kernel
theorem dX6_setReservoir_118 : decode cX6_setReservoir 118 = .ok (.bipush 10, 2) := by decide +kernel
theorem dX6_setReservoir_120 : decode cX6_setReservoir 120 = .ok (.iload_n 1, 1) := by decide +kernel
theorem dX6_setReservoir_121 : decode cX6_setReservoir 121 = .ok (.iastore, 1) := by decide +kernel
theorem dX6_setReservoir_122 : decode cX6_setReservoir 122 = .ok (.iload 4, 2) := by decide +kernel
theorem dX6_setReservoir_124 : decode cX6_setReservoir 124 = .ok (.ireturn, 1) := by decide +kernel
set_option maxRecDepth 20000 in
theorem ggX6_setWays_X6_in : GoodIn wsX6_setWays wsX6_in := goodIn_r _ [8] (by decide +kernel) (by decide +kernel)
set_option maxRecDepth 20000 in
theorem gX6_setWays_X6_in : GoodIn wsX6_setWays (va_wsS RX6 40 yX6_in wsX6_in) := goodIn_app (goodIn_of _ (by decide +kernel)) ggX6_setWays_X6_in
set_option maxRecDepth 20000 in
theorem ggX6_setWays_X6_goes : GoodIn wsX6_setWays wsX6_goes := goodIn_r _ [12, 13, 20, 21, 22, 23, 24, 25, 26, 27, 28, 29, 30, 31, 32] (by decide +kernel) (by decide +kernel)
set_option maxRecDepth 20000 in
theorem gX6_setWays_X6_goes : GoodIn wsX6_setWays (wsV RX6 52 RX6 yX6_goes wsX6_goes) := goodIn_app (goodIn_of _ (by decide +kernel)) ggX6_setWays_X6_goes
set_option maxRecDepth 20000 in
theorem ggX6_setWays_X6_save : GoodIn wsX6_setWays wsX6_save := goodIn_r _ [17, 18, 19, 4, 20, 21, 22, 23, 24, 25, 26, 27, 28, 29, 30, 31, 32] (by decide +kernel) (by decide +kernel)
set_option maxRecDepth 20000 in
theorem gX6_setWays_X6_save : GoodIn wsX6_setWays (wsV RX6 56 RX6 yX6_save wsX6_save) := goodIn_app (goodIn_of _ (by decide +kernel)) ggX6_setWays_X6_save
theorem dX6_setWays_0 : decode cX6_setWays 0 = .ok (.aload_n 0, 1) := by decide +kernel
theorem dX6_setWays_1 : decode cX6_setWays 1 = .ok (.iload_n 1, 1) := by decide +kernel
theorem dX6_setWays_2 : decode cX6_setWays 2 = .ok (.i2l, 1) := by decide +kernel
theorem dX6_setWays_3 : decode cX6_setWays 3 = .ok (.lconst 0, 1) := by decide +kernel
theorem dX6_setWays_4 : decode cX6_setWays 4 = .ok (.ldc2_w 46, 3) := by decide +kernel
theorem dX6_setWays_7 : decode cX6_setWays 7 = .ok (.invokestatic 40, 3) := by decide +kernel
theorem dX6_setWays_10 : decode cX6_setWays 10 = .ok (.ifCond .eq 31, 3) := by decide +kernel
theorem dX6_setWays_13 : decode cX6_setWays 13 = .ok (.iload_n 2, 1) := by decide +kernel
theorem dX6_setWays_14 : decode cX6_setWays 14 = .ok (.i2l, 1) := by decide +kernel
theorem dX6_setWays_15 : decode cX6_setWays 15 = .ok (.lconst 1, 1) := by decide +kernel
theorem dX6_setWays_16 : decode cX6_setWays 16 = .ok (.ldc2_w 72, 3) := by decide +kernel
theorem dX6_setWays_19 : decode cX6_setWays 19 = .ok (.invokestatic 40, 3) := by decide +kernel
theorem dX6_setWays_22 : decode cX6_setWays 22 = .ok (.ifCond .eq 19, 3) := by decide +kernel
theorem dX6_setWays_25 : decode cX6_setWays 25 = .ok (.iload_n 3, 1) := by decide +kernel
theorem dX6_setWays_26 : decode cX6_setWays 26 = .ok (.i2l, 1) := by decide +kernel
theorem dX6_setWays_27 : decode cX6_setWays 27 = .ok (.lconst 0, 1) := by decide +kernel
theorem dX6_setWays_28 : decode cX6_setWays 28 = .ok (.ldc2_w 74, 3) := by decide +kernel
theorem dX6_setWays_31 : decode cX6_setWays 31 = .ok (.invokestatic 40, 3) := by decide +kernel
theorem dX6_setWays_34 : decode cX6_setWays 34 = .ok (.ifCond .eq 7, 3) := by decide +kernel
theorem dX6_setWays_37 : decode cX6_setWays 37 = .ok (.iconst 1, 1) := by decide +kernel
theorem dX6_setWays_38 : decode cX6_setWays 38 = .ok (.goto 4, 3) := by decide +kernel
theorem dX6_setWays_41 : decode cX6_setWays 41 = .ok (.iconst 0, 1) := by decide +kernel
theorem dX6_setWays_42 : decode cX6_setWays 42 = .ok (.iconst 1, 1) := by decide +kernel
theorem dX6_setWays_43 : decode cX6_setWays 43 = .ok (.invokevirtual 52, 3) := by decide +kernel
theorem dX6_setWays_46 : decode cX6_setWays 46 = .ok (.ifCond .ne 5, 3) := by decide +kernel
theorem dX6_setWays_49 : decode cX6_setWays 49 = .ok (.iconst 0, 1) := by decide +kernel
theorem dX6_setWays_50 : decode cX6_setWays 50 = .ok (.ireturn, 1) := by decide +kernel
theorem dX6_setWays_51 : decode cX6_setWays 51 = .ok (.aload_n 0, 1) := by decide +kernel
theorem dX6_setWays_52 : decode cX6_setWays 52 = .ok (.invokevirtual 56, 3) := by decide +kernel
theorem dX6_setWays_55 : decode cX6_setWays 55 = .ok (.aload_n 0, 1) := by decide +kernel
theorem dX6_setWays_56 : decode cX6_setWays 56 = .ok (.getfield 7, 3) := by decide +kernel
theorem dX6_setWays_59 : decode cX6_setWays 59 = .ok (.iconst 5, 1) := by decide +kernel
theorem dX6_setWays_60 : decode cX6_setWays 60 = .ok (.iaload, 1) := by decide +kernel
theorem dX6_setWays_61 : decode cX6_setWays 61 = .ok (.istore 4, 2) := by decide +kernel
theorem dX6_setWays_63 : decode cX6_setWays 63 = .ok (.aload_n 0, 1) := by decide +kernel
theorem dX6_setWays_64 : decode cX6_setWays 64 = .ok (.getfield 7, 3) := by decide +kernel
theorem dX6_setWays_67 : decode cX6_setWays 67 = .ok (.iconst 3, 1) := by decide +kernel
theorem dX6_setWays_68 : decode cX6_setWays 68 = .ok (.iload_n 1, 1) := by decide +kernel
theorem dX6_setWays_69 : decode cX6_setWays 69 = .ok (.iastore, 1) := by decide +kernel
theorem dX6_setWays_70 : decode cX6_setWays 70 = .ok (.aload_n 0, 1) := by decide +kernel
theorem dX6_setWays_71 : decode cX6_setWays 71 = .ok (.getfield 7, 3) := by decide +kernel
theorem dX6_setWays_74 : decode cX6_setWays 74 = .ok (.iconst 4, 1) := by decide +kernel
theorem dX6_setWays_75 : decode cX6_setWays 75 = .ok (.iload_n 2, 1) := by decide +kernel
theorem dX6_setWays_76 : decode cX6_setWays 76 = .ok (.iastore, 1) := by decide +kernel
theorem dX6_setWays_77 : decode cX6_setWays 77 = .ok (.aload_n 0, 1) := by decide +kernel
theorem dX6_setWays_78 : decode cX6_setWays 78 = .ok (.getfield 7, 3) := by decide +kernel
theorem dX6_setWays_81 : decode cX6_setWays 81 = .ok (.iconst 5, 1) := by decide +kernel
theorem dX6_setWays_82 : decode cX6_setWays 82 = .ok (.iload_n 3, 1) := by decide +kernel
theorem dX6_setWays_83 : decode cX6_setWays 83 = .ok (.iastore, 1) := by decide +kernel
theorem dX6_setWays_84 : decode cX6_setWays 84 = .ok (.iload 4, 2) := by decide +kernel
theorem dX6_setWays_86 : decode cX6_setWays 86 = .ok (.ireturn, 1) := by decide +kernel
set_option maxRecDepth 20000 in
theorem ggX6_setting_X6_in : GoodIn wsX6_setting wsX6_in := goodIn_r _ [6] (by decide +kernel) (by decide +kernel)
set_option maxRecDepth 20000 in
theorem gX6_setting_X6_in : GoodIn wsX6_setting (va_wsS RX6 40 yX6_in wsX6_in) := goodIn_app (goodIn_of _ (by decide +kernel)) ggX6_setting_X6_in
set_option maxRecDepth 20000 in
theorem ggX6_setting_X6_goes : GoodIn wsX6_setting wsX6_goes := goodIn_r _ [10, 11, 12, 13, 14, 15, 16, 17, 18, 19, 20, 21, 22, 23, 24] (by decide +kernel) (by decide +kernel)
set_option maxRecDepth 20000 in
theorem gX6_setting_X6_goes : GoodIn wsX6_setting (wsV RX6 52 RX6 yX6_goes wsX6_goes) := goodIn_app (goodIn_of _ (by decide +kernel)) ggX6_setting_X6_goes
theorem dX6_setting_0 : decode cX6_setting 0 = .ok (.aload_n 0, 1) := by decide +kernel
theorem dX6_setting_1 : decode cX6_setting 1 = .ok (.iload_n 1, 1) := by decide +kernel
theorem dX6_setting_2 : decode cX6_setting 2 = .ok (.i2l, 1) := by decide +kernel
theorem dX6_setting_3 : decode cX6_setting 3 = .ok (.lconst 0, 1) := by decide +kernel
theorem dX6_setting_4 : decode cX6_setting 4 = .ok (.ldc2_w 76, 3) := by decide +kernel
theorem dX6_setting_7 : decode cX6_setting 7 = .ok (.invokestatic 40, 3) := by decide +kernel
theorem dX6_setting_10 : decode cX6_setting 10 = .ok (.iconst 1, 1) := by decide +kernel
theorem dX6_setting_11 : decode cX6_setting 11 = .ok (.invokevirtual 52, 3) := by decide +kernel
theorem dX6_setting_14 : decode cX6_setting 14 = .ok (.ifCond .eq 12, 3) := by decide +kernel
theorem dX6_setting_17 : decode cX6_setting 17 = .ok (.aload_n 0, 1) := by decide +kernel
theorem dX6_setting_18 : decode cX6_setting 18 = .ok (.getfield 7, 3) := by decide +kernel
theorem dX6_setting_21 : decode cX6_setting 21 = .ok (.iload_n 1, 1) := by decide +kernel
theorem dX6_setting_22 : decode cX6_setting 22 = .ok (.iaload, 1) := by decide +kernel
theorem dX6_setting_23 : decode cX6_setting 23 = .ok (.goto 4, 3) := by decide +kernel
theorem dX6_setting_26 : decode cX6_setting 26 = .ok (.iconst 0, 1) := by decide +kernel
theorem dX6_setting_27 : decode cX6_setting 27 = .ok (.ireturn, 1) := by decide +kernel
set_option maxRecDepth 20000 in
theorem ggX6_roof_X6_isRoof : GoodIn wsX6_roof wsX6_isRoof := goodIn_r _ [6, 7, 8, 9, 5, 10, 23, 24, 25, 26, 27, 28, 29, 30, 31, 32, 33, 34, 35] (by decide +kernel) (by decide +kernel)
set_option maxRecDepth 20000 in
theorem gX6_roof_X6_isRoof : GoodIn wsX6_roof (wsV RX6 78 RX6 yX6_isRoof wsX6_isRoof) := goodIn_app (goodIn_of _ (by decide +kernel)) ggX6_roof_X6_isRoof
set_option maxRecDepth 20000 in
theorem ggX6_roof_X6_in : GoodIn wsX6_roof wsX6_in := goodIn_r _ [10] (by decide +kernel) (by decide +kernel)
set_option maxRecDepth 20000 in
theorem gX6_roof_X6_in : GoodIn wsX6_roof (va_wsS RX6 40 yX6_in wsX6_in) := goodIn_app (goodIn_of _ (by decide +kernel)) ggX6_roof_X6_in
set_option maxRecDepth 20000 in
theorem ggX6_roof_X6_goes : GoodIn wsX6_roof wsX6_goes := goodIn_r _ [14, 15, 23, 24, 25, 26, 27, 28, 29, 30, 31, 32, 33, 34, 35] (by decide +kernel) (by decide +kernel)
set_option maxRecDepth 20000 in
theorem gX6_roof_X6_goes : GoodIn wsX6_roof (wsV RX6 52 RX6 yX6_goes wsX6_goes) := goodIn_app (goodIn_of _ (by decide +kernel)) ggX6_roof_X6_goes
set_option maxRecDepth 20000 in
theorem ggX6_roof_X6_ofRoof : GoodIn wsX6_roof wsX6_ofRoof := goodIn_r _ [19, 7, 20, 21, 5, 22, 23, 24, 25, 26, 27, 28, 29, 30, 31, 32, 33, 34, 35] (by decide +kernel) (by decide +kernel)
set_option maxRecDepth 20000 in
theorem gX6_roof_X6_ofRoof : GoodIn wsX6_roof (wsV RX6 83 RX6 yX6_ofRoof wsX6_ofRoof) := goodIn_app (goodIn_of _ (by decide +kernel)) ggX6_roof_X6_ofRoof
theorem dX6_roof_0 : decode cX6_roof 0 = .ok (.aload_n 0, 1) := by decide +kernel
theorem dX6_roof_1 : decode cX6_roof 1 = .ok (.aload_n 0, 1) := by decide +kernel
theorem dX6_roof_2 : decode cX6_roof 2 = .ok (.iload_n 1, 1) := by decide +kernel
theorem dX6_roof_3 : decode cX6_roof 3 = .ok (.invokevirtual 78, 3) := by decide +kernel
theorem dX6_roof_6 : decode cX6_roof 6 = .ok (.iload_n 2, 1) := by decide +kernel
theorem dX6_roof_7 : decode cX6_roof 7 = .ok (.i2l, 1) := by decide +kernel
theorem dX6_roof_8 : decode cX6_roof 8 = .ok (.lconst 0, 1) := by decide +kernel
theorem dX6_roof_9 : decode cX6_roof 9 = .ok (.ldc2_w 81, 3) := by decide +kernel
theorem dX6_roof_12 : decode cX6_roof 12 = .ok (.invokestatic 40, 3) := by decide +kernel
theorem dX6_roof_15 : decode cX6_roof 15 = .ok (.invokevirtual 52, 3) := by decide +kernel
theorem dX6_roof_18 : decode cX6_roof 18 = .ok (.ifCond .eq 12, 3) := by decide +kernel
theorem dX6_roof_21 : decode cX6_roof 21 = .ok (.aload_n 0, 1) := by decide +kernel
theorem dX6_roof_22 : decode cX6_roof 22 = .ok (.iload_n 1, 1) := by decide +kernel
theorem dX6_roof_23 : decode cX6_roof 23 = .ok (.iload_n 2, 1) := by decide +kernel
theorem dX6_roof_24 : decode cX6_roof 24 = .ok (.invokevirtual 83, 3) := by decide +kernel
theorem dX6_roof_27 : decode cX6_roof 27 = .ok (.goto 4, 3) := by decide +kernel
theorem dX6_roof_30 : decode cX6_roof 30 = .ok (.iconst 0, 1) := by decide +kernel
theorem dX6_roof_31 : decode cX6_roof 31 = .ok (.ireturn, 1) := by decide +kernel
set_option maxRecDepth 20000 in
theorem ggX6_user_X6_isUser : GoodIn wsX6_user wsX6_isUser := goodIn_r _ [6, 7, 8, 9, 5, 10, 23, 24, 25, 26, 27, 28, 29, 30, 31, 32, 33, 34, 35] (by decide +kernel) (by decide +kernel)
set_option maxRecDepth 20000 in
theorem gX6_user_X6_isUser : GoodIn wsX6_user (wsV RX6 63 RX6 yX6_isUser wsX6_isUser) := goodIn_app (goodIn_of _ (by decide +kernel)) ggX6_user_X6_isUser
set_option maxRecDepth 20000 in
theorem ggX6_user_X6_in : GoodIn wsX6_user wsX6_in := goodIn_r _ [10] (by decide +kernel) (by decide +kernel)
set_option maxRecDepth 20000 in
theorem gX6_user_X6_in : GoodIn wsX6_user (va_wsS RX6 40 yX6_in wsX6_in) := goodIn_app (goodIn_of _ (by decide +kernel)) ggX6_user_X6_in
set_option maxRecDepth 20000 in
theorem ggX6_user_X6_goes : GoodIn wsX6_user wsX6_goes := goodIn_r _ [14, 15, 23, 24, 25, 26, 27, 28, 29, 30, 31, 32, 33, 34, 35] (by decide +kernel) (by decide +kernel)
set_option maxRecDepth 20000 in
theorem gX6_user_X6_goes : GoodIn wsX6_user (wsV RX6 52 RX6 yX6_goes wsX6_goes) := goodIn_app (goodIn_of _ (by decide +kernel)) ggX6_user_X6_goes
set_option maxRecDepth 20000 in
theorem ggX6_user_X6_ofUser : GoodIn wsX6_user wsX6_ofUser := goodIn_r _ [19, 7, 20, 21, 5, 22, 23, 24, 25, 26, 27, 28, 29, 30, 31, 32, 33, 34, 35] (by decide +kernel) (by decide +kernel)
set_option maxRecDepth 20000 in
theorem gX6_user_X6_ofUser : GoodIn wsX6_user (wsV RX6 67 RX6 yX6_ofUser wsX6_ofUser) := goodIn_app (goodIn_of _ (by decide +kernel)) ggX6_user_X6_ofUser
theorem dX6_user_0 : decode cX6_user 0 = .ok (.aload_n 0, 1) := by decide +kernel
theorem dX6_user_1 : decode cX6_user 1 = .ok (.aload_n 0, 1) := by decide +kernel
theorem dX6_user_2 : decode cX6_user 2 = .ok (.iload_n 1, 1) := by decide +kernel
theorem dX6_user_3 : decode cX6_user 3 = .ok (.invokevirtual 63, 3) := by decide +kernel
theorem dX6_user_6 : decode cX6_user 6 = .ok (.iload_n 2, 1) := by decide +kernel
theorem dX6_user_7 : decode cX6_user 7 = .ok (.i2l, 1) := by decide +kernel
theorem dX6_user_8 : decode cX6_user 8 = .ok (.lconst 0, 1) := by decide +kernel
theorem dX6_user_9 : decode cX6_user 9 = .ok (.ldc2_w 74, 3) := by decide +kernel
theorem dX6_user_12 : decode cX6_user 12 = .ok (.invokestatic 40, 3) := by decide +kernel
theorem dX6_user_15 : decode cX6_user 15 = .ok (.invokevirtual 52, 3) := by decide +kernel
theorem dX6_user_18 : decode cX6_user 18 = .ok (.ifCond .eq 12, 3) := by decide +kernel
theorem dX6_user_21 : decode cX6_user 21 = .ok (.aload_n 0, 1) := by decide +kernel
theorem dX6_user_22 : decode cX6_user 22 = .ok (.iload_n 1, 1) := by decide +kernel
theorem dX6_user_23 : decode cX6_user 23 = .ok (.iload_n 2, 1) := by decide +kernel
theorem dX6_user_24 : decode cX6_user 24 = .ok (.invokevirtual 67, 3) := by decide +kernel
theorem dX6_user_27 : decode cX6_user 27 = .ok (.goto 4, 3) := by decide +kernel
theorem dX6_user_30 : decode cX6_user 30 = .ok (.iconst 0, 1) := by decide +kernel
theorem dX6_user_31 : decode cX6_user 31 = .ok (.ireturn, 1) := by decide +kernel
theorem dX6_rains_0 : decode cX6_rains 0 = .ok (.iconst 0, 1) := by decide +kernel
theorem dX6_rains_1 : decode cX6_rains 1 = .ok (.istore_n 3, 1) := by decide +kernel
theorem dX6_rains_2 : decode cX6_rains 2 = .ok (.iload_n 3, 1) := by decide +kernel
theorem dX6_rains_3 : decode cX6_rains 3 = .ok (.iload_n 2, 1) := by decide +kernel
theorem dX6_rains_4 : decode cX6_rains 4 = .ok (.if_icmp .ge 36, 3) := by decide +kernel
theorem dX6_rains_7 : decode cX6_rains 7 = .ok (.aload_n 0, 1) := by decide +kernel
theorem dX6_rains_8 : decode cX6_rains 8 = .ok (.getfield 7, 3) := by decide +kernel
theorem dX6_rains_11 : decode cX6_rains 11 = .ok (.bipush 63, 2) := by decide +kernel
theorem dX6_rains_13 : decode cX6_rains 13 = .ok (.aload_n 0, 1) := by decide +kernel
theorem dX6_rains_14 : decode cX6_rains 14 = .ok (.getfield 7, 3) := by decide +kernel
theorem dX6_rains_17 : decode cX6_rains 17 = .ok (.bipush 8, 2) := by decide +kernel
theorem dX6_rains_19 : decode cX6_rains 19 = .ok (.iaload, 1) := by decide +kernel
theorem dX6_rains_20 : decode cX6_rains 20 = .ok (.iadd, 1) := by decide +kernel
theorem dX6_rains_21 : decode cX6_rains 21 = .ok (.iload_n 1, 1) := by decide +kernel
theorem dX6_rains_22 : decode cX6_rains 22 = .ok (.iastore, 1) := by decide +kernel
theorem dX6_rains_23 : decode cX6_rains 23 = .ok (.aload_n 0, 1) := by decide +kernel
theorem dX6_rains_24 : decode cX6_rains 24 = .ok (.getfield 7, 3) := by decide +kernel
theorem dX6_rains_27 : decode cX6_rains 27 = .ok (.bipush 8, 2) := by decide +kernel
theorem dX6_rains_29 : decode cX6_rains 29 = .ok (.dup2, 1) := by decide +kernel
theorem dX6_rains_30 : decode cX6_rains 30 = .ok (.iaload, 1) := by decide +kernel
theorem dX6_rains_31 : decode cX6_rains 31 = .ok (.iconst 1, 1) := by decide +kernel
theorem dX6_rains_32 : decode cX6_rains 32 = .ok (.iadd, 1) := by decide +kernel
theorem dX6_rains_33 : decode cX6_rains 33 = .ok (.iastore, 1) := by decide +kernel
theorem dX6_rains_34 : decode cX6_rains 34 = .ok (.iinc 3 1, 3) := by decide +kernel
theorem dX6_rains_37 : decode cX6_rains 37 = .ok (.goto (-35), 3) := by decide +kernel
theorem dX6_rains_40 : decode cX6_rains 40 = .ok (.return_, 1) := by decide +kernel
set_option maxRecDepth 20000 in
theorem ggX6_addRain_X6_in : GoodIn wsX6_addRain wsX6_in := goodIn_r _ [7] (by decide +kernel) (by decide +kernel)
set_option maxRecDepth 20000 in
theorem gX6_addRain_X6_in : GoodIn wsX6_addRain (va_wsS RX6 40 yX6_in wsX6_in) := goodIn_app (goodIn_of _ (by decide +kernel)) ggX6_addRain_X6_in
set_option maxRecDepth 20000 in
theorem ggX6_addRain_X6_goes : GoodIn wsX6_addRain wsX6_goes := goodIn_r _ [11, 12, 23, 24, 25, 26, 27, 28, 29, 30, 31, 32, 33, 34, 35] (by decide +kernel) (by decide +kernel)
set_option maxRecDepth 20000 in
theorem gX6_addRain_X6_goes : GoodIn wsX6_addRain (wsV RX6 52 RX6 yX6_goes wsX6_goes) := goodIn_app (goodIn_of _ (by decide +kernel)) ggX6_addRain_X6_goes
set_option maxRecDepth 20000 in
theorem ggX6_addRain_X6_save : GoodIn wsX6_addRain wsX6_save := goodIn_r _ [16, 17, 18, 3, 23, 24, 25, 26, 27, 28, 29, 30, 31, 32, 33, 34, 35] (by decide +kernel) (by decide +kernel)
set_option maxRecDepth 20000 in
theorem gX6_addRain_X6_save : GoodIn wsX6_addRain (wsV RX6 56 RX6 yX6_save wsX6_save) := goodIn_app (goodIn_of _ (by decide +kernel)) ggX6_addRain_X6_save
set_option maxRecDepth 20000 in
theorem ggX6_addRain_X6_rains : GoodIn wsX6_addRain wsX6_rains := goodIn_r _ [22, 3, 23, 24, 25, 26, 27, 28, 29, 30, 31, 32, 33, 34, 35] (by decide +kernel) (by decide +kernel)
set_option maxRecDepth 20000 in
theorem gX6_addRain_X6_rains : GoodIn wsX6_addRain (wsV RX6 88 RX6 yX6_rains wsX6_rains) := goodIn_app (goodIn_of _ (by decide +kernel)) ggX6_addRain_X6_rains
theorem dX6_addRain_0 : decode cX6_addRain 0 = .ok (.iload_n 1, 1) := by decide +kernel
theorem dX6_addRain_1 : decode cX6_addRain 1 = .ok (.i2l, 1) := by decide +kernel
theorem dX6_addRain_2 : decode cX6_addRain 2 = .ok (.lconst 0, 1) := by decide +kernel
theorem dX6_addRain_3 : decode cX6_addRain 3 = .ok (.ldc2_w 86, 3) := by decide +kernel
theorem dX6_addRain_6 : decode cX6_addRain 6 = .ok (.invokestatic 40, 3) := by decide +kernel
theorem dX6_addRain_9 : decode cX6_addRain 9 = .ok (.ifCond .eq 19, 3) := by decide +kernel
theorem dX6_addRain_12 : decode cX6_addRain 12 = .ok (.iload_n 2, 1) := by decide +kernel
theorem dX6_addRain_13 : decode cX6_addRain 13 = .ok (.i2l, 1) := by decide +kernel
theorem dX6_addRain_14 : decode cX6_addRain 14 = .ok (.lconst 1, 1) := by decide +kernel
theorem dX6_addRain_15 : decode cX6_addRain 15 = .ok (.ldc2_w 46, 3) := by decide +kernel
theorem dX6_addRain_18 : decode cX6_addRain 18 = .ok (.invokestatic 40, 3) := by decide +kernel
theorem dX6_addRain_21 : decode cX6_addRain 21 = .ok (.ifCond .eq 7, 3) := by decide +kernel
theorem dX6_addRain_24 : decode cX6_addRain 24 = .ok (.iconst 1, 1) := by decide +kernel
theorem dX6_addRain_25 : decode cX6_addRain 25 = .ok (.goto 4, 3) := by decide +kernel
theorem dX6_addRain_28 : decode cX6_addRain 28 = .ok (.iconst 0, 1) := by decide +kernel
theorem dX6_addRain_29 : decode cX6_addRain 29 = .ok (.istore_n 3, 1) := by decide +kernel
theorem dX6_addRain_30 : decode cX6_addRain 30 = .ok (.aload_n 0, 1) := by decide +kernel
theorem dX6_addRain_31 : decode cX6_addRain 31 = .ok (.iload_n 3, 1) := by decide +kernel
theorem dX6_addRain_32 : decode cX6_addRain 32 = .ok (.iload_n 3, 1) := by decide +kernel
theorem dX6_addRain_33 : decode cX6_addRain 33 = .ok (.ifCond .eq 21, 3) := by decide +kernel
theorem dX6_addRain_36 : decode cX6_addRain 36 = .ok (.aload_n 0, 1) := by decide +kernel
theorem dX6_addRain_37 : decode cX6_addRain 37 = .ok (.getfield 7, 3) := by decide +kernel
theorem dX6_addRain_40 : decode cX6_addRain 40 = .ok (.bipush 8, 2) := by decide +kernel
theorem dX6_addRain_42 : decode cX6_addRain 42 = .ok (.iaload, 1) := by decide +kernel
theorem dX6_addRain_43 : decode cX6_addRain 43 = .ok (.iload_n 2, 1) := by decide +kernel
theorem dX6_addRain_44 : decode cX6_addRain 44 = .ok (.iadd, 1) := by decide +kernel
theorem dX6_addRain_45 : decode cX6_addRain 45 = .ok (.bipush 100, 2) := by decide +kernel
theorem dX6_addRain_47 : decode cX6_addRain 47 = .ok (.if_icmp .gt 7, 3) := by decide +kernel
theorem dX6_addRain_50 : decode cX6_addRain 50 = .ok (.iconst 1, 1) := by decide +kernel
theorem dX6_addRain_51 : decode cX6_addRain 51 = .ok (.goto 4, 3) := by decide +kernel
theorem dX6_addRain_54 : decode cX6_addRain 54 = .ok (.iconst 0, 1) := by decide +kernel
theorem dX6_addRain_55 : decode cX6_addRain 55 = .ok (.invokevirtual 52, 3) := by decide +kernel
theorem dX6_addRain_58 : decode cX6_addRain 58 = .ok (.ifCond .ne 5, 3) := by decide +kernel
theorem dX6_addRain_61 : decode cX6_addRain 61 = .ok (.iconst 0, 1) := by decide +kernel
theorem dX6_addRain_62 : decode cX6_addRain 62 = .ok (.ireturn, 1) := by decide +kernel
theorem dX6_addRain_63 : decode cX6_addRain 63 = .ok (.aload_n 0, 1) := by decide +kernel
theorem dX6_addRain_64 : decode cX6_addRain 64 = .ok (.invokevirtual 56, 3) := by decide +kernel
theorem dX6_addRain_67 : decode cX6_addRain 67 = .ok (.aload_n 0, 1) := by decide +kernel
theorem dX6_addRain_68 : decode cX6_addRain 68 = .ok (.iload_n 1, 1) := by decide +kernel
theorem dX6_addRain_69 : decode cX6_addRain 69 = .ok (.iload_n 2, 1) := by decide +kernel
theorem dX6_addRain_70 : decode cX6_addRain 70 = .ok (.invokevirtual 88, 3) := by decide +kernel
theorem dX6_addRain_73 : decode cX6_addRain 73 = .ok (.aload_n 0, 1) := by decide +kernel
theorem dX6_addRain_74 : decode cX6_addRain 74 = .ok (.getfield 7, 3) := by decide +kernel
theorem dX6_addRain_77 : decode cX6_addRain 77 = .ok (.bipush 8, 2) := by decide +kernel
theorem dX6_addRain_79 : decode cX6_addRain 79 = .ok (.iaload, 1) := by decide +kernel
theorem dX6_addRain_80 : decode cX6_addRain 80 = .ok (.ireturn, 1) := by decide +kernel
theorem dX6_draws_0 : decode cX6_draws 0 = .ok (.aload_n 0, 1) := by decide +kernel
theorem dX6_draws_1 : decode cX6_draws 1 = .ok (.ldc2_w 92, 3) := by decide +kernel
theorem dX6_draws_4 : decode cX6_draws 4 = .ok (.aload_n 0, 1) := by decide +kernel
theorem dX6_draws_5 : decode cX6_draws 5 = .ok (.getfield 94, 3) := by decide +kernel
theorem dX6_draws_8 : decode cX6_draws 8 = .ok (.lmul, 1) := by decide +kernel
theorem dX6_draws_9 : decode cX6_draws 9 = .ok (.ldc2_w 98, 3) := by decide +kernel
theorem dX6_draws_12 : decode cX6_draws 12 = .ok (.ladd, 1) := by decide +kernel
theorem dX6_draws_13 : decode cX6_draws 13 = .ok (.ldc2_w 100, 3) := by decide +kernel
theorem dX6_draws_16 : decode cX6_draws 16 = .ok (.lrem, 1) := by decide +kernel
theorem dX6_draws_17 : decode cX6_draws 17 = .ok (.putfield 94, 3) := by decide +kernel
theorem dX6_draws_20 : decode cX6_draws 20 = .ok (.aload_n 0, 1) := by decide +kernel
theorem dX6_draws_21 : decode cX6_draws 21 = .ok (.getfield 94, 3) := by decide +kernel
theorem dX6_draws_24 : decode cX6_draws 24 = .ok (.ldc2_w 102, 3) := by decide +kernel
theorem dX6_draws_27 : decode cX6_draws 27 = .ok (.ldiv, 1) := by decide +kernel
theorem dX6_draws_28 : decode cX6_draws 28 = .ok (.iload_n 1, 1) := by decide +kernel
theorem dX6_draws_29 : decode cX6_draws 29 = .ok (.i2l, 1) := by decide +kernel
theorem dX6_draws_30 : decode cX6_draws 30 = .ok (.lrem, 1) := by decide +kernel
theorem dX6_draws_31 : decode cX6_draws 31 = .ok (.l2i, 1) := by decide +kernel
theorem dX6_draws_32 : decode cX6_draws 32 = .ok (.ireturn, 1) := by decide +kernel
set_option maxRecDepth 20000 in
theorem ggX6_addRandomRain_X6_in : GoodIn wsX6_addRandomRain wsX6_in := goodIn_r _ [9] (by decide +kernel) (by decide +kernel)
set_option maxRecDepth 20000 in
theorem gX6_addRandomRain_X6_in : GoodIn wsX6_addRandomRain (va_wsS RX6 40 yX6_in wsX6_in) := goodIn_app (goodIn_of _ (by decide +kernel)) ggX6_addRandomRain_X6_in
set_option maxRecDepth 20000 in
theorem ggX6_addRandomRain_X6_goes : GoodIn wsX6_addRandomRain wsX6_goes := goodIn_r _ [13, 14, 33, 34, 35, 36, 37, 38, 39, 40, 41, 42, 43, 44, 45] (by decide +kernel) (by decide +kernel)
set_option maxRecDepth 20000 in
theorem gX6_addRandomRain_X6_goes : GoodIn wsX6_addRandomRain (wsV RX6 52 RX6 yX6_goes wsX6_goes) := goodIn_app (goodIn_of _ (by decide +kernel)) ggX6_addRandomRain_X6_goes
set_option maxRecDepth 20000 in
theorem ggX6_addRandomRain_X6_save : GoodIn wsX6_addRandomRain wsX6_save := goodIn_r _ [18, 19, 20, 4, 33, 34, 35, 36, 37, 38, 39, 40, 41, 42, 43, 44, 45] (by decide +kernel) (by decide +kernel)
set_option maxRecDepth 20000 in
theorem gX6_addRandomRain_X6_save : GoodIn wsX6_addRandomRain (wsV RX6 56 RX6 yX6_save wsX6_save) := goodIn_app (goodIn_of _ (by decide +kernel)) ggX6_addRandomRain_X6_save
set_option maxRecDepth 20000 in
theorem ggX6_addRandomRain_X6_draws : GoodIn wsX6_addRandomRain wsX6_draws := goodIn_r _ [24, 25, 5, 26, 27, 28, 33, 34, 35, 36, 37, 38, 39, 40, 41, 42, 43, 44, 45] (by decide +kernel) (by decide +kernel)
set_option maxRecDepth 20000 in
theorem gX6_addRandomRain_X6_draws : GoodIn wsX6_addRandomRain (wsV RX6 106 RX6 yX6_draws wsX6_draws) := goodIn_app (goodIn_of _ (by decide +kernel)) ggX6_addRandomRain_X6_draws
set_option maxRecDepth 20000 in
theorem ggX6_addRandomRain_X6_rains : GoodIn wsX6_addRandomRain wsX6_rains := goodIn_r _ [32, 4, 33, 34, 35, 36, 37, 38, 39, 40, 41, 42, 43, 44, 45] (by decide +kernel) (by decide +kernel)
set_option maxRecDepth 20000 in
theorem gX6_addRandomRain_X6_rains : GoodIn wsX6_addRandomRain (wsV RX6 88 RX6 yX6_rains wsX6_rains) := goodIn_app (goodIn_of _ (by decide +kernel)) ggX6_addRandomRain_X6_rains
theorem dX6_addRandomRain_0 : decode cX6_addRandomRain 0 = .ok (.iload_n 1, 1) := by decide +kernel
theorem dX6_addRandomRain_1 : decode cX6_addRandomRain 1 = .ok (.i2l, 1) := by decide +kernel
theorem dX6_addRandomRain_2 : decode cX6_addRandomRain 2 = .ok (.lconst 0, 1) := by decide +kernel
theorem dX6_addRandomRain_3 : decode cX6_addRandomRain 3 = .ok (.ldc2_w 104, 3) := by decide +kernel
theorem dX6_addRandomRain_6 : decode cX6_addRandomRain 6 = .ok (.invokestatic 40, 3) := by decide +kernel
theorem dX6_addRandomRain_9 : decode cX6_addRandomRain 9 = .ok (.ifCond .eq 44, 3) := by decide +kernel
theorem dX6_addRandomRain_12 : decode cX6_addRandomRain 12 = .ok (.iload_n 2, 1) := by decide +kernel
theorem dX6_addRandomRain_13 : decode cX6_addRandomRain 13 = .ok (.i2l, 1) := by decide +kernel
theorem dX6_addRandomRain_14 : decode cX6_addRandomRain 14 = .ok (.lconst 1, 1) := by decide +kernel
theorem dX6_addRandomRain_15 : decode cX6_addRandomRain 15 = .ok (.ldc2_w 46, 3) := by decide +kernel
theorem dX6_addRandomRain_18 : decode cX6_addRandomRain 18 = .ok (.invokestatic 40, 3) := by decide +kernel
theorem dX6_addRandomRain_21 : decode cX6_addRandomRain 21 = .ok (.ifCond .eq 32, 3) := by decide +kernel
theorem dX6_addRandomRain_24 : decode cX6_addRandomRain 24 = .ok (.iload_n 3, 1) := by decide +kernel
theorem dX6_addRandomRain_25 : decode cX6_addRandomRain 25 = .ok (.i2l, 1) := by decide +kernel
theorem dX6_addRandomRain_26 : decode cX6_addRandomRain 26 = .ok (.lconst 0, 1) := by decide +kernel
theorem dX6_addRandomRain_27 : decode cX6_addRandomRain 27 = .ok (.ldc2_w 46, 3) := by decide +kernel
theorem dX6_addRandomRain_30 : decode cX6_addRandomRain 30 = .ok (.invokestatic 40, 3) := by decide +kernel
theorem dX6_addRandomRain_33 : decode cX6_addRandomRain 33 = .ok (.ifCond .eq 20, 3) := by decide +kernel
theorem dX6_addRandomRain_36 : decode cX6_addRandomRain 36 = .ok (.iload 4, 2) := by decide +kernel
theorem dX6_addRandomRain_38 : decode cX6_addRandomRain 38 = .ok (.i2l, 1) := by decide +kernel
theorem dX6_addRandomRain_39 : decode cX6_addRandomRain 39 = .ok (.lconst 1, 1) := by decide +kernel
theorem dX6_addRandomRain_40 : decode cX6_addRandomRain 40 = .ok (.ldc2_w 86, 3) := by decide +kernel
theorem dX6_addRandomRain_43 : decode cX6_addRandomRain 43 = .ok (.invokestatic 40, 3) := by decide +kernel
theorem dX6_addRandomRain_46 : decode cX6_addRandomRain 46 = .ok (.ifCond .eq 7, 3) := by decide +kernel
theorem dX6_addRandomRain_49 : decode cX6_addRandomRain 49 = .ok (.iconst 1, 1) := by decide +kernel
theorem dX6_addRandomRain_50 : decode cX6_addRandomRain 50 = .ok (.goto 4, 3) := by decide +kernel
theorem dX6_addRandomRain_53 : decode cX6_addRandomRain 53 = .ok (.iconst 0, 1) := by decide +kernel
theorem dX6_addRandomRain_54 : decode cX6_addRandomRain 54 = .ok (.istore 5, 2) := by decide +kernel
theorem dX6_addRandomRain_56 : decode cX6_addRandomRain 56 = .ok (.aload_n 0, 1) := by decide +kernel
theorem dX6_addRandomRain_57 : decode cX6_addRandomRain 57 = .ok (.iload 5, 2) := by decide +kernel
theorem dX6_addRandomRain_59 : decode cX6_addRandomRain 59 = .ok (.iload 5, 2) := by decide +kernel
theorem dX6_addRandomRain_61 : decode cX6_addRandomRain 61 = .ok (.ifCond .eq 21, 3) := by decide +kernel
theorem dX6_addRandomRain_64 : decode cX6_addRandomRain 64 = .ok (.aload_n 0, 1) := by decide +kernel
theorem dX6_addRandomRain_65 : decode cX6_addRandomRain 65 = .ok (.getfield 7, 3) := by decide +kernel
theorem dX6_addRandomRain_68 : decode cX6_addRandomRain 68 = .ok (.bipush 8, 2) := by decide +kernel
theorem dX6_addRandomRain_70 : decode cX6_addRandomRain 70 = .ok (.iaload, 1) := by decide +kernel
theorem dX6_addRandomRain_71 : decode cX6_addRandomRain 71 = .ok (.iload_n 2, 1) := by decide +kernel
theorem dX6_addRandomRain_72 : decode cX6_addRandomRain 72 = .ok (.iadd, 1) := by decide +kernel
theorem dX6_addRandomRain_73 : decode cX6_addRandomRain 73 = .ok (.bipush 100, 2) := by decide +kernel
theorem dX6_addRandomRain_75 : decode cX6_addRandomRain 75 = .ok (.if_icmp .gt 7, 3) := by decide +kernel
theorem dX6_addRandomRain_78 : decode cX6_addRandomRain 78 = .ok (.iconst 1, 1) := by decide +kernel
theorem dX6_addRandomRain_79 : decode cX6_addRandomRain 79 = .ok (.goto 4, 3) := by decide +kernel
theorem dX6_addRandomRain_82 : decode cX6_addRandomRain 82 = .ok (.iconst 0, 1) := by decide +kernel
theorem dX6_addRandomRain_83 : decode cX6_addRandomRain 83 = .ok (.invokevirtual 52, 3) := by decide +kernel
theorem dX6_addRandomRain_86 : decode cX6_addRandomRain 86 = .ok (.ifCond .ne 5, 3) := by decide +kernel
theorem dX6_addRandomRain_89 : decode cX6_addRandomRain 89 = .ok (.iconst 0, 1) := by decide +kernel
theorem dX6_addRandomRain_90 : decode cX6_addRandomRain 90 = .ok (.ireturn, 1) := by decide +kernel
theorem dX6_addRandomRain_91 : decode cX6_addRandomRain 91 = .ok (.aload_n 0, 1) := by decide +kernel
theorem dX6_addRandomRain_92 : decode cX6_addRandomRain 92 = .ok (.invokevirtual 56, 3) := by decide +kernel
theorem dX6_addRandomRain_95 : decode cX6_addRandomRain 95 = .ok (.aload_n 0, 1) := by decide +kernel
theorem dX6_addRandomRain_96 : decode cX6_addRandomRain 96 = .ok (.iload_n 1, 1) := by decide +kernel
theorem dX6_addRandomRain_97 : decode cX6_addRandomRain 97 = .ok (.i2l, 1) := by decide +kernel
theorem dX6_addRandomRain_98 : decode cX6_addRandomRain 98 = .ok (.putfield 94, 3) := by decide +kernel
theorem dX6_addRandomRain_101 : decode cX6_addRandomRain 101 = .ok (.iconst 0, 1) := by decide +kernel
theorem dX6_addRandomRain_102 : decode cX6_addRandomRain 102 = .ok (.istore 6, 2) := by decide +kernel
theorem dX6_addRandomRain_104 : decode cX6_addRandomRain 104 = .ok (.iload 6, 2) := by decide +kernel
theorem dX6_addRandomRain_106 : decode cX6_addRandomRain 106 = .ok (.iload_n 2, 1) := by decide +kernel
theorem dX6_addRandomRain_107 : decode cX6_addRandomRain 107 = .ok (.if_icmp .ge 48, 3) := by decide +kernel
theorem dX6_addRandomRain_110 : decode cX6_addRandomRain 110 = .ok (.aload_n 0, 1) := by decide +kernel
theorem dX6_addRandomRain_111 : decode cX6_addRandomRain 111 = .ok (.bipush 100, 2) := by decide +kernel
theorem dX6_addRandomRain_113 : decode cX6_addRandomRain 113 = .ok (.invokevirtual 106, 3) := by decide +kernel
theorem dX6_addRandomRain_116 : decode cX6_addRandomRain 116 = .ok (.iload_n 3, 1) := by decide +kernel
theorem dX6_addRandomRain_117 : decode cX6_addRandomRain 117 = .ok (.if_icmp .ge 7, 3) := by decide +kernel
theorem dX6_addRandomRain_120 : decode cX6_addRandomRain 120 = .ok (.iconst 1, 1) := by decide +kernel
theorem dX6_addRandomRain_121 : decode cX6_addRandomRain 121 = .ok (.goto 4, 3) := by decide +kernel
theorem dX6_addRandomRain_124 : decode cX6_addRandomRain 124 = .ok (.iconst 0, 1) := by decide +kernel
theorem dX6_addRandomRain_125 : decode cX6_addRandomRain 125 = .ok (.istore 7, 2) := by decide +kernel
theorem dX6_addRandomRain_127 : decode cX6_addRandomRain 127 = .ok (.aload_n 0, 1) := by decide +kernel
theorem dX6_addRandomRain_128 : decode cX6_addRandomRain 128 = .ok (.iload 7, 2) := by decide +kernel
theorem dX6_addRandomRain_130 : decode cX6_addRandomRain 130 = .ok (.ifCond .eq 14, 3) := by decide +kernel
theorem dX6_addRandomRain_133 : decode cX6_addRandomRain 133 = .ok (.iconst 1, 1) := by decide +kernel
theorem dX6_addRandomRain_134 : decode cX6_addRandomRain 134 = .ok (.aload_n 0, 1) := by decide +kernel
theorem dX6_addRandomRain_135 : decode cX6_addRandomRain 135 = .ok (.iload 4, 2) := by decide +kernel
theorem dX6_addRandomRain_137 : decode cX6_addRandomRain 137 = .ok (.invokevirtual 106, 3) := by decide +kernel
theorem dX6_addRandomRain_140 : decode cX6_addRandomRain 140 = .ok (.iadd, 1) := by decide +kernel
theorem dX6_addRandomRain_141 : decode cX6_addRandomRain 141 = .ok (.goto 4, 3) := by decide +kernel
theorem dX6_addRandomRain_144 : decode cX6_addRandomRain 144 = .ok (.iconst 0, 1) := by decide +kernel
theorem dX6_addRandomRain_145 : decode cX6_addRandomRain 145 = .ok (.iconst 1, 1) := by decide +kernel
theorem dX6_addRandomRain_146 : decode cX6_addRandomRain 146 = .ok (.invokevirtual 88, 3) := by decide +kernel
theorem dX6_addRandomRain_149 : decode cX6_addRandomRain 149 = .ok (.iinc 6 1, 3) := by decide +kernel
theorem dX6_addRandomRain_152 : decode cX6_addRandomRain 152 = .ok (.goto (-48), 3) := by decide +kernel
theorem dX6_addRandomRain_155 : decode cX6_addRandomRain 155 = .ok (.aload_n 0, 1) := by decide +kernel
theorem dX6_addRandomRain_156 : decode cX6_addRandomRain 156 = .ok (.getfield 7, 3) := by decide +kernel
theorem dX6_addRandomRain_159 : decode cX6_addRandomRain 159 = .ok (.bipush 8, 2) := by decide +kernel
theorem dX6_addRandomRain_161 : decode cX6_addRandomRain 161 = .ok (.iaload, 1) := by decide +kernel
theorem dX6_addRandomRain_162 : decode cX6_addRandomRain 162 = .ok (.ireturn, 1) := by decide +kernel
set_option maxRecDepth 20000 in
theorem ggX6_rain_X6_in : GoodIn wsX6_rain wsX6_in := goodIn_r _ [5] (by decide +kernel) (by decide +kernel)
set_option maxRecDepth 20000 in
theorem gX6_rain_X6_in : GoodIn wsX6_rain (va_wsS RX6 40 yX6_in wsX6_in) := goodIn_app (goodIn_of _ (by decide +kernel)) ggX6_rain_X6_in
set_option maxRecDepth 20000 in
theorem ggX6_rain_X6_goes : GoodIn wsX6_rain wsX6_goes := goodIn_r _ [9, 10, 11, 12, 13, 14, 15, 16, 17, 18, 19, 20, 21, 22, 23] (by decide +kernel) (by decide +kernel)
set_option maxRecDepth 20000 in
theorem gX6_rain_X6_goes : GoodIn wsX6_rain (wsV RX6 52 RX6 yX6_goes wsX6_goes) := goodIn_app (goodIn_of _ (by decide +kernel)) ggX6_rain_X6_goes
theorem dX6_rain_0 : decode cX6_rain 0 = .ok (.aload_n 0, 1) := by decide +kernel
theorem dX6_rain_1 : decode cX6_rain 1 = .ok (.iload_n 1, 1) := by decide +kernel
theorem dX6_rain_2 : decode cX6_rain 2 = .ok (.i2l, 1) := by decide +kernel
theorem dX6_rain_3 : decode cX6_rain 3 = .ok (.lconst 0, 1) := by decide +kernel
theorem dX6_rain_4 : decode cX6_rain 4 = .ok (.aload_n 0, 1) := by decide +kernel
theorem dX6_rain_5 : decode cX6_rain 5 = .ok (.getfield 7, 3) := by decide +kernel
theorem dX6_rain_8 : decode cX6_rain 8 = .ok (.bipush 8, 2) := by decide +kernel
theorem dX6_rain_10 : decode cX6_rain 10 = .ok (.iaload, 1) := by decide +kernel
theorem dX6_rain_11 : decode cX6_rain 11 = .ok (.i2l, 1) := by decide +kernel
theorem dX6_rain_12 : decode cX6_rain 12 = .ok (.lconst 1, 1) := by decide +kernel
theorem dX6_rain_13 : decode cX6_rain 13 = .ok (.lsub, 1) := by decide +kernel
theorem dX6_rain_14 : decode cX6_rain 14 = .ok (.invokestatic 40, 3) := by decide +kernel
theorem dX6_rain_17 : decode cX6_rain 17 = .ok (.iconst 1, 1) := by decide +kernel
theorem dX6_rain_18 : decode cX6_rain 18 = .ok (.invokevirtual 52, 3) := by decide +kernel
theorem dX6_rain_21 : decode cX6_rain 21 = .ok (.ifCond .eq 15, 3) := by decide +kernel
theorem dX6_rain_24 : decode cX6_rain 24 = .ok (.aload_n 0, 1) := by decide +kernel
theorem dX6_rain_25 : decode cX6_rain 25 = .ok (.getfield 7, 3) := by decide +kernel
theorem dX6_rain_28 : decode cX6_rain 28 = .ok (.bipush 63, 2) := by decide +kernel
theorem dX6_rain_30 : decode cX6_rain 30 = .ok (.iload_n 1, 1) := by decide +kernel
theorem dX6_rain_31 : decode cX6_rain 31 = .ok (.iadd, 1) := by decide +kernel
theorem dX6_rain_32 : decode cX6_rain 32 = .ok (.iaload, 1) := by decide +kernel
theorem dX6_rain_33 : decode cX6_rain 33 = .ok (.goto 4, 3) := by decide +kernel
theorem dX6_rain_36 : decode cX6_rain 36 = .ok (.iconst 0, 1) := by decide +kernel
theorem dX6_rain_37 : decode cX6_rain 37 = .ok (.ireturn, 1) := by decide +kernel
theorem dX6_tells_0 : decode cX6_tells 0 = .ok (.aload_n 0, 1) := by decide +kernel
theorem dX6_tells_1 : decode cX6_tells 1 = .ok (.getfield 7, 3) := by decide +kernel
theorem dX6_tells_4 : decode cX6_tells 4 = .ok (.sipush 163, 3) := by decide +kernel
theorem dX6_tells_7 : decode cX6_tells 7 = .ok (.bipush 10, 2) := by decide +kernel
theorem dX6_tells_9 : decode cX6_tells 9 = .ok (.aload_n 0, 1) := by decide +kernel
theorem dX6_tells_10 : decode cX6_tells 10 = .ok (.getfield 110, 3) := by decide +kernel
theorem dX6_tells_13 : decode cX6_tells 13 = .ok (.imul, 1) := by decide +kernel
theorem dX6_tells_14 : decode cX6_tells 14 = .ok (.iadd, 1) := by decide +kernel
theorem dX6_tells_15 : decode cX6_tells 15 = .ok (.iload_n 1, 1) := by decide +kernel
theorem dX6_tells_16 : decode cX6_tells 16 = .ok (.iadd, 1) := by decide +kernel
theorem dX6_tells_17 : decode cX6_tells 17 = .ok (.dup2, 1) := by decide +kernel
theorem dX6_tells_18 : decode cX6_tells 18 = .ok (.iaload, 1) := by decide +kernel
theorem dX6_tells_19 : decode cX6_tells 19 = .ok (.iload_n 2, 1) := by decide +kernel
theorem dX6_tells_20 : decode cX6_tells 20 = .ok (.iadd, 1) := by decide +kernel
theorem dX6_tells_21 : decode cX6_tells 21 = .ok (.iastore, 1) := by decide +kernel
theorem dX6_tells_22 : decode cX6_tells 22 = .ok (.return_, 1) := by decide +kernel
set_option maxRecDepth 20000 in
theorem ggX6_drains_X6_ofRoof : GoodIn wsX6_drains wsX6_ofRoof := goodIn_r _ [6, 1, 7, 8, 5, 9, 15, 16, 17, 18, 19, 20, 21, 22, 23, 24, 25, 26, 27] (by decide +kernel) (by decide +kernel)
set_option maxRecDepth 20000 in
theorem gX6_drains_X6_ofRoof : GoodIn wsX6_drains (wsV RX6 83 RX6 yX6_ofRoof wsX6_ofRoof) := goodIn_app (goodIn_of _ (by decide +kernel)) ggX6_drains_X6_ofRoof
set_option maxRecDepth 20000 in
theorem ggX6_drains_X6_tells : GoodIn wsX6_drains wsX6_tells := goodIn_r _ [13, 1, 14, 15, 16, 17, 18, 19, 20, 21, 22, 23, 24, 25, 26, 27] (by decide +kernel) (by decide +kernel)
set_option maxRecDepth 20000 in
theorem gX6_drains_X6_tells : GoodIn wsX6_drains (wsV RX6 113 RX6 yX6_tells wsX6_tells) := goodIn_app (goodIn_of _ (by decide +kernel)) ggX6_drains_X6_tells
set_option maxRecDepth 20000 in
theorem ggX6_drains_X6_roofAt : GoodIn wsX6_drains wsX6_roofAt := goodIn_r _ [9] (by decide +kernel) (by decide +kernel)
set_option maxRecDepth 20000 in
theorem gX6_drains_X6_roofAt : GoodIn wsX6_drains (va_wsS RX6 33 yX6_roofAt wsX6_roofAt) := goodIn_app (goodIn_of _ (by decide +kernel)) ggX6_drains_X6_roofAt
theorem dX6_drains_0 : decode cX6_drains 0 = .ok (.iconst 0, 1) := by decide +kernel
theorem dX6_drains_1 : decode cX6_drains 1 = .ok (.istore_n 1, 1) := by decide +kernel
theorem dX6_drains_2 : decode cX6_drains 2 = .ok (.iload_n 1, 1) := by decide +kernel
theorem dX6_drains_3 : decode cX6_drains 3 = .ok (.aload_n 0, 1) := by decide +kernel
theorem dX6_drains_4 : decode cX6_drains 4 = .ok (.getfield 7, 3) := by decide +kernel
theorem dX6_drains_7 : decode cX6_drains 7 = .ok (.bipush 6, 2) := by decide +kernel
theorem dX6_drains_9 : decode cX6_drains 9 = .ok (.iaload, 1) := by decide +kernel
theorem dX6_drains_10 : decode cX6_drains 10 = .ok (.if_icmp .ge 32, 3) := by decide +kernel
theorem dX6_drains_13 : decode cX6_drains 13 = .ok (.aload_n 0, 1) := by decide +kernel
theorem dX6_drains_14 : decode cX6_drains 14 = .ok (.bipush 9, 2) := by decide +kernel
theorem dX6_drains_16 : decode cX6_drains 16 = .ok (.aload_n 0, 1) := by decide +kernel
theorem dX6_drains_17 : decode cX6_drains 17 = .ok (.iload_n 1, 1) := by decide +kernel
theorem dX6_drains_18 : decode cX6_drains 18 = .ok (.iconst 4, 1) := by decide +kernel
theorem dX6_drains_19 : decode cX6_drains 19 = .ok (.invokevirtual 83, 3) := by decide +kernel
theorem dX6_drains_22 : decode cX6_drains 22 = .ok (.invokevirtual 113, 3) := by decide +kernel
theorem dX6_drains_25 : decode cX6_drains 25 = .ok (.aload_n 0, 1) := by decide +kernel
theorem dX6_drains_26 : decode cX6_drains 26 = .ok (.getfield 7, 3) := by decide +kernel
theorem dX6_drains_29 : decode cX6_drains 29 = .ok (.iload_n 1, 1) := by decide +kernel
theorem dX6_drains_30 : decode cX6_drains 30 = .ok (.iconst 4, 1) := by decide +kernel
theorem dX6_drains_31 : decode cX6_drains 31 = .ok (.invokestatic 33, 3) := by decide +kernel
theorem dX6_drains_34 : decode cX6_drains 34 = .ok (.iconst 0, 1) := by decide +kernel
theorem dX6_drains_35 : decode cX6_drains 35 = .ok (.iastore, 1) := by decide +kernel
theorem dX6_drains_36 : decode cX6_drains 36 = .ok (.iinc 1 1, 3) := by decide +kernel
theorem dX6_drains_39 : decode cX6_drains 39 = .ok (.goto (-37), 3) := by decide +kernel
theorem dX6_drains_42 : decode cX6_drains 42 = .ok (.return_, 1) := by decide +kernel
set_option maxRecDepth 20000 in
theorem ggX6_flows_X6_ofRoof : GoodIn wsX6_flows wsX6_ofRoof := goodIn_r _ [7, 1, 8, 9, 6, 10, 16, 17, 18, 19, 20, 21, 22, 23, 24, 25, 26, 27, 28] (by decide +kernel) (by decide +kernel)
set_option maxRecDepth 20000 in
theorem gX6_flows_X6_ofRoof : GoodIn wsX6_flows (wsV RX6 83 RX6 yX6_ofRoof wsX6_ofRoof) := goodIn_app (goodIn_of _ (by decide +kernel)) ggX6_flows_X6_ofRoof
set_option maxRecDepth 20000 in
theorem ggX6_flows_X6_roofAt : GoodIn wsX6_flows wsX6_roofAt := goodIn_r _ [10] (by decide +kernel) (by decide +kernel)
set_option maxRecDepth 20000 in
theorem gX6_flows_X6_roofAt : GoodIn wsX6_flows (va_wsS RX6 33 yX6_roofAt wsX6_roofAt) := goodIn_app (goodIn_of _ (by decide +kernel)) ggX6_flows_X6_roofAt
set_option maxRecDepth 20000 in
theorem ggX6_flows_X6_tells : GoodIn wsX6_flows wsX6_tells := goodIn_r _ [14, 1, 15, 16, 17, 18, 19, 20, 21, 22, 23, 24, 25, 26, 27, 28] (by decide +kernel) (by decide +kernel)
set_option maxRecDepth 20000 in
theorem gX6_flows_X6_tells : GoodIn wsX6_flows (wsV RX6 113 RX6 yX6_tells wsX6_tells) := goodIn_app (goodIn_of _ (by decide +kernel)) ggX6_flows_X6_tells
theorem dX6_flows_0 : decode cX6_flows 0 = .ok (.aload_n 0, 1) := by decide +kernel
theorem dX6_flows_1 : decode cX6_flows 1 = .ok (.iload_n 1, 1) := by decide +kernel
theorem dX6_flows_2 : decode cX6_flows 2 = .ok (.iconst 0, 1) := by decide +kernel
theorem dX6_flows_3 : decode cX6_flows 3 = .ok (.invokevirtual 83, 3) := by decide +kernel
theorem dX6_flows_6 : decode cX6_flows 6 = .ok (.iload_n 2, 1) := by decide +kernel
theorem dX6_flows_7 : decode cX6_flows 7 = .ok (.imul, 1) := by decide +kernel
theorem dX6_flows_8 : decode cX6_flows 8 = .ok (.aload_n 0, 1) := by decide +kernel
theorem dX6_flows_9 : decode cX6_flows 9 = .ok (.iload_n 1, 1) := by decide +kernel
theorem dX6_flows_10 : decode cX6_flows 10 = .ok (.iconst 1, 1) := by decide +kernel
theorem dX6_flows_11 : decode cX6_flows 11 = .ok (.invokevirtual 83, 3) := by decide +kernel
theorem dX6_flows_14 : decode cX6_flows 14 = .ok (.imul, 1) := by decide +kernel
theorem dX6_flows_15 : decode cX6_flows 15 = .ok (.bipush 100, 2) := by decide +kernel
theorem dX6_flows_17 : decode cX6_flows 17 = .ok (.idiv, 1) := by decide +kernel
theorem dX6_flows_18 : decode cX6_flows 18 = .ok (.istore_n 3, 1) := by decide +kernel
theorem dX6_flows_19 : decode cX6_flows 19 = .ok (.aload_n 0, 1) := by decide +kernel
theorem dX6_flows_20 : decode cX6_flows 20 = .ok (.iload_n 1, 1) := by decide +kernel
theorem dX6_flows_21 : decode cX6_flows 21 = .ok (.iconst 2, 1) := by decide +kernel
theorem dX6_flows_22 : decode cX6_flows 22 = .ok (.invokevirtual 83, 3) := by decide +kernel
theorem dX6_flows_25 : decode cX6_flows 25 = .ok (.aload_n 0, 1) := by decide +kernel
theorem dX6_flows_26 : decode cX6_flows 26 = .ok (.iload_n 1, 1) := by decide +kernel
theorem dX6_flows_27 : decode cX6_flows 27 = .ok (.iconst 4, 1) := by decide +kernel
theorem dX6_flows_28 : decode cX6_flows 28 = .ok (.invokevirtual 83, 3) := by decide +kernel
theorem dX6_flows_31 : decode cX6_flows 31 = .ok (.isub, 1) := by decide +kernel
theorem dX6_flows_32 : decode cX6_flows 32 = .ok (.istore 4, 2) := by decide +kernel
theorem dX6_flows_34 : decode cX6_flows 34 = .ok (.iload_n 3, 1) := by decide +kernel
theorem dX6_flows_35 : decode cX6_flows 35 = .ok (.iload 4, 2) := by decide +kernel
theorem dX6_flows_37 : decode cX6_flows 37 = .ok (.if_icmp .ge 7, 3) := by decide +kernel
theorem dX6_flows_40 : decode cX6_flows 40 = .ok (.iload_n 3, 1) := by decide +kernel
theorem dX6_flows_41 : decode cX6_flows 41 = .ok (.goto 5, 3) := by decide +kernel
theorem dX6_flows_44 : decode cX6_flows 44 = .ok (.iload 4, 2) := by decide +kernel
theorem dX6_flows_46 : decode cX6_flows 46 = .ok (.istore 5, 2) := by decide +kernel
theorem dX6_flows_48 : decode cX6_flows 48 = .ok (.aload_n 0, 1) := by decide +kernel
theorem dX6_flows_49 : decode cX6_flows 49 = .ok (.getfield 7, 3) := by decide +kernel
theorem dX6_flows_52 : decode cX6_flows 52 = .ok (.iload_n 1, 1) := by decide +kernel
theorem dX6_flows_53 : decode cX6_flows 53 = .ok (.iconst 4, 1) := by decide +kernel
theorem dX6_flows_54 : decode cX6_flows 54 = .ok (.invokestatic 33, 3) := by decide +kernel
theorem dX6_flows_57 : decode cX6_flows 57 = .ok (.dup2, 1) := by decide +kernel
theorem dX6_flows_58 : decode cX6_flows 58 = .ok (.iaload, 1) := by decide +kernel
theorem dX6_flows_59 : decode cX6_flows 59 = .ok (.iload 5, 2) := by decide +kernel
theorem dX6_flows_61 : decode cX6_flows 61 = .ok (.iadd, 1) := by decide +kernel
theorem dX6_flows_62 : decode cX6_flows 62 = .ok (.iastore, 1) := by decide +kernel
theorem dX6_flows_63 : decode cX6_flows 63 = .ok (.aload_n 0, 1) := by decide +kernel
theorem dX6_flows_64 : decode cX6_flows 64 = .ok (.iconst 2, 1) := by decide +kernel
theorem dX6_flows_65 : decode cX6_flows 65 = .ok (.iload 5, 2) := by decide +kernel
theorem dX6_flows_67 : decode cX6_flows 67 = .ok (.invokevirtual 113, 3) := by decide +kernel
theorem dX6_flows_70 : decode cX6_flows 70 = .ok (.iload_n 3, 1) := by decide +kernel
theorem dX6_flows_71 : decode cX6_flows 71 = .ok (.iload 5, 2) := by decide +kernel
theorem dX6_flows_73 : decode cX6_flows 73 = .ok (.isub, 1) := by decide +kernel
theorem dX6_flows_74 : decode cX6_flows 74 = .ok (.istore_n 3, 1) := by decide +kernel
theorem dX6_flows_75 : decode cX6_flows 75 = .ok (.iload_n 3, 1) := by decide +kernel
theorem dX6_flows_76 : decode cX6_flows 76 = .ok (.aload_n 0, 1) := by decide +kernel
theorem dX6_flows_77 : decode cX6_flows 77 = .ok (.iload_n 1, 1) := by decide +kernel
theorem dX6_flows_78 : decode cX6_flows 78 = .ok (.iconst 3, 1) := by decide +kernel
theorem dX6_flows_79 : decode cX6_flows 79 = .ok (.invokevirtual 83, 3) := by decide +kernel
theorem dX6_flows_82 : decode cX6_flows 82 = .ok (.if_icmp .le 14, 3) := by decide +kernel
theorem dX6_flows_85 : decode cX6_flows 85 = .ok (.iload_n 3, 1) := by decide +kernel
theorem dX6_flows_86 : decode cX6_flows 86 = .ok (.aload_n 0, 1) := by decide +kernel
theorem dX6_flows_87 : decode cX6_flows 87 = .ok (.iload_n 1, 1) := by decide +kernel
theorem dX6_flows_88 : decode cX6_flows 88 = .ok (.iconst 3, 1) := by decide +kernel
theorem dX6_flows_89 : decode cX6_flows 89 = .ok (.invokevirtual 83, 3) := by decide +kernel
theorem dX6_flows_92 : decode cX6_flows 92 = .ok (.isub, 1) := by decide +kernel
theorem dX6_flows_93 : decode cX6_flows 93 = .ok (.goto 4, 3) := by decide +kernel
theorem dX6_flows_96 : decode cX6_flows 96 = .ok (.iconst 0, 1) := by decide +kernel
theorem dX6_flows_97 : decode cX6_flows 97 = .ok (.istore 6, 2) := by decide +kernel
theorem dX6_flows_99 : decode cX6_flows 99 = .ok (.aload_n 0, 1) := by decide +kernel
theorem dX6_flows_100 : decode cX6_flows 100 = .ok (.iconst 3, 1) := by decide +kernel
theorem dX6_flows_101 : decode cX6_flows 101 = .ok (.iload 6, 2) := by decide +kernel
theorem dX6_flows_103 : decode cX6_flows 103 = .ok (.invokevirtual 113, 3) := by decide +kernel
theorem dX6_flows_106 : decode cX6_flows 106 = .ok (.aload_n 0, 1) := by decide +kernel
theorem dX6_flows_107 : decode cX6_flows 107 = .ok (.getfield 19, 3) := by decide +kernel
theorem dX6_flows_110 : decode cX6_flows 110 = .ok (.iload_n 1, 1) := by decide +kernel
theorem dX6_flows_111 : decode cX6_flows 111 = .ok (.dup2, 1) := by decide +kernel
theorem dX6_flows_112 : decode cX6_flows 112 = .ok (.laload, 1) := by decide +kernel
theorem dX6_flows_113 : decode cX6_flows 113 = .ok (.iload 6, 2) := by decide +kernel
theorem dX6_flows_115 : decode cX6_flows 115 = .ok (.i2l, 1) := by decide +kernel
theorem dX6_flows_116 : decode cX6_flows 116 = .ok (.ladd, 1) := by decide +kernel
theorem dX6_flows_117 : decode cX6_flows 117 = .ok (.lastore, 1) := by decide +kernel
theorem dX6_flows_118 : decode cX6_flows 118 = .ok (.iload_n 3, 1) := by decide +kernel
theorem dX6_flows_119 : decode cX6_flows 119 = .ok (.iload 6, 2) := by decide +kernel
theorem dX6_flows_121 : decode cX6_flows 121 = .ok (.isub, 1) := by decide +kernel
theorem dX6_flows_122 : decode cX6_flows 122 = .ok (.ireturn, 1) := by decide +kernel
