theorem dX0_init_0 : decode cX0_init 0 = .ok (.aload_n 0, 1) := by decide +kernel
theorem dX0_init_1 : decode cX0_init 1 = .ok (.invokespecial 3, 3) := by decide +kernel
theorem dX0_init_4 : decode cX0_init 4 = .ok (.aload_n 0, 1) := by decide +kernel
theorem dX0_init_5 : decode cX0_init 5 = .ok (.bipush 120, 2) := by decide +kernel
theorem dX0_init_7 : decode cX0_init 7 = .ok (.newarray .byte, 2) := by decide +kernel
theorem dX0_init_9 : decode cX0_init 9 = .ok (.putfield 9, 3) := by decide +kernel
theorem dX0_init_12 : decode cX0_init 12 = .ok (.aload_n 0, 1) := by decide +kernel
theorem dX0_init_13 : decode cX0_init 13 = .ok (.bipush 100, 2) := by decide +kernel
theorem dX0_init_15 : decode cX0_init 15 = .ok (.newarray .int, 2) := by decide +kernel
theorem dX0_init_17 : decode cX0_init 17 = .ok (.putfield 15, 3) := by decide +kernel
theorem dX0_init_20 : decode cX0_init 20 = .ok (.return_, 1) := by decide +kernel
theorem dX1_init_0 : decode cX1_init 0 = .ok (.aload_n 0, 1) := by decide +kernel
theorem dX1_init_1 : decode cX1_init 1 = .ok (.invokespecial 1, 3) := by decide +kernel
theorem dX1_init_4 : decode cX1_init 4 = .ok (.return_, 1) := by decide +kernel
set_option maxRecDepth 20000 in
theorem ggX1_set_X1_clearAmounts : GoodIn wsX1_set wsX1_clearAmounts := goodIn_r _ [9, 10, 11, 12, 13, 14, 15, 16, 17] (by decide +kernel) (by decide +kernel)
set_option maxRecDepth 20000 in
theorem gX1_set_X1_clearAmounts : GoodIn wsX1_set (wsV RX1 22 RX1 yX1_clearAmounts wsX1_clearAmounts) := goodIn_app (goodIn_of _ (by decide +kernel)) ggX1_set_X1_clearAmounts
theorem dX1_set_0 : decode cX1_set 0 = .ok (.aload_n 0, 1) := by decide +kernel
theorem dX1_set_1 : decode cX1_set 1 = .ok (.iload_n 1, 1) := by decide +kernel
theorem dX1_set_2 : decode cX1_set 2 = .ok (.putfield 7, 3) := by decide +kernel
theorem dX1_set_5 : decode cX1_set 5 = .ok (.aload_n 0, 1) := by decide +kernel
theorem dX1_set_6 : decode cX1_set 6 = .ok (.iload_n 2, 1) := by decide +kernel
theorem dX1_set_7 : decode cX1_set 7 = .ok (.putfield 13, 3) := by decide +kernel
theorem dX1_set_10 : decode cX1_set 10 = .ok (.aload_n 0, 1) := by decide +kernel
theorem dX1_set_11 : decode cX1_set 11 = .ok (.iload_n 3, 1) := by decide +kernel
theorem dX1_set_12 : decode cX1_set 12 = .ok (.putfield 16, 3) := by decide +kernel
theorem dX1_set_15 : decode cX1_set 15 = .ok (.aload_n 0, 1) := by decide +kernel
theorem dX1_set_16 : decode cX1_set 16 = .ok (.iload 4, 2) := by decide +kernel
theorem dX1_set_18 : decode cX1_set 18 = .ok (.putfield 19, 3) := by decide +kernel
theorem dX1_set_21 : decode cX1_set 21 = .ok (.aload_n 0, 1) := by decide +kernel
theorem dX1_set_22 : decode cX1_set 22 = .ok (.invokevirtual 22, 3) := by decide +kernel
theorem dX1_set_25 : decode cX1_set 25 = .ok (.return_, 1) := by decide +kernel
set_option maxRecDepth 20000 in
theorem ggX1_copyFrom_X1_set : GoodIn wsX1_copyFrom wsX1_set := goodIn_r _ [11, 1, 2, 3, 4, 12, 13, 14, 10, 15, 5, 6, 16, 17, 18, 19, 20, 21] (by decide +kernel) (by decide +kernel)
set_option maxRecDepth 20000 in
theorem gX1_copyFrom_X1_set : GoodIn wsX1_copyFrom (wsV RX1 25 RX1 yX1_set wsX1_set) := goodIn_app (goodIn_of _ (by decide +kernel)) ggX1_copyFrom_X1_set
theorem dX1_copyFrom_0 : decode cX1_copyFrom 0 = .ok (.aload_n 0, 1) := by decide +kernel
theorem dX1_copyFrom_1 : decode cX1_copyFrom 1 = .ok (.aload_n 1, 1) := by decide +kernel
theorem dX1_copyFrom_2 : decode cX1_copyFrom 2 = .ok (.getfield 7, 3) := by decide +kernel
theorem dX1_copyFrom_5 : decode cX1_copyFrom 5 = .ok (.aload_n 1, 1) := by decide +kernel
theorem dX1_copyFrom_6 : decode cX1_copyFrom 6 = .ok (.getfield 13, 3) := by decide +kernel
theorem dX1_copyFrom_9 : decode cX1_copyFrom 9 = .ok (.aload_n 1, 1) := by decide +kernel
theorem dX1_copyFrom_10 : decode cX1_copyFrom 10 = .ok (.getfield 16, 3) := by decide +kernel
theorem dX1_copyFrom_13 : decode cX1_copyFrom 13 = .ok (.aload_n 1, 1) := by decide +kernel
theorem dX1_copyFrom_14 : decode cX1_copyFrom 14 = .ok (.getfield 19, 3) := by decide +kernel
theorem dX1_copyFrom_17 : decode cX1_copyFrom 17 = .ok (.invokevirtual 25, 3) := by decide +kernel
theorem dX1_copyFrom_20 : decode cX1_copyFrom 20 = .ok (.aload_n 0, 1) := by decide +kernel
theorem dX1_copyFrom_21 : decode cX1_copyFrom 21 = .ok (.aload_n 1, 1) := by decide +kernel
theorem dX1_copyFrom_22 : decode cX1_copyFrom 22 = .ok (.getfield 29, 3) := by decide +kernel
theorem dX1_copyFrom_25 : decode cX1_copyFrom 25 = .ok (.putfield 29, 3) := by decide +kernel
theorem dX1_copyFrom_28 : decode cX1_copyFrom 28 = .ok (.aload_n 0, 1) := by decide +kernel
theorem dX1_copyFrom_29 : decode cX1_copyFrom 29 = .ok (.aload_n 1, 1) := by decide +kernel
theorem dX1_copyFrom_30 : decode cX1_copyFrom 30 = .ok (.getfield 32, 3) := by decide +kernel
theorem dX1_copyFrom_33 : decode cX1_copyFrom 33 = .ok (.putfield 32, 3) := by decide +kernel
theorem dX1_copyFrom_36 : decode cX1_copyFrom 36 = .ok (.return_, 1) := by decide +kernel
theorem dX1_clearAmounts_0 : decode cX1_clearAmounts 0 = .ok (.aload_n 0, 1) := by decide +kernel
theorem dX1_clearAmounts_1 : decode cX1_clearAmounts 1 = .ok (.iconst 0, 1) := by decide +kernel
theorem dX1_clearAmounts_2 : decode cX1_clearAmounts 2 = .ok (.putfield 29, 3) := by decide +kernel
theorem dX1_clearAmounts_5 : decode cX1_clearAmounts 5 = .ok (.aload_n 0, 1) := by decide +kernel
theorem dX1_clearAmounts_6 : decode cX1_clearAmounts 6 = .ok (.iconst 0, 1) := by decide +kernel
theorem dX1_clearAmounts_7 : decode cX1_clearAmounts 7 = .ok (.putfield 32, 3) := by decide +kernel
theorem dX1_clearAmounts_10 : decode cX1_clearAmounts 10 = .ok (.return_, 1) := by decide +kernel
theorem dX1_value_0 : decode cX1_value 0 = .ok (.iload_n 1, 1) := by decide +kernel
theorem dX1_value_1 : decode cX1_value 1 = .ok (.tableswitch 51 0 3 #[31, 36, 41, 46], 31) := by decide +kernel
theorem dX1_value_32 : decode cX1_value 32 = .ok (.aload_n 0, 1) := by decide +kernel
theorem dX1_value_33 : decode cX1_value 33 = .ok (.getfield 7, 3) := by decide +kernel
theorem dX1_value_36 : decode cX1_value 36 = .ok (.ireturn, 1) := by decide +kernel
theorem dX1_value_37 : decode cX1_value 37 = .ok (.aload_n 0, 1) := by decide +kernel
theorem dX1_value_38 : decode cX1_value 38 = .ok (.getfield 13, 3) := by decide +kernel
theorem dX1_value_41 : decode cX1_value 41 = .ok (.ireturn, 1) := by decide +kernel
theorem dX1_value_42 : decode cX1_value 42 = .ok (.aload_n 0, 1) := by decide +kernel
theorem dX1_value_43 : decode cX1_value 43 = .ok (.getfield 16, 3) := by decide +kernel
theorem dX1_value_46 : decode cX1_value 46 = .ok (.ireturn, 1) := by decide +kernel
theorem dX1_value_47 : decode cX1_value 47 = .ok (.aload_n 0, 1) := by decide +kernel
theorem dX1_value_48 : decode cX1_value 48 = .ok (.getfield 19, 3) := by decide +kernel
theorem dX1_value_51 : decode cX1_value 51 = .ok (.ireturn, 1) := by decide +kernel
theorem dX1_value_52 : decode cX1_value 52 = .ok (.aload_n 0, 1) := by decide +kernel
theorem dX1_value_53 : decode cX1_value 53 = .ok (.getfield 29, 3) := by decide +kernel
theorem dX1_value_56 : decode cX1_value 56 = .ok (.ireturn, 1) := by decide +kernel
theorem dX1_caught_0 : decode cX1_caught 0 = .ok (.aload_n 0, 1) := by decide +kernel
theorem dX1_caught_1 : decode cX1_caught 1 = .ok (.getfield 7, 3) := by decide +kernel
theorem dX1_caught_4 : decode cX1_caught 4 = .ok (.iload_n 1, 1) := by decide +kernel
theorem dX1_caught_5 : decode cX1_caught 5 = .ok (.imul, 1) := by decide +kernel
theorem dX1_caught_6 : decode cX1_caught 6 = .ok (.aload_n 0, 1) := by decide +kernel
theorem dX1_caught_7 : decode cX1_caught 7 = .ok (.getfield 13, 3) := by decide +kernel
theorem dX1_caught_10 : decode cX1_caught 10 = .ok (.imul, 1) := by decide +kernel
theorem dX1_caught_11 : decode cX1_caught 11 = .ok (.bipush 100, 2) := by decide +kernel
theorem dX1_caught_13 : decode cX1_caught 13 = .ok (.idiv, 1) := by decide +kernel
theorem dX1_caught_14 : decode cX1_caught 14 = .ok (.ireturn, 1) := by decide +kernel
theorem dX1_divert_0 : decode cX1_divert 0 = .ok (.iload_n 1, 1) := by decide +kernel
theorem dX1_divert_1 : decode cX1_divert 1 = .ok (.aload_n 0, 1) := by decide +kernel
theorem dX1_divert_2 : decode cX1_divert 2 = .ok (.getfield 16, 3) := by decide +kernel
theorem dX1_divert_5 : decode cX1_divert 5 = .ok (.aload_n 0, 1) := by decide +kernel
theorem dX1_divert_6 : decode cX1_divert 6 = .ok (.getfield 29, 3) := by decide +kernel
theorem dX1_divert_9 : decode cX1_divert 9 = .ok (.isub, 1) := by decide +kernel
theorem dX1_divert_10 : decode cX1_divert 10 = .ok (.invokestatic 35, 3) := by decide +kernel
theorem dX1_divert_13 : decode cX1_divert 13 = .ok (.istore_n 2, 1) := by decide +kernel
theorem dX1_divert_14 : decode cX1_divert 14 = .ok (.aload_n 0, 1) := by decide +kernel
theorem dX1_divert_15 : decode cX1_divert 15 = .ok (.dup, 1) := by decide +kernel
theorem dX1_divert_16 : decode cX1_divert 16 = .ok (.getfield 29, 3) := by decide +kernel
theorem dX1_divert_19 : decode cX1_divert 19 = .ok (.iload_n 2, 1) := by decide +kernel
theorem dX1_divert_20 : decode cX1_divert 20 = .ok (.iadd, 1) := by decide +kernel
theorem dX1_divert_21 : decode cX1_divert 21 = .ok (.putfield 29, 3) := by decide +kernel
theorem dX1_divert_24 : decode cX1_divert 24 = .ok (.iload_n 2, 1) := by decide +kernel
theorem dX1_divert_25 : decode cX1_divert 25 = .ok (.ireturn, 1) := by decide +kernel
theorem dX1_spill_0 : decode cX1_spill 0 = .ok (.iload_n 1, 1) := by decide +kernel
theorem dX1_spill_1 : decode cX1_spill 1 = .ok (.aload_n 0, 1) := by decide +kernel
theorem dX1_spill_2 : decode cX1_spill 2 = .ok (.getfield 19, 3) := by decide +kernel
theorem dX1_spill_5 : decode cX1_spill 5 = .ok (.isub, 1) := by decide +kernel
theorem dX1_spill_6 : decode cX1_spill 6 = .ok (.iconst 0, 1) := by decide +kernel
theorem dX1_spill_7 : decode cX1_spill 7 = .ok (.invokestatic 41, 3) := by decide +kernel
theorem dX1_spill_10 : decode cX1_spill 10 = .ok (.istore_n 2, 1) := by decide +kernel
theorem dX1_spill_11 : decode cX1_spill 11 = .ok (.aload_n 0, 1) := by decide +kernel
theorem dX1_spill_12 : decode cX1_spill 12 = .ok (.dup, 1) := by decide +kernel
theorem dX1_spill_13 : decode cX1_spill 13 = .ok (.getfield 32, 3) := by decide +kernel
theorem dX1_spill_16 : decode cX1_spill 16 = .ok (.iload_n 2, 1) := by decide +kernel
theorem dX1_spill_17 : decode cX1_spill 17 = .ok (.iadd, 1) := by decide +kernel
theorem dX1_spill_18 : decode cX1_spill 18 = .ok (.putfield 32, 3) := by decide +kernel
theorem dX1_spill_21 : decode cX1_spill 21 = .ok (.iload_n 2, 1) := by decide +kernel
theorem dX1_spill_22 : decode cX1_spill 22 = .ok (.ireturn, 1) := by decide +kernel
theorem dX1_drain_0 : decode cX1_drain 0 = .ok (.aload_n 0, 1) := by decide +kernel
theorem dX1_drain_1 : decode cX1_drain 1 = .ok (.getfield 29, 3) := by decide +kernel
theorem dX1_drain_4 : decode cX1_drain 4 = .ok (.istore_n 1, 1) := by decide +kernel
theorem dX1_drain_5 : decode cX1_drain 5 = .ok (.aload_n 0, 1) := by decide +kernel
theorem dX1_drain_6 : decode cX1_drain 6 = .ok (.iconst 0, 1) := by decide +kernel
theorem dX1_drain_7 : decode cX1_drain 7 = .ok (.putfield 29, 3) := by decide +kernel
theorem dX1_drain_10 : decode cX1_drain 10 = .ok (.iload_n 1, 1) := by decide +kernel
theorem dX1_drain_11 : decode cX1_drain 11 = .ok (.ireturn, 1) := by decide +kernel
set_option maxRecDepth 20000 in
theorem ggX2_init_X1_init : GoodIn wsX2_init wsX1_init := goodIn_r _ [18, 19, 2, 3] (by decide +kernel) (by decide +kernel)
set_option maxRecDepth 20000 in
theorem gX2_init_X1_init_n24 : GoodIn wsX2_init (wsX1_init) := ggX2_init_X1_init
set_option maxRecDepth 20000 in
theorem ggX2_init_X4_init : GoodIn wsX2_init wsX4_init := goodIn_r _ [22, 23, 2, 3, 24, 25, 26, 27, 14, 28, 29, 30, 31, 54, 55, 56, 57, 58, 59, 60] (by decide +kernel) (by decide +kernel)
set_option maxRecDepth 20000 in
theorem gX2_init_X4_init : GoodIn wsX2_init (wsX4_init) := ggX2_init_X4_init
theorem dX2_init_0 : decode cX2_init 0 = .ok (.aload_n 0, 1) := by decide +kernel
theorem dX2_init_1 : decode cX2_init 1 = .ok (.invokespecial 3, 3) := by decide +kernel
theorem dX2_init_4 : decode cX2_init 4 = .ok (.aload_n 0, 1) := by decide +kernel
theorem dX2_init_5 : decode cX2_init 5 = .ok (.sipush 10000, 3) := by decide +kernel
theorem dX2_init_8 : decode cX2_init 8 = .ok (.putfield 9, 3) := by decide +kernel
theorem dX2_init_11 : decode cX2_init 11 = .ok (.aload_n 0, 1) := by decide +kernel
theorem dX2_init_12 : decode cX2_init 12 = .ok (.iconst 3, 1) := by decide +kernel
theorem dX2_init_13 : decode cX2_init 13 = .ok (.putfield 15, 3) := by decide +kernel
theorem dX2_init_16 : decode cX2_init 16 = .ok (.aload_n 0, 1) := by decide +kernel
theorem dX2_init_17 : decode cX2_init 17 = .ok (.bipush 6, 2) := by decide +kernel
theorem dX2_init_19 : decode cX2_init 19 = .ok (.anewarray 18, 3) := by decide +kernel
theorem dX2_init_22 : decode cX2_init 22 = .ok (.putfield 20, 3) := by decide +kernel
theorem dX2_init_25 : decode cX2_init 25 = .ok (.iconst 0, 1) := by decide +kernel
theorem dX2_init_26 : decode cX2_init 26 = .ok (.istore_n 1, 1) := by decide +kernel
theorem dX2_init_27 : decode cX2_init 27 = .ok (.iload_n 1, 1) := by decide +kernel
theorem dX2_init_28 : decode cX2_init 28 = .ok (.aload_n 0, 1) := by decide +kernel
theorem dX2_init_29 : decode cX2_init 29 = .ok (.getfield 20, 3) := by decide +kernel
theorem dX2_init_32 : decode cX2_init 32 = .ok (.arraylength, 1) := by decide +kernel
theorem dX2_init_33 : decode cX2_init 33 = .ok (.if_icmp .ge 22, 3) := by decide +kernel
theorem dX2_init_36 : decode cX2_init 36 = .ok (.aload_n 0, 1) := by decide +kernel
theorem dX2_init_37 : decode cX2_init 37 = .ok (.getfield 20, 3) := by decide +kernel
theorem dX2_init_40 : decode cX2_init 40 = .ok (.iload_n 1, 1) := by decide +kernel
theorem dX2_init_41 : decode cX2_init 41 = .ok (.new 18, 3) := by decide +kernel
theorem dX2_init_44 : decode cX2_init 44 = .ok (.dup, 1) := by decide +kernel
theorem dX2_init_45 : decode cX2_init 45 = .ok (.invokespecial 24, 3) := by decide +kernel
theorem dX2_init_48 : decode cX2_init 48 = .ok (.aastore, 1) := by decide +kernel
theorem dX2_init_49 : decode cX2_init 49 = .ok (.iinc 1 1, 3) := by decide +kernel
theorem dX2_init_52 : decode cX2_init 52 = .ok (.goto (-25), 3) := by decide +kernel
theorem dX2_init_55 : decode cX2_init 55 = .ok (.aload_n 0, 1) := by decide +kernel
theorem dX2_init_56 : decode cX2_init 56 = .ok (.new 25, 3) := by decide +kernel
theorem dX2_init_59 : decode cX2_init 59 = .ok (.dup, 1) := by decide +kernel
theorem dX2_init_60 : decode cX2_init 60 = .ok (.invokespecial 27, 3) := by decide +kernel
theorem dX2_init_63 : decode cX2_init 63 = .ok (.putfield 28, 3) := by decide +kernel
theorem dX2_init_66 : decode cX2_init 66 = .ok (.aload_n 0, 1) := by decide +kernel
theorem dX2_init_67 : decode cX2_init 67 = .ok (.bipush 100, 2) := by decide +kernel
theorem dX2_init_69 : decode cX2_init 69 = .ok (.newarray .int, 2) := by decide +kernel
theorem dX2_init_71 : decode cX2_init 71 = .ok (.putfield 32, 3) := by decide +kernel
theorem dX2_init_74 : decode cX2_init 74 = .ok (.aload_n 0, 1) := by decide +kernel
theorem dX2_init_75 : decode cX2_init 75 = .ok (.sipush 1000, 3) := by decide +kernel
theorem dX2_init_78 : decode cX2_init 78 = .ok (.newarray .int, 2) := by decide +kernel
theorem dX2_init_80 : decode cX2_init 80 = .ok (.putfield 36, 3) := by decide +kernel
theorem dX2_init_83 : decode cX2_init 83 = .ok (.return_, 1) := by decide +kernel
set_option maxRecDepth 20000 in
theorem ggX2_copyFrom_X1_copyFrom : GoodIn wsX2_copyFrom wsX1_copyFrom := goodIn_r _ [25, 26, 27, 28, 29, 30, 31, 32, 33, 34, 24, 35, 36, 37, 38, 39, 80, 81, 82, 83, 84, 85] (by decide +kernel) (by decide +kernel)
set_option maxRecDepth 20000 in
theorem gX2_copyFrom_X1_copyFrom : GoodIn wsX2_copyFrom (wsV RX2 54 RX1 yX1_copyFrom wsX1_copyFrom) := goodIn_app (goodIn_of _ (by decide +kernel)) ggX2_copyFrom_X1_copyFrom
set_option maxRecDepth 20000 in
theorem ggX2_copyFrom_X4_copyFrom : GoodIn wsX2_copyFrom wsX4_copyFrom := goodIn_r _ [44, 45, 46, 47, 48, 49, 50, 51, 52, 53, 54, 55, 56, 57, 58, 59, 60, 61, 62, 63, 86, 87, 88, 89, 90, 91, 92] (by decide +kernel) (by decide +kernel)
set_option maxRecDepth 20000 in
theorem gX2_copyFrom_X4_copyFrom : GoodIn wsX2_copyFrom (wsV RX2 58 RX4 yX4_copyFrom wsX4_copyFrom) := goodIn_app (goodIn_of _ (by decide +kernel)) ggX2_copyFrom_X4_copyFrom
theorem dX2_copyFrom_0 : decode cX2_copyFrom 0 = .ok (.aload_n 0, 1) := by decide +kernel
theorem dX2_copyFrom_1 : decode cX2_copyFrom 1 = .ok (.aload_n 1, 1) := by decide +kernel
theorem dX2_copyFrom_2 : decode cX2_copyFrom 2 = .ok (.getfield 9, 3) := by decide +kernel
theorem dX2_copyFrom_5 : decode cX2_copyFrom 5 = .ok (.putfield 9, 3) := by decide +kernel
theorem dX2_copyFrom_8 : decode cX2_copyFrom 8 = .ok (.aload_n 0, 1) := by decide +kernel
theorem dX2_copyFrom_9 : decode cX2_copyFrom 9 = .ok (.aload_n 1, 1) := by decide +kernel
theorem dX2_copyFrom_10 : decode cX2_copyFrom 10 = .ok (.getfield 39, 3) := by decide +kernel
theorem dX2_copyFrom_13 : decode cX2_copyFrom 13 = .ok (.putfield 39, 3) := by decide +kernel
theorem dX2_copyFrom_16 : decode cX2_copyFrom 16 = .ok (.aload_n 0, 1) := by decide +kernel
theorem dX2_copyFrom_17 : decode cX2_copyFrom 17 = .ok (.aload_n 1, 1) := by decide +kernel
theorem dX2_copyFrom_18 : decode cX2_copyFrom 18 = .ok (.getfield 42, 3) := by decide +kernel
theorem dX2_copyFrom_21 : decode cX2_copyFrom 21 = .ok (.putfield 42, 3) := by decide +kernel
theorem dX2_copyFrom_24 : decode cX2_copyFrom 24 = .ok (.aload_n 0, 1) := by decide +kernel
theorem dX2_copyFrom_25 : decode cX2_copyFrom 25 = .ok (.aload_n 1, 1) := by decide +kernel
theorem dX2_copyFrom_26 : decode cX2_copyFrom 26 = .ok (.getfield 45, 3) := by decide +kernel
theorem dX2_copyFrom_29 : decode cX2_copyFrom 29 = .ok (.putfield 45, 3) := by decide +kernel
theorem dX2_copyFrom_32 : decode cX2_copyFrom 32 = .ok (.aload_n 0, 1) := by decide +kernel
theorem dX2_copyFrom_33 : decode cX2_copyFrom 33 = .ok (.aload_n 1, 1) := by decide +kernel
theorem dX2_copyFrom_34 : decode cX2_copyFrom 34 = .ok (.getfield 15, 3) := by decide +kernel
theorem dX2_copyFrom_37 : decode cX2_copyFrom 37 = .ok (.putfield 15, 3) := by decide +kernel
theorem dX2_copyFrom_40 : decode cX2_copyFrom 40 = .ok (.aload_n 0, 1) := by decide +kernel
theorem dX2_copyFrom_41 : decode cX2_copyFrom 41 = .ok (.aload_n 1, 1) := by decide +kernel
theorem dX2_copyFrom_42 : decode cX2_copyFrom 42 = .ok (.getfield 48, 3) := by decide +kernel
theorem dX2_copyFrom_45 : decode cX2_copyFrom 45 = .ok (.putfield 48, 3) := by decide +kernel
theorem dX2_copyFrom_48 : decode cX2_copyFrom 48 = .ok (.aload_n 0, 1) := by decide +kernel
theorem dX2_copyFrom_49 : decode cX2_copyFrom 49 = .ok (.aload_n 1, 1) := by decide +kernel
theorem dX2_copyFrom_50 : decode cX2_copyFrom 50 = .ok (.getfield 51, 3) := by decide +kernel
theorem dX2_copyFrom_53 : decode cX2_copyFrom 53 = .ok (.putfield 51, 3) := by decide +kernel
theorem dX2_copyFrom_56 : decode cX2_copyFrom 56 = .ok (.iconst 0, 1) := by decide +kernel
theorem dX2_copyFrom_57 : decode cX2_copyFrom 57 = .ok (.istore_n 2, 1) := by decide +kernel
theorem dX2_copyFrom_58 : decode cX2_copyFrom 58 = .ok (.iload_n 2, 1) := by decide +kernel
theorem dX2_copyFrom_59 : decode cX2_copyFrom 59 = .ok (.aload_n 0, 1) := by decide +kernel
theorem dX2_copyFrom_60 : decode cX2_copyFrom 60 = .ok (.getfield 51, 3) := by decide +kernel
theorem dX2_copyFrom_63 : decode cX2_copyFrom 63 = .ok (.if_icmp .ge 24, 3) := by decide +kernel
theorem dX2_copyFrom_66 : decode cX2_copyFrom 66 = .ok (.aload_n 0, 1) := by decide +kernel
theorem dX2_copyFrom_67 : decode cX2_copyFrom 67 = .ok (.getfield 20, 3) := by decide +kernel
theorem dX2_copyFrom_70 : decode cX2_copyFrom 70 = .ok (.iload_n 2, 1) := by decide +kernel
theorem dX2_copyFrom_71 : decode cX2_copyFrom 71 = .ok (.aaload, 1) := by decide +kernel
theorem dX2_copyFrom_72 : decode cX2_copyFrom 72 = .ok (.aload_n 1, 1) := by decide +kernel
theorem dX2_copyFrom_73 : decode cX2_copyFrom 73 = .ok (.getfield 20, 3) := by decide +kernel
theorem dX2_copyFrom_76 : decode cX2_copyFrom 76 = .ok (.iload_n 2, 1) := by decide +kernel
theorem dX2_copyFrom_77 : decode cX2_copyFrom 77 = .ok (.aaload, 1) := by decide +kernel
theorem dX2_copyFrom_78 : decode cX2_copyFrom 78 = .ok (.invokevirtual 54, 3) := by decide +kernel
theorem dX2_copyFrom_81 : decode cX2_copyFrom 81 = .ok (.iinc 2 1, 3) := by decide +kernel
theorem dX2_copyFrom_84 : decode cX2_copyFrom 84 = .ok (.goto (-26), 3) := by decide +kernel
theorem dX2_copyFrom_87 : decode cX2_copyFrom 87 = .ok (.aload_n 0, 1) := by decide +kernel
theorem dX2_copyFrom_88 : decode cX2_copyFrom 88 = .ok (.getfield 28, 3) := by decide +kernel
theorem dX2_copyFrom_91 : decode cX2_copyFrom 91 = .ok (.aload_n 1, 1) := by decide +kernel
theorem dX2_copyFrom_92 : decode cX2_copyFrom 92 = .ok (.getfield 28, 3) := by decide +kernel
theorem dX2_copyFrom_95 : decode cX2_copyFrom 95 = .ok (.invokevirtual 58, 3) := by decide +kernel
theorem dX2_copyFrom_98 : decode cX2_copyFrom 98 = .ok (.aload_n 0, 1) := by decide +kernel
theorem dX2_copyFrom_99 : decode cX2_copyFrom 99 = .ok (.aload_n 1, 1) := by decide +kernel
theorem dX2_copyFrom_100 : decode cX2_copyFrom 100 = .ok (.getfield 61, 3) := by decide +kernel
theorem dX2_copyFrom_103 : decode cX2_copyFrom 103 = .ok (.putfield 61, 3) := by decide +kernel
theorem dX2_copyFrom_106 : decode cX2_copyFrom 106 = .ok (.aload_n 1, 1) := by decide +kernel
theorem dX2_copyFrom_107 : decode cX2_copyFrom 107 = .ok (.getfield 32, 3) := by decide +kernel
theorem dX2_copyFrom_110 : decode cX2_copyFrom 110 = .ok (.iconst 0, 1) := by decide +kernel
theorem dX2_copyFrom_111 : decode cX2_copyFrom 111 = .ok (.aload_n 0, 1) := by decide +kernel
theorem dX2_copyFrom_112 : decode cX2_copyFrom 112 = .ok (.getfield 32, 3) := by decide +kernel
theorem dX2_copyFrom_115 : decode cX2_copyFrom 115 = .ok (.iconst 0, 1) := by decide +kernel
theorem dX2_copyFrom_116 : decode cX2_copyFrom 116 = .ok (.aload_n 0, 1) := by decide +kernel
theorem dX2_copyFrom_117 : decode cX2_copyFrom 117 = .ok (.getfield 61, 3) := by decide +kernel
theorem dX2_copyFrom_120 : decode cX2_copyFrom 120 = .ok (.invokestatic 64, 3) := by decide +kernel
theorem dX2_copyFrom_123 : decode cX2_copyFrom 123 = .ok (.aload_n 0, 1) := by decide +kernel
theorem dX2_copyFrom_124 : decode cX2_copyFrom 124 = .ok (.aload_n 1, 1) := by decide +kernel
theorem dX2_copyFrom_125 : decode cX2_copyFrom 125 = .ok (.getfield 70, 3) := by decide +kernel
theorem dX2_copyFrom_128 : decode cX2_copyFrom 128 = .ok (.putfield 70, 3) := by decide +kernel
theorem dX2_copyFrom_131 : decode cX2_copyFrom 131 = .ok (.aload_n 1, 1) := by decide +kernel
theorem dX2_copyFrom_132 : decode cX2_copyFrom 132 = .ok (.getfield 36, 3) := by decide +kernel
theorem dX2_copyFrom_135 : decode cX2_copyFrom 135 = .ok (.iconst 0, 1) := by decide +kernel
theorem dX2_copyFrom_136 : decode cX2_copyFrom 136 = .ok (.aload_n 0, 1) := by decide +kernel
theorem dX2_copyFrom_137 : decode cX2_copyFrom 137 = .ok (.getfield 36, 3) := by decide +kernel
theorem dX2_copyFrom_140 : decode cX2_copyFrom 140 = .ok (.iconst 0, 1) := by decide +kernel
theorem dX2_copyFrom_141 : decode cX2_copyFrom 141 = .ok (.aload_n 0, 1) := by decide +kernel
theorem dX2_copyFrom_142 : decode cX2_copyFrom 142 = .ok (.getfield 70, 3) := by decide +kernel
theorem dX2_copyFrom_145 : decode cX2_copyFrom 145 = .ok (.bipush 10, 2) := by decide +kernel
theorem dX2_copyFrom_147 : decode cX2_copyFrom 147 = .ok (.imul, 1) := by decide +kernel
theorem dX2_copyFrom_148 : decode cX2_copyFrom 148 = .ok (.invokestatic 64, 3) := by decide +kernel
theorem dX2_copyFrom_151 : decode cX2_copyFrom 151 = .ok (.aload_n 0, 1) := by decide +kernel
theorem dX2_copyFrom_152 : decode cX2_copyFrom 152 = .ok (.aload_n 1, 1) := by decide +kernel
theorem dX2_copyFrom_153 : decode cX2_copyFrom 153 = .ok (.getfield 73, 3) := by decide +kernel
theorem dX2_copyFrom_156 : decode cX2_copyFrom 156 = .ok (.putfield 73, 3) := by decide +kernel
theorem dX2_copyFrom_159 : decode cX2_copyFrom 159 = .ok (.aload_n 0, 1) := by decide +kernel
theorem dX2_copyFrom_160 : decode cX2_copyFrom 160 = .ok (.aload_n 1, 1) := by decide +kernel
theorem dX2_copyFrom_161 : decode cX2_copyFrom 161 = .ok (.getfield 76, 3) := by decide +kernel
theorem dX2_copyFrom_164 : decode cX2_copyFrom 164 = .ok (.putfield 76, 3) := by decide +kernel
theorem dX2_copyFrom_167 : decode cX2_copyFrom 167 = .ok (.aload_n 0, 1) := by decide +kernel
theorem dX2_copyFrom_168 : decode cX2_copyFrom 168 = .ok (.aload_n 1, 1) := by decide +kernel
theorem dX2_copyFrom_169 : decode cX2_copyFrom 169 = .ok (.getfield 79, 3) := by decide +kernel
theorem dX2_copyFrom_172 : decode cX2_copyFrom 172 = .ok (.putfield 79, 3) := by decide +kernel
theorem dX2_copyFrom_175 : decode cX2_copyFrom 175 = .ok (.return_, 1) := by decide +kernel
set_option maxRecDepth 20000 in
theorem ggX2_goBack_X1_clearAmounts : GoodIn wsX2_goBack wsX1_clearAmounts := goodIn_r _ [12, 13, 14, 45, 46, 47, 48, 49, 50] (by decide +kernel) (by decide +kernel)
set_option maxRecDepth 20000 in
theorem gX2_goBack_X1_clearAmounts : GoodIn wsX2_goBack (wsV RX2 83 RX1 yX1_clearAmounts wsX1_clearAmounts) := goodIn_app (goodIn_of _ (by decide +kernel)) ggX2_goBack_X1_clearAmounts
set_option maxRecDepth 20000 in
theorem ggX2_goBack_X4_clearAmounts : GoodIn wsX2_goBack wsX4_clearAmounts := goodIn_r _ [19, 20, 21, 22, 23, 24, 25, 26, 27, 28, 51, 52, 53, 54, 55, 56, 57] (by decide +kernel) (by decide +kernel)
set_option maxRecDepth 20000 in
theorem gX2_goBack_X4_clearAmounts : GoodIn wsX2_goBack (wsV RX2 86 RX4 yX4_clearAmounts wsX4_clearAmounts) := goodIn_app (goodIn_of _ (by decide +kernel)) ggX2_goBack_X4_clearAmounts
theorem dX2_goBack_0 : decode cX2_goBack 0 = .ok (.aload_n 0, 1) := by decide +kernel
theorem dX2_goBack_1 : decode cX2_goBack 1 = .ok (.iconst 0, 1) := by decide +kernel
theorem dX2_goBack_2 : decode cX2_goBack 2 = .ok (.putfield 70, 3) := by decide +kernel
theorem dX2_goBack_5 : decode cX2_goBack 5 = .ok (.aload_n 0, 1) := by decide +kernel
theorem dX2_goBack_6 : decode cX2_goBack 6 = .ok (.iconst 0, 1) := by decide +kernel
theorem dX2_goBack_7 : decode cX2_goBack 7 = .ok (.putfield 73, 3) := by decide +kernel
theorem dX2_goBack_10 : decode cX2_goBack 10 = .ok (.aload_n 0, 1) := by decide +kernel
theorem dX2_goBack_11 : decode cX2_goBack 11 = .ok (.iconst 0, 1) := by decide +kernel
theorem dX2_goBack_12 : decode cX2_goBack 12 = .ok (.putfield 76, 3) := by decide +kernel
theorem dX2_goBack_15 : decode cX2_goBack 15 = .ok (.aload_n 0, 1) := by decide +kernel
theorem dX2_goBack_16 : decode cX2_goBack 16 = .ok (.lconst 0, 1) := by decide +kernel
theorem dX2_goBack_17 : decode cX2_goBack 17 = .ok (.putfield 79, 3) := by decide +kernel
theorem dX2_goBack_20 : decode cX2_goBack 20 = .ok (.iconst 0, 1) := by decide +kernel
theorem dX2_goBack_21 : decode cX2_goBack 21 = .ok (.istore_n 1, 1) := by decide +kernel
theorem dX2_goBack_22 : decode cX2_goBack 22 = .ok (.iload_n 1, 1) := by decide +kernel
theorem dX2_goBack_23 : decode cX2_goBack 23 = .ok (.aload_n 0, 1) := by decide +kernel
theorem dX2_goBack_24 : decode cX2_goBack 24 = .ok (.getfield 51, 3) := by decide +kernel
theorem dX2_goBack_27 : decode cX2_goBack 27 = .ok (.if_icmp .ge 18, 3) := by decide +kernel
theorem dX2_goBack_30 : decode cX2_goBack 30 = .ok (.aload_n 0, 1) := by decide +kernel
theorem dX2_goBack_31 : decode cX2_goBack 31 = .ok (.getfield 20, 3) := by decide +kernel
theorem dX2_goBack_34 : decode cX2_goBack 34 = .ok (.iload_n 1, 1) := by decide +kernel
theorem dX2_goBack_35 : decode cX2_goBack 35 = .ok (.aaload, 1) := by decide +kernel
theorem dX2_goBack_36 : decode cX2_goBack 36 = .ok (.invokevirtual 83, 3) := by decide +kernel
theorem dX2_goBack_39 : decode cX2_goBack 39 = .ok (.iinc 1 1, 3) := by decide +kernel
theorem dX2_goBack_42 : decode cX2_goBack 42 = .ok (.goto (-20), 3) := by decide +kernel
theorem dX2_goBack_45 : decode cX2_goBack 45 = .ok (.aload_n 0, 1) := by decide +kernel
theorem dX2_goBack_46 : decode cX2_goBack 46 = .ok (.getfield 28, 3) := by decide +kernel
theorem dX2_goBack_49 : decode cX2_goBack 49 = .ok (.invokevirtual 86, 3) := by decide +kernel
theorem dX2_goBack_52 : decode cX2_goBack 52 = .ok (.return_, 1) := by decide +kernel
theorem dX2_settingValue_0 : decode cX2_settingValue 0 = .ok (.iload_n 1, 1) := by decide +kernel
theorem dX2_settingValue_1 : decode cX2_settingValue 1 = .ok (.tableswitch 117 0 10 #[59, 64, 69, 74, 79, 84, 89, 94, 102, 107, 112], 59) := by decide +kernel
theorem dX2_settingValue_60 : decode cX2_settingValue 60 = .ok (.aload_n 0, 1) := by decide +kernel
theorem dX2_settingValue_61 : decode cX2_settingValue 61 = .ok (.getfield 9, 3) := by decide +kernel
theorem dX2_settingValue_64 : decode cX2_settingValue 64 = .ok (.ireturn, 1) := by decide +kernel
theorem dX2_settingValue_65 : decode cX2_settingValue 65 = .ok (.aload_n 0, 1) := by decide +kernel
theorem dX2_settingValue_66 : decode cX2_settingValue 66 = .ok (.getfield 39, 3) := by decide +kernel
theorem dX2_settingValue_69 : decode cX2_settingValue 69 = .ok (.ireturn, 1) := by decide +kernel
theorem dX2_settingValue_70 : decode cX2_settingValue 70 = .ok (.aload_n 0, 1) := by decide +kernel
theorem dX2_settingValue_71 : decode cX2_settingValue 71 = .ok (.getfield 42, 3) := by decide +kernel
theorem dX2_settingValue_74 : decode cX2_settingValue 74 = .ok (.ireturn, 1) := by decide +kernel
theorem dX2_settingValue_75 : decode cX2_settingValue 75 = .ok (.aload_n 0, 1) := by decide +kernel
theorem dX2_settingValue_76 : decode cX2_settingValue 76 = .ok (.getfield 45, 3) := by decide +kernel
theorem dX2_settingValue_79 : decode cX2_settingValue 79 = .ok (.ireturn, 1) := by decide +kernel
theorem dX2_settingValue_80 : decode cX2_settingValue 80 = .ok (.aload_n 0, 1) := by decide +kernel
theorem dX2_settingValue_81 : decode cX2_settingValue 81 = .ok (.getfield 15, 3) := by decide +kernel
theorem dX2_settingValue_84 : decode cX2_settingValue 84 = .ok (.ireturn, 1) := by decide +kernel
theorem dX2_settingValue_85 : decode cX2_settingValue 85 = .ok (.aload_n 0, 1) := by decide +kernel
theorem dX2_settingValue_86 : decode cX2_settingValue 86 = .ok (.getfield 48, 3) := by decide +kernel
theorem dX2_settingValue_89 : decode cX2_settingValue 89 = .ok (.ireturn, 1) := by decide +kernel
theorem dX2_settingValue_90 : decode cX2_settingValue 90 = .ok (.aload_n 0, 1) := by decide +kernel
theorem dX2_settingValue_91 : decode cX2_settingValue 91 = .ok (.getfield 51, 3) := by decide +kernel
theorem dX2_settingValue_94 : decode cX2_settingValue 94 = .ok (.ireturn, 1) := by decide +kernel
theorem dX2_settingValue_95 : decode cX2_settingValue 95 = .ok (.aload_n 0, 1) := by decide +kernel
theorem dX2_settingValue_96 : decode cX2_settingValue 96 = .ok (.getfield 28, 3) := by decide +kernel
theorem dX2_settingValue_99 : decode cX2_settingValue 99 = .ok (.getfield 87, 3) := by decide +kernel
theorem dX2_settingValue_102 : decode cX2_settingValue 102 = .ok (.ireturn, 1) := by decide +kernel
theorem dX2_settingValue_103 : decode cX2_settingValue 103 = .ok (.aload_n 0, 1) := by decide +kernel
theorem dX2_settingValue_104 : decode cX2_settingValue 104 = .ok (.getfield 61, 3) := by decide +kernel
theorem dX2_settingValue_107 : decode cX2_settingValue 107 = .ok (.ireturn, 1) := by decide +kernel
theorem dX2_settingValue_108 : decode cX2_settingValue 108 = .ok (.aload_n 0, 1) := by decide +kernel
theorem dX2_settingValue_109 : decode cX2_settingValue 109 = .ok (.getfield 70, 3) := by decide +kernel
theorem dX2_settingValue_112 : decode cX2_settingValue 112 = .ok (.ireturn, 1) := by decide +kernel
theorem dX2_settingValue_113 : decode cX2_settingValue 113 = .ok (.aload_n 0, 1) := by decide +kernel
theorem dX2_settingValue_114 : decode cX2_settingValue 114 = .ok (.getfield 73, 3) := by decide +kernel
theorem dX2_settingValue_117 : decode cX2_settingValue 117 = .ok (.ireturn, 1) := by decide +kernel
theorem dX2_settingValue_118 : decode cX2_settingValue 118 = .ok (.aload_n 0, 1) := by decide +kernel
theorem dX2_settingValue_119 : decode cX2_settingValue 119 = .ok (.getfield 76, 3) := by decide +kernel
theorem dX2_settingValue_122 : decode cX2_settingValue 122 = .ok (.ireturn, 1) := by decide +kernel
theorem dX2_putRain_0 : decode cX2_putRain 0 = .ok (.aload_n 0, 1) := by decide +kernel
theorem dX2_putRain_1 : decode cX2_putRain 1 = .ok (.getfield 32, 3) := by decide +kernel
theorem dX2_putRain_4 : decode cX2_putRain 4 = .ok (.aload_n 0, 1) := by decide +kernel
theorem dX2_putRain_5 : decode cX2_putRain 5 = .ok (.getfield 61, 3) := by decide +kernel
theorem dX2_putRain_8 : decode cX2_putRain 8 = .ok (.iload_n 1, 1) := by decide +kernel
theorem dX2_putRain_9 : decode cX2_putRain 9 = .ok (.iastore, 1) := by decide +kernel
theorem dX2_putRain_10 : decode cX2_putRain 10 = .ok (.aload_n 0, 1) := by decide +kernel
theorem dX2_putRain_11 : decode cX2_putRain 11 = .ok (.dup, 1) := by decide +kernel
theorem dX2_putRain_12 : decode cX2_putRain 12 = .ok (.getfield 61, 3) := by decide +kernel
theorem dX2_putRain_15 : decode cX2_putRain 15 = .ok (.iconst 1, 1) := by decide +kernel
theorem dX2_putRain_16 : decode cX2_putRain 16 = .ok (.iadd, 1) := by decide +kernel
theorem dX2_putRain_17 : decode cX2_putRain 17 = .ok (.putfield 61, 3) := by decide +kernel
theorem dX2_putRain_20 : decode cX2_putRain 20 = .ok (.return_, 1) := by decide +kernel
theorem dX2_account_0 : decode cX2_account 0 = .ok (.aload_n 0, 1) := by decide +kernel
theorem dX2_account_1 : decode cX2_account 1 = .ok (.getfield 36, 3) := by decide +kernel
theorem dX2_account_4 : decode cX2_account 4 = .ok (.iload_n 1, 1) := by decide +kernel
theorem dX2_account_5 : decode cX2_account 5 = .ok (.bipush 10, 2) := by decide +kernel
theorem dX2_account_7 : decode cX2_account 7 = .ok (.imul, 1) := by decide +kernel
theorem dX2_account_8 : decode cX2_account 8 = .ok (.iload_n 2, 1) := by decide +kernel
theorem dX2_account_9 : decode cX2_account 9 = .ok (.iadd, 1) := by decide +kernel
theorem dX2_account_10 : decode cX2_account 10 = .ok (.iaload, 1) := by decide +kernel
theorem dX2_account_11 : decode cX2_account 11 = .ok (.ireturn, 1) := by decide +kernel
set_option maxRecDepth 20000 in
theorem ggX2_isShort_X2_account : GoodIn wsX2_isShort wsX2_account := goodIn_r _ [5, 6, 7, 8, 9, 10, 11, 12, 13, 14, 15, 16, 17, 18, 19, 20, 21, 22] (by decide +kernel) (by decide +kernel)
set_option maxRecDepth 20000 in
theorem gX2_isShort_X2_account : GoodIn wsX2_isShort (wsV RX2 90 RX2 yX2_account wsX2_account) := goodIn_app (goodIn_of _ (by decide +kernel)) ggX2_isShort_X2_account
theorem dX2_isShort_0 : decode cX2_isShort 0 = .ok (.aload_n 0, 1) := by decide +kernel
theorem dX2_isShort_1 : decode cX2_isShort 1 = .ok (.iload_n 1, 1) := by decide +kernel
theorem dX2_isShort_2 : decode cX2_isShort 2 = .ok (.bipush 7, 2) := by decide +kernel
theorem dX2_isShort_4 : decode cX2_isShort 4 = .ok (.invokevirtual 90, 3) := by decide +kernel
theorem dX2_isShort_7 : decode cX2_isShort 7 = .ok (.ifCond .le 7, 3) := by decide +kernel
theorem dX2_isShort_10 : decode cX2_isShort 10 = .ok (.iconst 1, 1) := by decide +kernel
theorem dX2_isShort_11 : decode cX2_isShort 11 = .ok (.goto 4, 3) := by decide +kernel
theorem dX2_isShort_14 : decode cX2_isShort 14 = .ok (.iconst 0, 1) := by decide +kernel
theorem dX2_isShort_15 : decode cX2_isShort 15 = .ok (.ireturn, 1) := by decide +kernel
theorem dX2_dropAboveCapacity_0 : decode cX2_dropAboveCapacity 0 = .ok (.aload_n 0, 1) := by decide +kernel
theorem dX2_dropAboveCapacity_1 : decode cX2_dropAboveCapacity 1 = .ok (.getfield 73, 3) := by decide +kernel
theorem dX2_dropAboveCapacity_4 : decode cX2_dropAboveCapacity 4 = .ok (.aload_n 0, 1) := by decide +kernel
theorem dX2_dropAboveCapacity_5 : decode cX2_dropAboveCapacity 5 = .ok (.getfield 9, 3) := by decide +kernel
theorem dX2_dropAboveCapacity_8 : decode cX2_dropAboveCapacity 8 = .ok (.isub, 1) := by decide +kernel
theorem dX2_dropAboveCapacity_9 : decode cX2_dropAboveCapacity 9 = .ok (.iconst 0, 1) := by decide +kernel
theorem dX2_dropAboveCapacity_10 : decode cX2_dropAboveCapacity 10 = .ok (.invokestatic 94, 3) := by decide +kernel
theorem dX2_dropAboveCapacity_13 : decode cX2_dropAboveCapacity 13 = .ok (.istore_n 1, 1) := by decide +kernel
theorem dX2_dropAboveCapacity_14 : decode cX2_dropAboveCapacity 14 = .ok (.aload_n 0, 1) := by decide +kernel
theorem dX2_dropAboveCapacity_15 : decode cX2_dropAboveCapacity 15 = .ok (.dup, 1) := by decide +kernel
theorem dX2_dropAboveCapacity_16 : decode cX2_dropAboveCapacity 16 = .ok (.getfield 73, 3) := by decide +kernel
theorem dX2_dropAboveCapacity_19 : decode cX2_dropAboveCapacity 19 = .ok (.iload_n 1, 1) := by decide +kernel
theorem dX2_dropAboveCapacity_20 : decode cX2_dropAboveCapacity 20 = .ok (.isub, 1) := by decide +kernel
theorem dX2_dropAboveCapacity_21 : decode cX2_dropAboveCapacity 21 = .ok (.putfield 73, 3) := by decide +kernel
theorem dX2_dropAboveCapacity_24 : decode cX2_dropAboveCapacity 24 = .ok (.iload_n 1, 1) := by decide +kernel
theorem dX2_dropAboveCapacity_25 : decode cX2_dropAboveCapacity 25 = .ok (.ireturn, 1) := by decide +kernel
set_option maxRecDepth 20000 in
theorem ggX2_collect_X2_drainWhenDry : GoodIn wsX2_collect wsX2_drainWhenDry := goodIn_r _ [8, 9, 10, 2, 3, 11, 12, 13, 14, 15, 16, 46, 47, 48, 49, 50, 51, 52, 53, 54, 55, 56, 57, 58, 59, 60, 61, 62, 63, 64, 65, 66, 67] (by decide +kernel) (by decide +kernel)
set_option maxRecDepth 20000 in
theorem gX2_collect_X2_drainWhenDry : GoodIn wsX2_collect (wsV RX2 99 RX2 yX2_drainWhenDry wsX2_drainWhenDry) := goodIn_app (goodIn_of _ (by decide +kernel)) ggX2_collect_X2_drainWhenDry
set_option maxRecDepth 20000 in
theorem ggX2_collect_X1_caught : GoodIn wsX2_collect wsX1_caught := goodIn_r _ [20, 21, 22, 62, 63, 64, 65, 66, 67] (by decide +kernel) (by decide +kernel)
set_option maxRecDepth 20000 in
theorem gX2_collect_X1_caught : GoodIn wsX2_collect (wsV RX2 103 RX1 yX1_caught wsX1_caught) := goodIn_app (goodIn_of _ (by decide +kernel)) ggX2_collect_X1_caught
set_option maxRecDepth 20000 in
theorem ggX2_collect_X1_divert : GoodIn wsX2_collect wsX1_divert := goodIn_r _ [26, 27, 16, 28, 29, 30, 31, 62, 63, 64, 65, 66, 67] (by decide +kernel) (by decide +kernel)
set_option maxRecDepth 20000 in
theorem gX2_collect_X1_divert : GoodIn wsX2_collect (wsV RX2 106 RX1 yX1_divert wsX1_divert) := goodIn_app (goodIn_of _ (by decide +kernel)) ggX2_collect_X1_divert
set_option maxRecDepth 20000 in
theorem ggX2_collect_X1_spill : GoodIn wsX2_collect wsX1_spill := goodIn_r _ [35, 36, 37, 38, 30, 39, 40, 62, 63, 64, 65, 66, 67] (by decide +kernel) (by decide +kernel)
set_option maxRecDepth 20000 in
theorem gX2_collect_X1_spill : GoodIn wsX2_collect (wsV RX2 109 RX1 yX1_spill wsX1_spill) := goodIn_app (goodIn_of _ (by decide +kernel)) ggX2_collect_X1_spill
set_option maxRecDepth 20000 in
theorem ggX2_collect_X2_put : GoodIn wsX2_collect wsX2_put := goodIn_r _ [44, 45, 46, 47, 48, 49, 50, 51, 52, 53, 54, 55, 56, 57, 58, 59, 60, 61] (by decide +kernel) (by decide +kernel)
set_option maxRecDepth 20000 in
theorem gX2_collect_X2_put : GoodIn wsX2_collect (wsV RX2 112 RX2 yX2_put wsX2_put) := goodIn_app (goodIn_of _ (by decide +kernel)) ggX2_collect_X2_put
theorem dX2_collect_0 : decode cX2_collect 0 = .ok (.aload_n 0, 1) := by decide +kernel
theorem dX2_collect_1 : decode cX2_collect 1 = .ok (.getfield 32, 3) := by decide +kernel
theorem dX2_collect_4 : decode cX2_collect 4 = .ok (.iload_n 1, 1) := by decide +kernel
theorem dX2_collect_5 : decode cX2_collect 5 = .ok (.iaload, 1) := by decide +kernel
theorem dX2_collect_6 : decode cX2_collect 6 = .ok (.istore_n 2, 1) := by decide +kernel
theorem dX2_collect_7 : decode cX2_collect 7 = .ok (.aload_n 0, 1) := by decide +kernel
theorem dX2_collect_8 : decode cX2_collect 8 = .ok (.iload_n 2, 1) := by decide +kernel
theorem dX2_collect_9 : decode cX2_collect 9 = .ok (.invokevirtual 99, 3) := by decide +kernel
theorem dX2_collect_12 : decode cX2_collect 12 = .ok (.istore_n 3, 1) := by decide +kernel
theorem dX2_collect_13 : decode cX2_collect 13 = .ok (.iconst 0, 1) := by decide +kernel
theorem dX2_collect_14 : decode cX2_collect 14 = .ok (.istore 4, 2) := by decide +kernel
theorem dX2_collect_16 : decode cX2_collect 16 = .ok (.iconst 0, 1) := by decide +kernel
theorem dX2_collect_17 : decode cX2_collect 17 = .ok (.istore 5, 2) := by decide +kernel
theorem dX2_collect_19 : decode cX2_collect 19 = .ok (.iconst 0, 1) := by decide +kernel
theorem dX2_collect_20 : decode cX2_collect 20 = .ok (.istore 6, 2) := by decide +kernel
theorem dX2_collect_22 : decode cX2_collect 22 = .ok (.iconst 0, 1) := by decide +kernel
theorem dX2_collect_23 : decode cX2_collect 23 = .ok (.istore 7, 2) := by decide +kernel
theorem dX2_collect_25 : decode cX2_collect 25 = .ok (.iload 7, 2) := by decide +kernel
theorem dX2_collect_27 : decode cX2_collect 27 = .ok (.aload_n 0, 1) := by decide +kernel
theorem dX2_collect_28 : decode cX2_collect 28 = .ok (.getfield 51, 3) := by decide +kernel
theorem dX2_collect_31 : decode cX2_collect 31 = .ok (.if_icmp .ge 80, 3) := by decide +kernel
theorem dX2_collect_34 : decode cX2_collect 34 = .ok (.aload_n 0, 1) := by decide +kernel
theorem dX2_collect_35 : decode cX2_collect 35 = .ok (.getfield 20, 3) := by decide +kernel
theorem dX2_collect_38 : decode cX2_collect 38 = .ok (.iload 7, 2) := by decide +kernel
theorem dX2_collect_40 : decode cX2_collect 40 = .ok (.aaload, 1) := by decide +kernel
theorem dX2_collect_41 : decode cX2_collect 41 = .ok (.iload_n 2, 1) := by decide +kernel
theorem dX2_collect_42 : decode cX2_collect 42 = .ok (.invokevirtual 103, 3) := by decide +kernel
theorem dX2_collect_45 : decode cX2_collect 45 = .ok (.istore 8, 2) := by decide +kernel
theorem dX2_collect_47 : decode cX2_collect 47 = .ok (.aload_n 0, 1) := by decide +kernel
theorem dX2_collect_48 : decode cX2_collect 48 = .ok (.getfield 20, 3) := by decide +kernel
theorem dX2_collect_51 : decode cX2_collect 51 = .ok (.iload 7, 2) := by decide +kernel
theorem dX2_collect_53 : decode cX2_collect 53 = .ok (.aaload, 1) := by decide +kernel
theorem dX2_collect_54 : decode cX2_collect 54 = .ok (.iload 8, 2) := by decide +kernel
theorem dX2_collect_56 : decode cX2_collect 56 = .ok (.invokevirtual 106, 3) := by decide +kernel
theorem dX2_collect_59 : decode cX2_collect 59 = .ok (.istore 9, 2) := by decide +kernel
theorem dX2_collect_61 : decode cX2_collect 61 = .ok (.aload_n 0, 1) := by decide +kernel
theorem dX2_collect_62 : decode cX2_collect 62 = .ok (.getfield 20, 3) := by decide +kernel
theorem dX2_collect_65 : decode cX2_collect 65 = .ok (.iload 7, 2) := by decide +kernel
theorem dX2_collect_67 : decode cX2_collect 67 = .ok (.aaload, 1) := by decide +kernel
theorem dX2_collect_68 : decode cX2_collect 68 = .ok (.iload 8, 2) := by decide +kernel
theorem dX2_collect_70 : decode cX2_collect 70 = .ok (.iload 9, 2) := by decide +kernel
theorem dX2_collect_72 : decode cX2_collect 72 = .ok (.isub, 1) := by decide +kernel
theorem dX2_collect_73 : decode cX2_collect 73 = .ok (.invokevirtual 109, 3) := by decide +kernel
theorem dX2_collect_76 : decode cX2_collect 76 = .ok (.istore 10, 2) := by decide +kernel
theorem dX2_collect_78 : decode cX2_collect 78 = .ok (.iload 4, 2) := by decide +kernel
theorem dX2_collect_80 : decode cX2_collect 80 = .ok (.iload 8, 2) := by decide +kernel
theorem dX2_collect_82 : decode cX2_collect 82 = .ok (.iload 9, 2) := by decide +kernel
theorem dX2_collect_84 : decode cX2_collect 84 = .ok (.isub, 1) := by decide +kernel
theorem dX2_collect_85 : decode cX2_collect 85 = .ok (.iload 10, 2) := by decide +kernel
theorem dX2_collect_87 : decode cX2_collect 87 = .ok (.isub, 1) := by decide +kernel
theorem dX2_collect_88 : decode cX2_collect 88 = .ok (.iadd, 1) := by decide +kernel
theorem dX2_collect_89 : decode cX2_collect 89 = .ok (.istore 4, 2) := by decide +kernel
theorem dX2_collect_91 : decode cX2_collect 91 = .ok (.iload 5, 2) := by decide +kernel
theorem dX2_collect_93 : decode cX2_collect 93 = .ok (.iload 9, 2) := by decide +kernel
theorem dX2_collect_95 : decode cX2_collect 95 = .ok (.iadd, 1) := by decide +kernel
theorem dX2_collect_96 : decode cX2_collect 96 = .ok (.istore 5, 2) := by decide +kernel
theorem dX2_collect_98 : decode cX2_collect 98 = .ok (.iload 6, 2) := by decide +kernel
theorem dX2_collect_100 : decode cX2_collect 100 = .ok (.iload 10, 2) := by decide +kernel
theorem dX2_collect_102 : decode cX2_collect 102 = .ok (.iadd, 1) := by decide +kernel
theorem dX2_collect_103 : decode cX2_collect 103 = .ok (.istore 6, 2) := by decide +kernel
theorem dX2_collect_105 : decode cX2_collect 105 = .ok (.iinc 7 1, 3) := by decide +kernel
theorem dX2_collect_108 : decode cX2_collect 108 = .ok (.goto (-83), 3) := by decide +kernel
theorem dX2_collect_111 : decode cX2_collect 111 = .ok (.aload_n 0, 1) := by decide +kernel
theorem dX2_collect_112 : decode cX2_collect 112 = .ok (.iload_n 1, 1) := by decide +kernel
theorem dX2_collect_113 : decode cX2_collect 113 = .ok (.iconst 1, 1) := by decide +kernel
theorem dX2_collect_114 : decode cX2_collect 114 = .ok (.iload 4, 2) := by decide +kernel
theorem dX2_collect_116 : decode cX2_collect 116 = .ok (.invokevirtual 112, 3) := by decide +kernel
theorem dX2_collect_119 : decode cX2_collect 119 = .ok (.aload_n 0, 1) := by decide +kernel
theorem dX2_collect_120 : decode cX2_collect 120 = .ok (.iload_n 1, 1) := by decide +kernel
theorem dX2_collect_121 : decode cX2_collect 121 = .ok (.iconst 2, 1) := by decide +kernel
theorem dX2_collect_122 : decode cX2_collect 122 = .ok (.iload 5, 2) := by decide +kernel
theorem dX2_collect_124 : decode cX2_collect 124 = .ok (.invokevirtual 112, 3) := by decide +kernel
theorem dX2_collect_127 : decode cX2_collect 127 = .ok (.aload_n 0, 1) := by decide +kernel
theorem dX2_collect_128 : decode cX2_collect 128 = .ok (.iload_n 1, 1) := by decide +kernel
theorem dX2_collect_129 : decode cX2_collect 129 = .ok (.iconst 3, 1) := by decide +kernel
theorem dX2_collect_130 : decode cX2_collect 130 = .ok (.iload 6, 2) := by decide +kernel
theorem dX2_collect_132 : decode cX2_collect 132 = .ok (.invokevirtual 112, 3) := by decide +kernel
theorem dX2_collect_135 : decode cX2_collect 135 = .ok (.aload_n 0, 1) := by decide +kernel
theorem dX2_collect_136 : decode cX2_collect 136 = .ok (.iload_n 1, 1) := by decide +kernel
theorem dX2_collect_137 : decode cX2_collect 137 = .ok (.bipush 9, 2) := by decide +kernel
theorem dX2_collect_139 : decode cX2_collect 139 = .ok (.iload_n 3, 1) := by decide +kernel
theorem dX2_collect_140 : decode cX2_collect 140 = .ok (.invokevirtual 112, 3) := by decide +kernel
theorem dX2_collect_143 : decode cX2_collect 143 = .ok (.return_, 1) := by decide +kernel
set_option maxRecDepth 20000 in
theorem ggX2_serve_X2_account : GoodIn wsX2_serve wsX2_account := goodIn_r _ [15, 16, 91, 92, 93, 94, 95, 96, 97, 98, 99, 100, 101, 102, 103, 104, 105, 106] (by decide +kernel) (by decide +kernel)
set_option maxRecDepth 20000 in
theorem gX2_serve_X2_account : GoodIn wsX2_serve (wsV RX2 90 RX2 yX2_account wsX2_account) := goodIn_app (goodIn_of _ (by decide +kernel)) ggX2_serve_X2_account
set_option maxRecDepth 20000 in
theorem ggX2_serve_X2_dropAboveCapacity : GoodIn wsX2_serve wsX2_dropAboveCapacity := goodIn_r _ [20, 1, 21, 5, 6, 7, 8, 91, 92, 93, 94, 95, 96, 97, 98, 99, 100, 101, 102, 103, 104, 105, 106] (by decide +kernel) (by decide +kernel)
set_option maxRecDepth 20000 in
theorem gX2_serve_X2_dropAboveCapacity : GoodIn wsX2_serve (wsV RX2 116 RX2 yX2_dropAboveCapacity wsX2_dropAboveCapacity) := goodIn_app (goodIn_of _ (by decide +kernel)) ggX2_serve_X2_dropAboveCapacity
set_option maxRecDepth 20000 in
theorem ggX2_serve_X2_put : GoodIn wsX2_serve wsX2_put := goodIn_r _ [25, 16, 91, 92, 93, 94, 95, 96, 97, 98, 99, 100, 101, 102, 103, 104, 105, 106] (by decide +kernel) (by decide +kernel)
set_option maxRecDepth 20000 in
theorem gX2_serve_X2_put : GoodIn wsX2_serve (wsV RX2 112 RX2 yX2_put wsX2_put) := goodIn_app (goodIn_of _ (by decide +kernel)) ggX2_serve_X2_put
set_option maxRecDepth 20000 in
theorem ggX2_serve_X4_handOut : GoodIn wsX2_serve wsX4_handOut := goodIn_r _ [30, 31, 32, 33, 34, 35, 36, 37, 29, 38, 39, 40, 41, 42, 43, 44, 45, 46, 47, 48, 49, 50, 51, 52, 53, 54, 55, 7, 56, 57, 58, 59, 60, 61, 62, 63, 64, 65, 66, 67, 68, 69, 70, 71, 72, 73, 74, 75, 76, 77, 78, 79, 80, 81, 82, 83, 84, 85, 86, 87, 88, 89, 107, 108, 109, 110, 111, 112, 113] (by decide +kernel) (by decide +kernel)
set_option maxRecDepth 20000 in
theorem gX2_serve_X4_handOut : GoodIn wsX2_serve (wsV RX2 120 RX4 yX4_handOut wsX4_handOut) := goodIn_app (goodIn_of _ (by decide +kernel)) ggX2_serve_X4_handOut
set_option maxRecDepth 20000 in
theorem ggX2_serve_X4_demandInAll : GoodIn wsX2_serve wsX4_demandInAll := goodIn_r _ [38, 31, 32, 39, 107, 108, 109, 110, 111, 112, 113] (by decide +kernel) (by decide +kernel)
set_option maxRecDepth 20000 in
theorem gX2_serve_X4_demandInAll : GoodIn wsX2_serve (wsV RX2 123 RX4 yX4_demandInAll wsX4_demandInAll) := goodIn_app (goodIn_of _ (by decide +kernel)) ggX2_serve_X4_demandInAll
theorem dX2_serve_0 : decode cX2_serve 0 = .ok (.aload_n 0, 1) := by decide +kernel
theorem dX2_serve_1 : decode cX2_serve 1 = .ok (.dup, 1) := by decide +kernel
theorem dX2_serve_2 : decode cX2_serve 2 = .ok (.getfield 73, 3) := by decide +kernel
theorem dX2_serve_5 : decode cX2_serve 5 = .ok (.aload_n 0, 1) := by decide +kernel
theorem dX2_serve_6 : decode cX2_serve 6 = .ok (.iload_n 1, 1) := by decide +kernel
theorem dX2_serve_7 : decode cX2_serve 7 = .ok (.iconst 1, 1) := by decide +kernel
theorem dX2_serve_8 : decode cX2_serve 8 = .ok (.invokevirtual 90, 3) := by decide +kernel
theorem dX2_serve_11 : decode cX2_serve 11 = .ok (.iadd, 1) := by decide +kernel
theorem dX2_serve_12 : decode cX2_serve 12 = .ok (.putfield 73, 3) := by decide +kernel
theorem dX2_serve_15 : decode cX2_serve 15 = .ok (.aload_n 0, 1) := by decide +kernel
theorem dX2_serve_16 : decode cX2_serve 16 = .ok (.iload_n 1, 1) := by decide +kernel
theorem dX2_serve_17 : decode cX2_serve 17 = .ok (.iconst 4, 1) := by decide +kernel
theorem dX2_serve_18 : decode cX2_serve 18 = .ok (.aload_n 0, 1) := by decide +kernel
theorem dX2_serve_19 : decode cX2_serve 19 = .ok (.invokevirtual 116, 3) := by decide +kernel
theorem dX2_serve_22 : decode cX2_serve 22 = .ok (.invokevirtual 112, 3) := by decide +kernel
theorem dX2_serve_25 : decode cX2_serve 25 = .ok (.aload_n 0, 1) := by decide +kernel
theorem dX2_serve_26 : decode cX2_serve 26 = .ok (.getfield 73, 3) := by decide +kernel
theorem dX2_serve_29 : decode cX2_serve 29 = .ok (.aload_n 0, 1) := by decide +kernel
theorem dX2_serve_30 : decode cX2_serve 30 = .ok (.getfield 45, 3) := by decide +kernel
theorem dX2_serve_33 : decode cX2_serve 33 = .ok (.imul, 1) := by decide +kernel
theorem dX2_serve_34 : decode cX2_serve 34 = .ok (.sipush 1000, 3) := by decide +kernel
theorem dX2_serve_37 : decode cX2_serve 37 = .ok (.idiv, 1) := by decide +kernel
theorem dX2_serve_38 : decode cX2_serve 38 = .ok (.istore_n 2, 1) := by decide +kernel
theorem dX2_serve_39 : decode cX2_serve 39 = .ok (.aload_n 0, 1) := by decide +kernel
theorem dX2_serve_40 : decode cX2_serve 40 = .ok (.dup, 1) := by decide +kernel
theorem dX2_serve_41 : decode cX2_serve 41 = .ok (.getfield 73, 3) := by decide +kernel
theorem dX2_serve_44 : decode cX2_serve 44 = .ok (.iload_n 2, 1) := by decide +kernel
theorem dX2_serve_45 : decode cX2_serve 45 = .ok (.isub, 1) := by decide +kernel
theorem dX2_serve_46 : decode cX2_serve 46 = .ok (.putfield 73, 3) := by decide +kernel
theorem dX2_serve_49 : decode cX2_serve 49 = .ok (.aload_n 0, 1) := by decide +kernel
theorem dX2_serve_50 : decode cX2_serve 50 = .ok (.getfield 28, 3) := by decide +kernel
theorem dX2_serve_53 : decode cX2_serve 53 = .ok (.aload_n 0, 1) := by decide +kernel
theorem dX2_serve_54 : decode cX2_serve 54 = .ok (.getfield 73, 3) := by decide +kernel
theorem dX2_serve_57 : decode cX2_serve 57 = .ok (.aload_n 0, 1) := by decide +kernel
theorem dX2_serve_58 : decode cX2_serve 58 = .ok (.getfield 39, 3) := by decide +kernel
theorem dX2_serve_61 : decode cX2_serve 61 = .ok (.isub, 1) := by decide +kernel
theorem dX2_serve_62 : decode cX2_serve 62 = .ok (.iconst 0, 1) := by decide +kernel
theorem dX2_serve_63 : decode cX2_serve 63 = .ok (.invokestatic 94, 3) := by decide +kernel
theorem dX2_serve_66 : decode cX2_serve 66 = .ok (.aload_n 0, 1) := by decide +kernel
theorem dX2_serve_67 : decode cX2_serve 67 = .ok (.getfield 48, 3) := by decide +kernel
theorem dX2_serve_70 : decode cX2_serve 70 = .ok (.invokevirtual 120, 3) := by decide +kernel
theorem dX2_serve_73 : decode cX2_serve 73 = .ok (.istore_n 3, 1) := by decide +kernel
theorem dX2_serve_74 : decode cX2_serve 74 = .ok (.aload_n 0, 1) := by decide +kernel
theorem dX2_serve_75 : decode cX2_serve 75 = .ok (.dup, 1) := by decide +kernel
theorem dX2_serve_76 : decode cX2_serve 76 = .ok (.getfield 73, 3) := by decide +kernel
theorem dX2_serve_79 : decode cX2_serve 79 = .ok (.iload_n 3, 1) := by decide +kernel
theorem dX2_serve_80 : decode cX2_serve 80 = .ok (.isub, 1) := by decide +kernel
theorem dX2_serve_81 : decode cX2_serve 81 = .ok (.putfield 73, 3) := by decide +kernel
theorem dX2_serve_84 : decode cX2_serve 84 = .ok (.aload_n 0, 1) := by decide +kernel
theorem dX2_serve_85 : decode cX2_serve 85 = .ok (.getfield 42, 3) := by decide +kernel
theorem dX2_serve_88 : decode cX2_serve 88 = .ok (.aload_n 0, 1) := by decide +kernel
theorem dX2_serve_89 : decode cX2_serve 89 = .ok (.getfield 73, 3) := by decide +kernel
theorem dX2_serve_92 : decode cX2_serve 92 = .ok (.isub, 1) := by decide +kernel
theorem dX2_serve_93 : decode cX2_serve 93 = .ok (.iconst 0, 1) := by decide +kernel
theorem dX2_serve_94 : decode cX2_serve 94 = .ok (.invokestatic 94, 3) := by decide +kernel
theorem dX2_serve_97 : decode cX2_serve 97 = .ok (.istore 4, 2) := by decide +kernel
theorem dX2_serve_99 : decode cX2_serve 99 = .ok (.aload_n 0, 1) := by decide +kernel
theorem dX2_serve_100 : decode cX2_serve 100 = .ok (.dup, 1) := by decide +kernel
theorem dX2_serve_101 : decode cX2_serve 101 = .ok (.getfield 73, 3) := by decide +kernel
theorem dX2_serve_104 : decode cX2_serve 104 = .ok (.iload 4, 2) := by decide +kernel
theorem dX2_serve_106 : decode cX2_serve 106 = .ok (.iadd, 1) := by decide +kernel
theorem dX2_serve_107 : decode cX2_serve 107 = .ok (.putfield 73, 3) := by decide +kernel
theorem dX2_serve_110 : decode cX2_serve 110 = .ok (.aload_n 0, 1) := by decide +kernel
theorem dX2_serve_111 : decode cX2_serve 111 = .ok (.iload_n 1, 1) := by decide +kernel
theorem dX2_serve_112 : decode cX2_serve 112 = .ok (.iconst 5, 1) := by decide +kernel
theorem dX2_serve_113 : decode cX2_serve 113 = .ok (.iload_n 2, 1) := by decide +kernel
theorem dX2_serve_114 : decode cX2_serve 114 = .ok (.invokevirtual 112, 3) := by decide +kernel
theorem dX2_serve_117 : decode cX2_serve 117 = .ok (.aload_n 0, 1) := by decide +kernel
theorem dX2_serve_118 : decode cX2_serve 118 = .ok (.iload_n 1, 1) := by decide +kernel
theorem dX2_serve_119 : decode cX2_serve 119 = .ok (.bipush 6, 2) := by decide +kernel
theorem dX2_serve_121 : decode cX2_serve 121 = .ok (.iload_n 3, 1) := by decide +kernel
theorem dX2_serve_122 : decode cX2_serve 122 = .ok (.invokevirtual 112, 3) := by decide +kernel
theorem dX2_serve_125 : decode cX2_serve 125 = .ok (.aload_n 0, 1) := by decide +kernel
theorem dX2_serve_126 : decode cX2_serve 126 = .ok (.iload_n 1, 1) := by decide +kernel
theorem dX2_serve_127 : decode cX2_serve 127 = .ok (.bipush 7, 2) := by decide +kernel
theorem dX2_serve_129 : decode cX2_serve 129 = .ok (.aload_n 0, 1) := by decide +kernel
theorem dX2_serve_130 : decode cX2_serve 130 = .ok (.getfield 28, 3) := by decide +kernel
theorem dX2_serve_133 : decode cX2_serve 133 = .ok (.invokevirtual 123, 3) := by decide +kernel
theorem dX2_serve_136 : decode cX2_serve 136 = .ok (.iload_n 3, 1) := by decide +kernel
theorem dX2_serve_137 : decode cX2_serve 137 = .ok (.isub, 1) := by decide +kernel
theorem dX2_serve_138 : decode cX2_serve 138 = .ok (.invokevirtual 112, 3) := by decide +kernel
theorem dX2_serve_141 : decode cX2_serve 141 = .ok (.aload_n 0, 1) := by decide +kernel
theorem dX2_serve_142 : decode cX2_serve 142 = .ok (.iload_n 1, 1) := by decide +kernel
theorem dX2_serve_143 : decode cX2_serve 143 = .ok (.bipush 8, 2) := by decide +kernel
theorem dX2_serve_145 : decode cX2_serve 145 = .ok (.iload 4, 2) := by decide +kernel
theorem dX2_serve_147 : decode cX2_serve 147 = .ok (.invokevirtual 112, 3) := by decide +kernel
theorem dX2_serve_150 : decode cX2_serve 150 = .ok (.aload_n 0, 1) := by decide +kernel
theorem dX2_serve_151 : decode cX2_serve 151 = .ok (.iload_n 1, 1) := by decide +kernel
theorem dX2_serve_152 : decode cX2_serve 152 = .ok (.iconst 0, 1) := by decide +kernel
theorem dX2_serve_153 : decode cX2_serve 153 = .ok (.aload_n 0, 1) := by decide +kernel
theorem dX2_serve_154 : decode cX2_serve 154 = .ok (.getfield 73, 3) := by decide +kernel
theorem dX2_serve_157 : decode cX2_serve 157 = .ok (.invokevirtual 112, 3) := by decide +kernel
theorem dX2_serve_160 : decode cX2_serve 160 = .ok (.return_, 1) := by decide +kernel
set_option maxRecDepth 20000 in
theorem ggX2_serveAll_X4_clearAmounts : GoodIn wsX2_serveAll wsX4_clearAmounts := goodIn_r _ [8, 9, 10, 11, 12, 13, 14, 15, 16, 17, 125, 126, 127, 128, 129, 130, 131] (by decide +kernel) (by decide +kernel)
set_option maxRecDepth 20000 in
theorem gX2_serveAll_X4_clearAmounts : GoodIn wsX2_serveAll (wsV RX2 86 RX4 yX4_clearAmounts wsX4_clearAmounts) := goodIn_app (goodIn_of _ (by decide +kernel)) ggX2_serveAll_X4_clearAmounts
set_option maxRecDepth 20000 in
theorem ggX2_serveAll_X2_serve : GoodIn wsX2_serveAll wsX2_serve := goodIn_r _ [22, 1, 23, 2, 24, 25, 26, 27, 28, 29, 30, 31, 32, 33, 21, 34, 35, 36, 37, 38, 39, 40, 41, 42, 43, 44, 45, 46, 47, 7, 48, 9, 10, 49, 50, 51, 52, 53, 54, 55, 56, 57, 58, 59, 60, 61, 62, 63, 64, 65, 66, 67, 14, 68, 69, 70, 71, 16, 72, 73, 74, 75, 76, 77, 78, 79, 80, 81, 82, 83, 84, 85, 86, 87, 88, 89, 90, 91, 92, 93, 94, 95, 96, 97, 98, 99, 100, 101, 102, 103, 104, 109, 110, 111, 112, 113, 114, 115, 116, 117, 118, 119, 120, 121, 122, 123, 124, 125, 126, 127, 128, 129, 130, 131] (by decide +kernel) (by decide +kernel)
set_option maxRecDepth 20000 in
theorem gX2_serveAll_X2_serve : GoodIn wsX2_serveAll (wsV RX2 126 RX2 yX2_serve wsX2_serve) := goodIn_app (goodIn_of _ (by decide +kernel)) ggX2_serveAll_X2_serve
set_option maxRecDepth 20000 in
theorem ggX2_serveAll_X2_isShort : GoodIn wsX2_serveAll wsX2_isShort := goodIn_r _ [108, 31, 32, 33, 21, 34, 35, 109, 110, 111, 112, 113, 114, 115, 116, 117, 118, 119, 120, 121, 122, 123, 124] (by decide +kernel) (by decide +kernel)
set_option maxRecDepth 20000 in
theorem gX2_serveAll_X2_isShort : GoodIn wsX2_serveAll (wsV RX2 130 RX2 yX2_isShort wsX2_isShort) := goodIn_app (goodIn_of _ (by decide +kernel)) ggX2_serveAll_X2_isShort
theorem dX2_serveAll_0 : decode cX2_serveAll 0 = .ok (.aload_n 0, 1) := by decide +kernel
theorem dX2_serveAll_1 : decode cX2_serveAll 1 = .ok (.iconst 0, 1) := by decide +kernel
theorem dX2_serveAll_2 : decode cX2_serveAll 2 = .ok (.putfield 73, 3) := by decide +kernel
theorem dX2_serveAll_5 : decode cX2_serveAll 5 = .ok (.aload_n 0, 1) := by decide +kernel
theorem dX2_serveAll_6 : decode cX2_serveAll 6 = .ok (.getfield 28, 3) := by decide +kernel
theorem dX2_serveAll_9 : decode cX2_serveAll 9 = .ok (.invokevirtual 86, 3) := by decide +kernel
theorem dX2_serveAll_12 : decode cX2_serveAll 12 = .ok (.iconst 0, 1) := by decide +kernel
theorem dX2_serveAll_13 : decode cX2_serveAll 13 = .ok (.istore_n 2, 1) := by decide +kernel
theorem dX2_serveAll_14 : decode cX2_serveAll 14 = .ok (.iconst 0, 1) := by decide +kernel
theorem dX2_serveAll_15 : decode cX2_serveAll 15 = .ok (.istore_n 3, 1) := by decide +kernel
theorem dX2_serveAll_16 : decode cX2_serveAll 16 = .ok (.iload_n 3, 1) := by decide +kernel
theorem dX2_serveAll_17 : decode cX2_serveAll 17 = .ok (.aload_n 0, 1) := by decide +kernel
theorem dX2_serveAll_18 : decode cX2_serveAll 18 = .ok (.getfield 61, 3) := by decide +kernel
theorem dX2_serveAll_21 : decode cX2_serveAll 21 = .ok (.if_icmp .ge 30, 3) := by decide +kernel
theorem dX2_serveAll_24 : decode cX2_serveAll 24 = .ok (.iload_n 2, 1) := by decide +kernel
theorem dX2_serveAll_25 : decode cX2_serveAll 25 = .ok (.iload_n 1, 1) := by decide +kernel
theorem dX2_serveAll_26 : decode cX2_serveAll 26 = .ok (.if_icmp .gt 25, 3) := by decide +kernel
theorem dX2_serveAll_29 : decode cX2_serveAll 29 = .ok (.aload_n 0, 1) := by decide +kernel
theorem dX2_serveAll_30 : decode cX2_serveAll 30 = .ok (.iload_n 3, 1) := by decide +kernel
theorem dX2_serveAll_31 : decode cX2_serveAll 31 = .ok (.invokevirtual 126, 3) := by decide +kernel
theorem dX2_serveAll_34 : decode cX2_serveAll 34 = .ok (.aload_n 0, 1) := by decide +kernel
theorem dX2_serveAll_35 : decode cX2_serveAll 35 = .ok (.iload_n 3, 1) := by decide +kernel
theorem dX2_serveAll_36 : decode cX2_serveAll 36 = .ok (.invokevirtual 130, 3) := by decide +kernel
theorem dX2_serveAll_39 : decode cX2_serveAll 39 = .ok (.ifCond .eq 6, 3) := by decide +kernel
theorem dX2_serveAll_42 : decode cX2_serveAll 42 = .ok (.iinc 2 1, 3) := by decide +kernel
theorem dX2_serveAll_45 : decode cX2_serveAll 45 = .ok (.iinc 3 1, 3) := by decide +kernel
theorem dX2_serveAll_48 : decode cX2_serveAll 48 = .ok (.goto (-32), 3) := by decide +kernel
theorem dX2_serveAll_51 : decode cX2_serveAll 51 = .ok (.iload_n 2, 1) := by decide +kernel
theorem dX2_serveAll_52 : decode cX2_serveAll 52 = .ok (.ireturn, 1) := by decide +kernel
set_option maxRecDepth 20000 in
theorem ggX2_drainWhenDry_X1_drain : GoodIn wsX2_drainWhenDry wsX1_drain := goodIn_r _ [9, 10, 27, 28, 29, 30, 31, 32] (by decide +kernel) (by decide +kernel)
set_option maxRecDepth 20000 in
theorem gX2_drainWhenDry_X1_drain : GoodIn wsX2_drainWhenDry (wsV RX2 134 RX1 yX1_drain wsX1_drain) := goodIn_app (goodIn_of _ (by decide +kernel)) ggX2_drainWhenDry_X1_drain
theorem dX2_drainWhenDry_0 : decode cX2_drainWhenDry 0 = .ok (.iload_n 1, 1) := by decide +kernel
theorem dX2_drainWhenDry_1 : decode cX2_drainWhenDry 1 = .ok (.ifCond .le 10, 3) := by decide +kernel
theorem dX2_drainWhenDry_4 : decode cX2_drainWhenDry 4 = .ok (.aload_n 0, 1) := by decide +kernel
theorem dX2_drainWhenDry_5 : decode cX2_drainWhenDry 5 = .ok (.iconst 0, 1) := by decide +kernel
theorem dX2_drainWhenDry_6 : decode cX2_drainWhenDry 6 = .ok (.putfield 76, 3) := by decide +kernel
theorem dX2_drainWhenDry_9 : decode cX2_drainWhenDry 9 = .ok (.iconst 0, 1) := by decide +kernel
theorem dX2_drainWhenDry_10 : decode cX2_drainWhenDry 10 = .ok (.ireturn, 1) := by decide +kernel
theorem dX2_drainWhenDry_11 : decode cX2_drainWhenDry 11 = .ok (.aload_n 0, 1) := by decide +kernel
theorem dX2_drainWhenDry_12 : decode cX2_drainWhenDry 12 = .ok (.dup, 1) := by decide +kernel
theorem dX2_drainWhenDry_13 : decode cX2_drainWhenDry 13 = .ok (.getfield 76, 3) := by decide +kernel
theorem dX2_drainWhenDry_16 : decode cX2_drainWhenDry 16 = .ok (.iconst 1, 1) := by decide +kernel
theorem dX2_drainWhenDry_17 : decode cX2_drainWhenDry 17 = .ok (.iadd, 1) := by decide +kernel
theorem dX2_drainWhenDry_18 : decode cX2_drainWhenDry 18 = .ok (.putfield 76, 3) := by decide +kernel
theorem dX2_drainWhenDry_21 : decode cX2_drainWhenDry 21 = .ok (.iconst 0, 1) := by decide +kernel
theorem dX2_drainWhenDry_22 : decode cX2_drainWhenDry 22 = .ok (.istore_n 2, 1) := by decide +kernel
theorem dX2_drainWhenDry_23 : decode cX2_drainWhenDry 23 = .ok (.aload_n 0, 1) := by decide +kernel
theorem dX2_drainWhenDry_24 : decode cX2_drainWhenDry 24 = .ok (.getfield 76, 3) := by decide +kernel
theorem dX2_drainWhenDry_27 : decode cX2_drainWhenDry 27 = .ok (.aload_n 0, 1) := by decide +kernel
theorem dX2_drainWhenDry_28 : decode cX2_drainWhenDry 28 = .ok (.getfield 15, 3) := by decide +kernel
theorem dX2_drainWhenDry_31 : decode cX2_drainWhenDry 31 = .ok (.if_icmp .lt 31, 3) := by decide +kernel
theorem dX2_drainWhenDry_34 : decode cX2_drainWhenDry 34 = .ok (.iconst 0, 1) := by decide +kernel
theorem dX2_drainWhenDry_35 : decode cX2_drainWhenDry 35 = .ok (.istore_n 3, 1) := by decide +kernel
theorem dX2_drainWhenDry_36 : decode cX2_drainWhenDry 36 = .ok (.iload_n 3, 1) := by decide +kernel
theorem dX2_drainWhenDry_37 : decode cX2_drainWhenDry 37 = .ok (.aload_n 0, 1) := by decide +kernel
theorem dX2_drainWhenDry_38 : decode cX2_drainWhenDry 38 = .ok (.getfield 51, 3) := by decide +kernel
theorem dX2_drainWhenDry_41 : decode cX2_drainWhenDry 41 = .ok (.if_icmp .ge 21, 3) := by decide +kernel
theorem dX2_drainWhenDry_44 : decode cX2_drainWhenDry 44 = .ok (.iload_n 2, 1) := by decide +kernel
theorem dX2_drainWhenDry_45 : decode cX2_drainWhenDry 45 = .ok (.aload_n 0, 1) := by decide +kernel
theorem dX2_drainWhenDry_46 : decode cX2_drainWhenDry 46 = .ok (.getfield 20, 3) := by decide +kernel
theorem dX2_drainWhenDry_49 : decode cX2_drainWhenDry 49 = .ok (.iload_n 3, 1) := by decide +kernel
theorem dX2_drainWhenDry_50 : decode cX2_drainWhenDry 50 = .ok (.aaload, 1) := by decide +kernel
theorem dX2_drainWhenDry_51 : decode cX2_drainWhenDry 51 = .ok (.invokevirtual 134, 3) := by decide +kernel
theorem dX2_drainWhenDry_54 : decode cX2_drainWhenDry 54 = .ok (.iadd, 1) := by decide +kernel
theorem dX2_drainWhenDry_55 : decode cX2_drainWhenDry 55 = .ok (.istore_n 2, 1) := by decide +kernel
theorem dX2_drainWhenDry_56 : decode cX2_drainWhenDry 56 = .ok (.iinc 3 1, 3) := by decide +kernel
theorem dX2_drainWhenDry_59 : decode cX2_drainWhenDry 59 = .ok (.goto (-23), 3) := by decide +kernel
theorem dX2_drainWhenDry_62 : decode cX2_drainWhenDry 62 = .ok (.iload_n 2, 1) := by decide +kernel
theorem dX2_drainWhenDry_63 : decode cX2_drainWhenDry 63 = .ok (.ireturn, 1) := by decide +kernel
theorem dX2_put_0 : decode cX2_put 0 = .ok (.aload_n 0, 1) := by decide +kernel
theorem dX2_put_1 : decode cX2_put 1 = .ok (.getfield 36, 3) := by decide +kernel
theorem dX2_put_4 : decode cX2_put 4 = .ok (.iload_n 1, 1) := by decide +kernel
theorem dX2_put_5 : decode cX2_put 5 = .ok (.bipush 10, 2) := by decide +kernel
theorem dX2_put_7 : decode cX2_put 7 = .ok (.imul, 1) := by decide +kernel
theorem dX2_put_8 : decode cX2_put 8 = .ok (.iload_n 2, 1) := by decide +kernel
theorem dX2_put_9 : decode cX2_put 9 = .ok (.iadd, 1) := by decide +kernel
theorem dX2_put_10 : decode cX2_put 10 = .ok (.iload_n 3, 1) := by decide +kernel
theorem dX2_put_11 : decode cX2_put 11 = .ok (.iastore, 1) := by decide +kernel
theorem dX2_put_12 : decode cX2_put 12 = .ok (.return_, 1) := by decide +kernel
theorem dX3_init_0 : decode cX3_init 0 = .ok (.aload_n 0, 1) := by decide +kernel
theorem dX3_init_1 : decode cX3_init 1 = .ok (.invokespecial 3, 3) := by decide +kernel
theorem dX3_init_4 : decode cX3_init 4 = .ok (.return_, 1) := by decide +kernel
set_option maxRecDepth 20000 in
theorem ggX3_set_X3_clearAmounts : GoodIn wsX3_set wsX3_clearAmounts := goodIn_r _ [7, 8, 9, 10, 11, 12, 13] (by decide +kernel) (by decide +kernel)
set_option maxRecDepth 20000 in
theorem gX3_set_X3_clearAmounts : GoodIn wsX3_set (wsV RX3 18 RX3 yX3_clearAmounts wsX3_clearAmounts) := goodIn_app (goodIn_of _ (by decide +kernel)) ggX3_set_X3_clearAmounts
theorem dX3_set_0 : decode cX3_set 0 = .ok (.aload_n 0, 1) := by decide +kernel
theorem dX3_set_1 : decode cX3_set 1 = .ok (.iload_n 1, 1) := by decide +kernel
theorem dX3_set_2 : decode cX3_set 2 = .ok (.putfield 9, 3) := by decide +kernel
theorem dX3_set_5 : decode cX3_set 5 = .ok (.aload_n 0, 1) := by decide +kernel
theorem dX3_set_6 : decode cX3_set 6 = .ok (.iload_n 2, 1) := by decide +kernel
theorem dX3_set_7 : decode cX3_set 7 = .ok (.putfield 15, 3) := by decide +kernel
theorem dX3_set_10 : decode cX3_set 10 = .ok (.aload_n 0, 1) := by decide +kernel
theorem dX3_set_11 : decode cX3_set 11 = .ok (.invokevirtual 18, 3) := by decide +kernel
theorem dX3_set_14 : decode cX3_set 14 = .ok (.return_, 1) := by decide +kernel
set_option maxRecDepth 20000 in
theorem ggX3_copyFrom_X3_set : GoodIn wsX3_copyFrom wsX3_set := goodIn_r _ [9, 1, 2, 10, 11, 12, 8, 13, 3, 4, 14, 15, 16, 17] (by decide +kernel) (by decide +kernel)
set_option maxRecDepth 20000 in
theorem gX3_copyFrom_X3_set : GoodIn wsX3_copyFrom (wsV RX3 21 RX3 yX3_set wsX3_set) := goodIn_app (goodIn_of _ (by decide +kernel)) ggX3_copyFrom_X3_set
theorem dX3_copyFrom_0 : decode cX3_copyFrom 0 = .ok (.aload_n 0, 1) := by decide +kernel
theorem dX3_copyFrom_1 : decode cX3_copyFrom 1 = .ok (.aload_n 1, 1) := by decide +kernel
theorem dX3_copyFrom_2 : decode cX3_copyFrom 2 = .ok (.getfield 9, 3) := by decide +kernel
theorem dX3_copyFrom_5 : decode cX3_copyFrom 5 = .ok (.aload_n 1, 1) := by decide +kernel
theorem dX3_copyFrom_6 : decode cX3_copyFrom 6 = .ok (.getfield 15, 3) := by decide +kernel
theorem dX3_copyFrom_9 : decode cX3_copyFrom 9 = .ok (.invokevirtual 21, 3) := by decide +kernel
theorem dX3_copyFrom_12 : decode cX3_copyFrom 12 = .ok (.aload_n 0, 1) := by decide +kernel
theorem dX3_copyFrom_13 : decode cX3_copyFrom 13 = .ok (.aload_n 1, 1) := by decide +kernel
theorem dX3_copyFrom_14 : decode cX3_copyFrom 14 = .ok (.getfield 25, 3) := by decide +kernel
theorem dX3_copyFrom_17 : decode cX3_copyFrom 17 = .ok (.putfield 25, 3) := by decide +kernel
theorem dX3_copyFrom_20 : decode cX3_copyFrom 20 = .ok (.aload_n 0, 1) := by decide +kernel
theorem dX3_copyFrom_21 : decode cX3_copyFrom 21 = .ok (.aload_n 1, 1) := by decide +kernel
theorem dX3_copyFrom_22 : decode cX3_copyFrom 22 = .ok (.getfield 28, 3) := by decide +kernel
theorem dX3_copyFrom_25 : decode cX3_copyFrom 25 = .ok (.putfield 28, 3) := by decide +kernel
theorem dX3_copyFrom_28 : decode cX3_copyFrom 28 = .ok (.return_, 1) := by decide +kernel
theorem dX3_clearAmounts_0 : decode cX3_clearAmounts 0 = .ok (.aload_n 0, 1) := by decide +kernel
theorem dX3_clearAmounts_1 : decode cX3_clearAmounts 1 = .ok (.iconst 0, 1) := by decide +kernel
theorem dX3_clearAmounts_2 : decode cX3_clearAmounts 2 = .ok (.putfield 25, 3) := by decide +kernel
theorem dX3_clearAmounts_5 : decode cX3_clearAmounts 5 = .ok (.aload_n 0, 1) := by decide +kernel
theorem dX3_clearAmounts_6 : decode cX3_clearAmounts 6 = .ok (.iconst 0, 1) := by decide +kernel
theorem dX3_clearAmounts_7 : decode cX3_clearAmounts 7 = .ok (.putfield 28, 3) := by decide +kernel
theorem dX3_clearAmounts_10 : decode cX3_clearAmounts 10 = .ok (.return_, 1) := by decide +kernel
theorem dX3_value_0 : decode cX3_value 0 = .ok (.iload_n 1, 1) := by decide +kernel
theorem dX3_value_1 : decode cX3_value 1 = .ok (.tableswitch 42 0 2 #[27, 32, 37], 27) := by decide +kernel
theorem dX3_value_28 : decode cX3_value 28 = .ok (.aload_n 0, 1) := by decide +kernel
theorem dX3_value_29 : decode cX3_value 29 = .ok (.getfield 9, 3) := by decide +kernel
theorem dX3_value_32 : decode cX3_value 32 = .ok (.ireturn, 1) := by decide +kernel
theorem dX3_value_33 : decode cX3_value 33 = .ok (.aload_n 0, 1) := by decide +kernel
theorem dX3_value_34 : decode cX3_value 34 = .ok (.getfield 15, 3) := by decide +kernel
theorem dX3_value_37 : decode cX3_value 37 = .ok (.ireturn, 1) := by decide +kernel
theorem dX3_value_38 : decode cX3_value 38 = .ok (.aload_n 0, 1) := by decide +kernel
theorem dX3_value_39 : decode cX3_value 39 = .ok (.getfield 25, 3) := by decide +kernel
theorem dX3_value_42 : decode cX3_value 42 = .ok (.ireturn, 1) := by decide +kernel
theorem dX3_value_43 : decode cX3_value 43 = .ok (.aload_n 0, 1) := by decide +kernel
theorem dX3_value_44 : decode cX3_value 44 = .ok (.getfield 28, 3) := by decide +kernel
theorem dX3_value_47 : decode cX3_value 47 = .ok (.ireturn, 1) := by decide +kernel
theorem dX3_lack_0 : decode cX3_lack 0 = .ok (.aload_n 0, 1) := by decide +kernel
theorem dX3_lack_1 : decode cX3_lack 1 = .ok (.getfield 9, 3) := by decide +kernel
theorem dX3_lack_4 : decode cX3_lack 4 = .ok (.aload_n 0, 1) := by decide +kernel
theorem dX3_lack_5 : decode cX3_lack 5 = .ok (.getfield 25, 3) := by decide +kernel
theorem dX3_lack_8 : decode cX3_lack 8 = .ok (.isub, 1) := by decide +kernel
theorem dX3_lack_9 : decode cX3_lack 9 = .ok (.ireturn, 1) := by decide +kernel
theorem dX3_portion_0 : decode cX3_portion 0 = .ok (.bipush 10, 2) := by decide +kernel
theorem dX3_portion_2 : decode cX3_portion 2 = .ok (.aload_n 0, 1) := by decide +kernel
theorem dX3_portion_3 : decode cX3_portion 3 = .ok (.getfield 15, 3) := by decide +kernel
theorem dX3_portion_6 : decode cX3_portion 6 = .ok (.imul, 1) := by decide +kernel
theorem dX3_portion_7 : decode cX3_portion 7 = .ok (.ireturn, 1) := by decide +kernel
set_option maxRecDepth 20000 in
theorem ggX3_give_X3_lack : GoodIn wsX3_give wsX3_lack := goodIn_r _ [10, 11, 5, 12, 13, 14, 15] (by decide +kernel) (by decide +kernel)
set_option maxRecDepth 20000 in
theorem gX3_give_X3_lack : GoodIn wsX3_give (wsV RX3 31 RX3 yX3_lack wsX3_lack) := goodIn_app (goodIn_of _ (by decide +kernel)) ggX3_give_X3_lack
theorem dX3_give_0 : decode cX3_give 0 = .ok (.iload_n 1, 1) := by decide +kernel
theorem dX3_give_1 : decode cX3_give 1 = .ok (.aload_n 0, 1) := by decide +kernel
theorem dX3_give_2 : decode cX3_give 2 = .ok (.invokevirtual 31, 3) := by decide +kernel
theorem dX3_give_5 : decode cX3_give 5 = .ok (.invokestatic 35, 3) := by decide +kernel
theorem dX3_give_8 : decode cX3_give 8 = .ok (.istore_n 2, 1) := by decide +kernel
theorem dX3_give_9 : decode cX3_give 9 = .ok (.aload_n 0, 1) := by decide +kernel
theorem dX3_give_10 : decode cX3_give 10 = .ok (.dup, 1) := by decide +kernel
theorem dX3_give_11 : decode cX3_give 11 = .ok (.getfield 25, 3) := by decide +kernel
theorem dX3_give_14 : decode cX3_give 14 = .ok (.iload_n 2, 1) := by decide +kernel
theorem dX3_give_15 : decode cX3_give 15 = .ok (.iadd, 1) := by decide +kernel
theorem dX3_give_16 : decode cX3_give 16 = .ok (.putfield 25, 3) := by decide +kernel
theorem dX3_give_19 : decode cX3_give 19 = .ok (.iload_n 2, 1) := by decide +kernel
theorem dX3_give_20 : decode cX3_give 20 = .ok (.ireturn, 1) := by decide +kernel
set_option maxRecDepth 20000 in
theorem ggX4_init_X3_init : GoodIn wsX4_init wsX3_init := goodIn_r _ [11, 12, 2, 3] (by decide +kernel) (by decide +kernel)
set_option maxRecDepth 20000 in
theorem gX4_init_X3_init_n17 : GoodIn wsX4_init (wsX3_init) := ggX4_init_X3_init
theorem dX4_init_0 : decode cX4_init 0 = .ok (.aload_n 0, 1) := by decide +kernel
theorem dX4_init_1 : decode cX4_init 1 = .ok (.invokespecial 3, 3) := by decide +kernel
theorem dX4_init_4 : decode cX4_init 4 = .ok (.aload_n 0, 1) := by decide +kernel
theorem dX4_init_5 : decode cX4_init 5 = .ok (.iconst 5, 1) := by decide +kernel
theorem dX4_init_6 : decode cX4_init 6 = .ok (.anewarray 9, 3) := by decide +kernel
theorem dX4_init_9 : decode cX4_init 9 = .ok (.putfield 11, 3) := by decide +kernel
theorem dX4_init_12 : decode cX4_init 12 = .ok (.iconst 0, 1) := by decide +kernel
theorem dX4_init_13 : decode cX4_init 13 = .ok (.istore_n 1, 1) := by decide +kernel
theorem dX4_init_14 : decode cX4_init 14 = .ok (.iload_n 1, 1) := by decide +kernel
theorem dX4_init_15 : decode cX4_init 15 = .ok (.aload_n 0, 1) := by decide +kernel
theorem dX4_init_16 : decode cX4_init 16 = .ok (.getfield 11, 3) := by decide +kernel
theorem dX4_init_19 : decode cX4_init 19 = .ok (.arraylength, 1) := by decide +kernel
theorem dX4_init_20 : decode cX4_init 20 = .ok (.if_icmp .ge 22, 3) := by decide +kernel
theorem dX4_init_23 : decode cX4_init 23 = .ok (.aload_n 0, 1) := by decide +kernel
theorem dX4_init_24 : decode cX4_init 24 = .ok (.getfield 11, 3) := by decide +kernel
theorem dX4_init_27 : decode cX4_init 27 = .ok (.iload_n 1, 1) := by decide +kernel
theorem dX4_init_28 : decode cX4_init 28 = .ok (.new 9, 3) := by decide +kernel
theorem dX4_init_31 : decode cX4_init 31 = .ok (.dup, 1) := by decide +kernel
theorem dX4_init_32 : decode cX4_init 32 = .ok (.invokespecial 17, 3) := by decide +kernel
theorem dX4_init_35 : decode cX4_init 35 = .ok (.aastore, 1) := by decide +kernel
theorem dX4_init_36 : decode cX4_init 36 = .ok (.iinc 1 1, 3) := by decide +kernel
theorem dX4_init_39 : decode cX4_init 39 = .ok (.goto (-25), 3) := by decide +kernel
theorem dX4_init_42 : decode cX4_init 42 = .ok (.aload_n 0, 1) := by decide +kernel
theorem dX4_init_43 : decode cX4_init 43 = .ok (.iconst 5, 1) := by decide +kernel
theorem dX4_init_44 : decode cX4_init 44 = .ok (.newarray .int, 2) := by decide +kernel
theorem dX4_init_46 : decode cX4_init 46 = .ok (.putfield 18, 3) := by decide +kernel
theorem dX4_init_49 : decode cX4_init 49 = .ok (.return_, 1) := by decide +kernel
set_option maxRecDepth 20000 in
theorem ggX4_copyFrom_X3_copyFrom : GoodIn wsX4_copyFrom wsX3_copyFrom := goodIn_r _ [7, 8, 9, 10, 11, 12, 13, 14, 6, 15, 16, 17, 18, 19, 23, 24, 25, 26] (by decide +kernel) (by decide +kernel)
set_option maxRecDepth 20000 in
theorem gX4_copyFrom_X3_copyFrom : GoodIn wsX4_copyFrom (wsV RX4 26 RX3 yX3_copyFrom wsX3_copyFrom) := goodIn_app (goodIn_of _ (by decide +kernel)) ggX4_copyFrom_X3_copyFrom
theorem dX4_copyFrom_0 : decode cX4_copyFrom 0 = .ok (.aload_n 0, 1) := by decide +kernel
theorem dX4_copyFrom_1 : decode cX4_copyFrom 1 = .ok (.aload_n 1, 1) := by decide +kernel
theorem dX4_copyFrom_2 : decode cX4_copyFrom 2 = .ok (.getfield 22, 3) := by decide +kernel
theorem dX4_copyFrom_5 : decode cX4_copyFrom 5 = .ok (.putfield 22, 3) := by decide +kernel
theorem dX4_copyFrom_8 : decode cX4_copyFrom 8 = .ok (.iconst 0, 1) := by decide +kernel
theorem dX4_copyFrom_9 : decode cX4_copyFrom 9 = .ok (.istore_n 2, 1) := by decide +kernel
theorem dX4_copyFrom_10 : decode cX4_copyFrom 10 = .ok (.iload_n 2, 1) := by decide +kernel
theorem dX4_copyFrom_11 : decode cX4_copyFrom 11 = .ok (.aload_n 0, 1) := by decide +kernel
theorem dX4_copyFrom_12 : decode cX4_copyFrom 12 = .ok (.getfield 22, 3) := by decide +kernel
theorem dX4_copyFrom_15 : decode cX4_copyFrom 15 = .ok (.if_icmp .ge 24, 3) := by decide +kernel
theorem dX4_copyFrom_18 : decode cX4_copyFrom 18 = .ok (.aload_n 0, 1) := by decide +kernel
theorem dX4_copyFrom_19 : decode cX4_copyFrom 19 = .ok (.getfield 11, 3) := by decide +kernel
theorem dX4_copyFrom_22 : decode cX4_copyFrom 22 = .ok (.iload_n 2, 1) := by decide +kernel
theorem dX4_copyFrom_23 : decode cX4_copyFrom 23 = .ok (.aaload, 1) := by decide +kernel
theorem dX4_copyFrom_24 : decode cX4_copyFrom 24 = .ok (.aload_n 1, 1) := by decide +kernel
theorem dX4_copyFrom_25 : decode cX4_copyFrom 25 = .ok (.getfield 11, 3) := by decide +kernel
theorem dX4_copyFrom_28 : decode cX4_copyFrom 28 = .ok (.iload_n 2, 1) := by decide +kernel
theorem dX4_copyFrom_29 : decode cX4_copyFrom 29 = .ok (.aaload, 1) := by decide +kernel
theorem dX4_copyFrom_30 : decode cX4_copyFrom 30 = .ok (.invokevirtual 26, 3) := by decide +kernel
theorem dX4_copyFrom_33 : decode cX4_copyFrom 33 = .ok (.iinc 2 1, 3) := by decide +kernel
theorem dX4_copyFrom_36 : decode cX4_copyFrom 36 = .ok (.goto (-26), 3) := by decide +kernel
theorem dX4_copyFrom_39 : decode cX4_copyFrom 39 = .ok (.return_, 1) := by decide +kernel
set_option maxRecDepth 20000 in
theorem ggX4_clearAmounts_X3_clearAmounts : GoodIn wsX4_clearAmounts wsX3_clearAmounts := goodIn_r _ [7, 8, 9, 13, 14, 15, 16] (by decide +kernel) (by decide +kernel)
set_option maxRecDepth 20000 in
theorem gX4_clearAmounts_X3_clearAmounts : GoodIn wsX4_clearAmounts (wsV RX4 30 RX3 yX3_clearAmounts wsX3_clearAmounts) := goodIn_app (goodIn_of _ (by decide +kernel)) ggX4_clearAmounts_X3_clearAmounts
theorem dX4_clearAmounts_0 : decode cX4_clearAmounts 0 = .ok (.iconst 0, 1) := by decide +kernel
theorem dX4_clearAmounts_1 : decode cX4_clearAmounts 1 = .ok (.istore_n 1, 1) := by decide +kernel
theorem dX4_clearAmounts_2 : decode cX4_clearAmounts 2 = .ok (.iload_n 1, 1) := by decide +kernel
theorem dX4_clearAmounts_3 : decode cX4_clearAmounts 3 = .ok (.aload_n 0, 1) := by decide +kernel
theorem dX4_clearAmounts_4 : decode cX4_clearAmounts 4 = .ok (.getfield 22, 3) := by decide +kernel
theorem dX4_clearAmounts_7 : decode cX4_clearAmounts 7 = .ok (.if_icmp .ge 18, 3) := by decide +kernel
theorem dX4_clearAmounts_10 : decode cX4_clearAmounts 10 = .ok (.aload_n 0, 1) := by decide +kernel
theorem dX4_clearAmounts_11 : decode cX4_clearAmounts 11 = .ok (.getfield 11, 3) := by decide +kernel
theorem dX4_clearAmounts_14 : decode cX4_clearAmounts 14 = .ok (.iload_n 1, 1) := by decide +kernel
theorem dX4_clearAmounts_15 : decode cX4_clearAmounts 15 = .ok (.aaload, 1) := by decide +kernel
theorem dX4_clearAmounts_16 : decode cX4_clearAmounts 16 = .ok (.invokevirtual 30, 3) := by decide +kernel
theorem dX4_clearAmounts_19 : decode cX4_clearAmounts 19 = .ok (.iinc 1 1, 3) := by decide +kernel
theorem dX4_clearAmounts_22 : decode cX4_clearAmounts 22 = .ok (.goto (-20), 3) := by decide +kernel
theorem dX4_clearAmounts_25 : decode cX4_clearAmounts 25 = .ok (.return_, 1) := by decide +kernel
theorem dX4_scaleDemands_0 : decode cX4_scaleDemands 0 = .ok (.iconst 0, 1) := by decide +kernel
theorem dX4_scaleDemands_1 : decode cX4_scaleDemands 1 = .ok (.istore_n 3, 1) := by decide +kernel
theorem dX4_scaleDemands_2 : decode cX4_scaleDemands 2 = .ok (.iload_n 3, 1) := by decide +kernel
theorem dX4_scaleDemands_3 : decode cX4_scaleDemands 3 = .ok (.aload_n 0, 1) := by decide +kernel
theorem dX4_scaleDemands_4 : decode cX4_scaleDemands 4 = .ok (.getfield 22, 3) := by decide +kernel
theorem dX4_scaleDemands_7 : decode cX4_scaleDemands 7 = .ok (.if_icmp .ge 32, 3) := by decide +kernel
theorem dX4_scaleDemands_10 : decode cX4_scaleDemands 10 = .ok (.aload_n 0, 1) := by decide +kernel
theorem dX4_scaleDemands_11 : decode cX4_scaleDemands 11 = .ok (.getfield 11, 3) := by decide +kernel
theorem dX4_scaleDemands_14 : decode cX4_scaleDemands 14 = .ok (.iload_n 3, 1) := by decide +kernel
theorem dX4_scaleDemands_15 : decode cX4_scaleDemands 15 = .ok (.aaload, 1) := by decide +kernel
theorem dX4_scaleDemands_16 : decode cX4_scaleDemands 16 = .ok (.aload_n 1, 1) := by decide +kernel
theorem dX4_scaleDemands_17 : decode cX4_scaleDemands 17 = .ok (.getfield 11, 3) := by decide +kernel
theorem dX4_scaleDemands_20 : decode cX4_scaleDemands 20 = .ok (.iload_n 3, 1) := by decide +kernel
theorem dX4_scaleDemands_21 : decode cX4_scaleDemands 21 = .ok (.aaload, 1) := by decide +kernel
theorem dX4_scaleDemands_22 : decode cX4_scaleDemands 22 = .ok (.getfield 33, 3) := by decide +kernel
theorem dX4_scaleDemands_25 : decode cX4_scaleDemands 25 = .ok (.iload_n 2, 1) := by decide +kernel
theorem dX4_scaleDemands_26 : decode cX4_scaleDemands 26 = .ok (.imul, 1) := by decide +kernel
theorem dX4_scaleDemands_27 : decode cX4_scaleDemands 27 = .ok (.bipush 100, 2) := by decide +kernel
theorem dX4_scaleDemands_29 : decode cX4_scaleDemands 29 = .ok (.idiv, 1) := by decide +kernel
theorem dX4_scaleDemands_30 : decode cX4_scaleDemands 30 = .ok (.putfield 33, 3) := by decide +kernel
theorem dX4_scaleDemands_33 : decode cX4_scaleDemands 33 = .ok (.iinc 3 1, 3) := by decide +kernel
theorem dX4_scaleDemands_36 : decode cX4_scaleDemands 36 = .ok (.goto (-34), 3) := by decide +kernel
theorem dX4_scaleDemands_39 : decode cX4_scaleDemands 39 = .ok (.return_, 1) := by decide +kernel
theorem dX4_demandInAll_0 : decode cX4_demandInAll 0 = .ok (.iconst 0, 1) := by decide +kernel
theorem dX4_demandInAll_1 : decode cX4_demandInAll 1 = .ok (.istore_n 1, 1) := by decide +kernel
theorem dX4_demandInAll_2 : decode cX4_demandInAll 2 = .ok (.iconst 0, 1) := by decide +kernel
theorem dX4_demandInAll_3 : decode cX4_demandInAll 3 = .ok (.istore_n 2, 1) := by decide +kernel
theorem dX4_demandInAll_4 : decode cX4_demandInAll 4 = .ok (.iload_n 2, 1) := by decide +kernel
theorem dX4_demandInAll_5 : decode cX4_demandInAll 5 = .ok (.aload_n 0, 1) := by decide +kernel
theorem dX4_demandInAll_6 : decode cX4_demandInAll 6 = .ok (.getfield 22, 3) := by decide +kernel
theorem dX4_demandInAll_9 : decode cX4_demandInAll 9 = .ok (.if_icmp .ge 21, 3) := by decide +kernel
theorem dX4_demandInAll_12 : decode cX4_demandInAll 12 = .ok (.iload_n 1, 1) := by decide +kernel
theorem dX4_demandInAll_13 : decode cX4_demandInAll 13 = .ok (.aload_n 0, 1) := by decide +kernel
theorem dX4_demandInAll_14 : decode cX4_demandInAll 14 = .ok (.getfield 11, 3) := by decide +kernel
theorem dX4_demandInAll_17 : decode cX4_demandInAll 17 = .ok (.iload_n 2, 1) := by decide +kernel
theorem dX4_demandInAll_18 : decode cX4_demandInAll 18 = .ok (.aaload, 1) := by decide +kernel
theorem dX4_demandInAll_19 : decode cX4_demandInAll 19 = .ok (.getfield 33, 3) := by decide +kernel
theorem dX4_demandInAll_22 : decode cX4_demandInAll 22 = .ok (.iadd, 1) := by decide +kernel
theorem dX4_demandInAll_23 : decode cX4_demandInAll 23 = .ok (.istore_n 1, 1) := by decide +kernel
theorem dX4_demandInAll_24 : decode cX4_demandInAll 24 = .ok (.iinc 2 1, 3) := by decide +kernel
theorem dX4_demandInAll_27 : decode cX4_demandInAll 27 = .ok (.goto (-23), 3) := by decide +kernel
theorem dX4_demandInAll_30 : decode cX4_demandInAll 30 = .ok (.iload_n 1, 1) := by decide +kernel
theorem dX4_demandInAll_31 : decode cX4_demandInAll 31 = .ok (.ireturn, 1) := by decide +kernel
theorem dX4_greatestLack_0 : decode cX4_greatestLack 0 = .ok (.iconst 0, 1) := by decide +kernel
theorem dX4_greatestLack_1 : decode cX4_greatestLack 1 = .ok (.istore_n 2, 1) := by decide +kernel
theorem dX4_greatestLack_2 : decode cX4_greatestLack 2 = .ok (.iconst 0, 1) := by decide +kernel
theorem dX4_greatestLack_3 : decode cX4_greatestLack 3 = .ok (.istore_n 3, 1) := by decide +kernel
theorem dX4_greatestLack_4 : decode cX4_greatestLack 4 = .ok (.iload_n 3, 1) := by decide +kernel
theorem dX4_greatestLack_5 : decode cX4_greatestLack 5 = .ok (.aload_n 0, 1) := by decide +kernel
theorem dX4_greatestLack_6 : decode cX4_greatestLack 6 = .ok (.getfield 22, 3) := by decide +kernel
theorem dX4_greatestLack_9 : decode cX4_greatestLack 9 = .ok (.if_icmp .ge 35, 3) := by decide +kernel
theorem dX4_greatestLack_12 : decode cX4_greatestLack 12 = .ok (.iload_n 2, 1) := by decide +kernel
theorem dX4_greatestLack_13 : decode cX4_greatestLack 13 = .ok (.aload_n 0, 1) := by decide +kernel
theorem dX4_greatestLack_14 : decode cX4_greatestLack 14 = .ok (.getfield 11, 3) := by decide +kernel
theorem dX4_greatestLack_17 : decode cX4_greatestLack 17 = .ok (.iload_n 3, 1) := by decide +kernel
theorem dX4_greatestLack_18 : decode cX4_greatestLack 18 = .ok (.aaload, 1) := by decide +kernel
theorem dX4_greatestLack_19 : decode cX4_greatestLack 19 = .ok (.getfield 33, 3) := by decide +kernel
theorem dX4_greatestLack_22 : decode cX4_greatestLack 22 = .ok (.iload_n 1, 1) := by decide +kernel
theorem dX4_greatestLack_23 : decode cX4_greatestLack 23 = .ok (.imul, 1) := by decide +kernel
theorem dX4_greatestLack_24 : decode cX4_greatestLack 24 = .ok (.aload_n 0, 1) := by decide +kernel
theorem dX4_greatestLack_25 : decode cX4_greatestLack 25 = .ok (.getfield 11, 3) := by decide +kernel
theorem dX4_greatestLack_28 : decode cX4_greatestLack 28 = .ok (.iload_n 3, 1) := by decide +kernel
theorem dX4_greatestLack_29 : decode cX4_greatestLack 29 = .ok (.aaload, 1) := by decide +kernel
theorem dX4_greatestLack_30 : decode cX4_greatestLack 30 = .ok (.getfield 36, 3) := by decide +kernel
theorem dX4_greatestLack_33 : decode cX4_greatestLack 33 = .ok (.isub, 1) := by decide +kernel
theorem dX4_greatestLack_34 : decode cX4_greatestLack 34 = .ok (.invokestatic 39, 3) := by decide +kernel
theorem dX4_greatestLack_37 : decode cX4_greatestLack 37 = .ok (.istore_n 2, 1) := by decide +kernel
theorem dX4_greatestLack_38 : decode cX4_greatestLack 38 = .ok (.iinc 3 1, 3) := by decide +kernel
theorem dX4_greatestLack_41 : decode cX4_greatestLack 41 = .ok (.goto (-37), 3) := by decide +kernel
theorem dX4_greatestLack_44 : decode cX4_greatestLack 44 = .ok (.iload_n 2, 1) := by decide +kernel
theorem dX4_greatestLack_45 : decode cX4_greatestLack 45 = .ok (.ireturn, 1) := by decide +kernel
set_option maxRecDepth 20000 in
theorem ggX4_handOut_X4_demandInAll : GoodIn wsX4_handOut wsX4_demandInAll := goodIn_r _ [9, 1, 2, 10, 62, 63, 64, 65, 66, 67, 68] (by decide +kernel) (by decide +kernel)
set_option maxRecDepth 20000 in
theorem gX4_handOut_X4_demandInAll : GoodIn wsX4_handOut (wsV RX4 48 RX4 yX4_demandInAll wsX4_demandInAll) := goodIn_app (goodIn_of _ (by decide +kernel)) ggX4_handOut_X4_demandInAll
set_option maxRecDepth 20000 in
theorem ggX4_handOut_X4_orderByNumber : GoodIn wsX4_handOut wsX4_orderByNumber := goodIn_r _ [14, 1, 15, 62, 63, 64] (by decide +kernel) (by decide +kernel)
set_option maxRecDepth 20000 in
theorem gX4_handOut_X4_orderByNumber : GoodIn wsX4_handOut (wsV RX4 52 RX4 yX4_orderByNumber wsX4_orderByNumber) := goodIn_app (goodIn_of _ (by decide +kernel)) ggX4_handOut_X4_orderByNumber
set_option maxRecDepth 20000 in
theorem ggX4_handOut_X4_serveOrder : GoodIn wsX4_handOut wsX4_serveOrder := goodIn_r _ [19, 1, 2, 15, 20, 21, 22, 23, 24, 25, 26, 27, 28, 29, 30, 31, 32, 33, 34, 62, 63, 64, 65, 66, 67, 68] (by decide +kernel) (by decide +kernel)
set_option maxRecDepth 20000 in
theorem gX4_handOut_X4_serveOrder : GoodIn wsX4_handOut (wsV RX4 55 RX4 yX4_serveOrder wsX4_serveOrder) := goodIn_app (goodIn_of _ (by decide +kernel)) ggX4_handOut_X4_serveOrder
set_option maxRecDepth 20000 in
theorem ggX4_handOut_X4_share : GoodIn wsX4_handOut wsX4_share := goodIn_r _ [38, 39, 40, 41, 8, 42, 1, 2, 10, 20, 21, 22, 23, 24, 25, 26, 27, 28, 29, 30, 31, 32, 33, 34, 11, 12, 13, 14, 15, 16, 17, 18, 19, 43, 44, 45, 46, 47, 48, 49, 50, 51, 52, 53, 54, 55, 56, 57, 58, 59, 60, 61, 62, 63, 64, 65, 66, 67, 68] (by decide +kernel) (by decide +kernel)
set_option maxRecDepth 20000 in
theorem gX4_handOut_X4_share : GoodIn wsX4_handOut (wsV RX4 59 RX4 yX4_share wsX4_share) := goodIn_app (goodIn_of _ (by decide +kernel)) ggX4_handOut_X4_share
theorem dX4_handOut_0 : decode cX4_handOut 0 = .ok (.iconst 0, 1) := by decide +kernel
theorem dX4_handOut_1 : decode cX4_handOut 1 = .ok (.istore_n 3, 1) := by decide +kernel
theorem dX4_handOut_2 : decode cX4_handOut 2 = .ok (.iload_n 3, 1) := by decide +kernel
theorem dX4_handOut_3 : decode cX4_handOut 3 = .ok (.aload_n 0, 1) := by decide +kernel
theorem dX4_handOut_4 : decode cX4_handOut 4 = .ok (.getfield 22, 3) := by decide +kernel
theorem dX4_handOut_7 : decode cX4_handOut 7 = .ok (.if_icmp .ge 19, 3) := by decide +kernel
theorem dX4_handOut_10 : decode cX4_handOut 10 = .ok (.aload_n 0, 1) := by decide +kernel
theorem dX4_handOut_11 : decode cX4_handOut 11 = .ok (.getfield 11, 3) := by decide +kernel
theorem dX4_handOut_14 : decode cX4_handOut 14 = .ok (.iload_n 3, 1) := by decide +kernel
theorem dX4_handOut_15 : decode cX4_handOut 15 = .ok (.aaload, 1) := by decide +kernel
theorem dX4_handOut_16 : decode cX4_handOut 16 = .ok (.iconst 0, 1) := by decide +kernel
theorem dX4_handOut_17 : decode cX4_handOut 17 = .ok (.putfield 45, 3) := by decide +kernel
theorem dX4_handOut_20 : decode cX4_handOut 20 = .ok (.iinc 3 1, 3) := by decide +kernel
theorem dX4_handOut_23 : decode cX4_handOut 23 = .ok (.goto (-21), 3) := by decide +kernel
theorem dX4_handOut_26 : decode cX4_handOut 26 = .ok (.aload_n 0, 1) := by decide +kernel
theorem dX4_handOut_27 : decode cX4_handOut 27 = .ok (.invokevirtual 48, 3) := by decide +kernel
theorem dX4_handOut_30 : decode cX4_handOut 30 = .ok (.istore_n 3, 1) := by decide +kernel
theorem dX4_handOut_31 : decode cX4_handOut 31 = .ok (.iload_n 1, 1) := by decide +kernel
theorem dX4_handOut_32 : decode cX4_handOut 32 = .ok (.iload_n 3, 1) := by decide +kernel
theorem dX4_handOut_33 : decode cX4_handOut 33 = .ok (.if_icmp .lt 15, 3) := by decide +kernel
theorem dX4_handOut_36 : decode cX4_handOut 36 = .ok (.aload_n 0, 1) := by decide +kernel
theorem dX4_handOut_37 : decode cX4_handOut 37 = .ok (.invokevirtual 52, 3) := by decide +kernel
theorem dX4_handOut_40 : decode cX4_handOut 40 = .ok (.aload_n 0, 1) := by decide +kernel
theorem dX4_handOut_41 : decode cX4_handOut 41 = .ok (.iload_n 3, 1) := by decide +kernel
theorem dX4_handOut_42 : decode cX4_handOut 42 = .ok (.invokevirtual 55, 3) := by decide +kernel
theorem dX4_handOut_45 : decode cX4_handOut 45 = .ok (.goto 10, 3) := by decide +kernel
theorem dX4_handOut_48 : decode cX4_handOut 48 = .ok (.aload_n 0, 1) := by decide +kernel
theorem dX4_handOut_49 : decode cX4_handOut 49 = .ok (.iload_n 1, 1) := by decide +kernel
theorem dX4_handOut_50 : decode cX4_handOut 50 = .ok (.iload_n 3, 1) := by decide +kernel
theorem dX4_handOut_51 : decode cX4_handOut 51 = .ok (.iload_n 2, 1) := by decide +kernel
theorem dX4_handOut_52 : decode cX4_handOut 52 = .ok (.invokevirtual 59, 3) := by decide +kernel
theorem dX4_handOut_55 : decode cX4_handOut 55 = .ok (.iconst 0, 1) := by decide +kernel
theorem dX4_handOut_56 : decode cX4_handOut 56 = .ok (.istore 4, 2) := by decide +kernel
theorem dX4_handOut_58 : decode cX4_handOut 58 = .ok (.iconst 0, 1) := by decide +kernel
theorem dX4_handOut_59 : decode cX4_handOut 59 = .ok (.istore 5, 2) := by decide +kernel
theorem dX4_handOut_61 : decode cX4_handOut 61 = .ok (.iload 5, 2) := by decide +kernel
theorem dX4_handOut_63 : decode cX4_handOut 63 = .ok (.aload_n 0, 1) := by decide +kernel
theorem dX4_handOut_64 : decode cX4_handOut 64 = .ok (.getfield 22, 3) := by decide +kernel
theorem dX4_handOut_67 : decode cX4_handOut 67 = .ok (.if_icmp .ge 49, 3) := by decide +kernel
theorem dX4_handOut_70 : decode cX4_handOut 70 = .ok (.aload_n 0, 1) := by decide +kernel
theorem dX4_handOut_71 : decode cX4_handOut 71 = .ok (.getfield 11, 3) := by decide +kernel
theorem dX4_handOut_74 : decode cX4_handOut 74 = .ok (.iload 5, 2) := by decide +kernel
theorem dX4_handOut_76 : decode cX4_handOut 76 = .ok (.aaload, 1) := by decide +kernel
theorem dX4_handOut_77 : decode cX4_handOut 77 = .ok (.dup, 1) := by decide +kernel
theorem dX4_handOut_78 : decode cX4_handOut 78 = .ok (.getfield 36, 3) := by decide +kernel
theorem dX4_handOut_81 : decode cX4_handOut 81 = .ok (.aload_n 0, 1) := by decide +kernel
theorem dX4_handOut_82 : decode cX4_handOut 82 = .ok (.getfield 11, 3) := by decide +kernel
theorem dX4_handOut_85 : decode cX4_handOut 85 = .ok (.iload 5, 2) := by decide +kernel
theorem dX4_handOut_87 : decode cX4_handOut 87 = .ok (.aaload, 1) := by decide +kernel
theorem dX4_handOut_88 : decode cX4_handOut 88 = .ok (.getfield 45, 3) := by decide +kernel
theorem dX4_handOut_91 : decode cX4_handOut 91 = .ok (.iadd, 1) := by decide +kernel
theorem dX4_handOut_92 : decode cX4_handOut 92 = .ok (.putfield 36, 3) := by decide +kernel
theorem dX4_handOut_95 : decode cX4_handOut 95 = .ok (.iload 4, 2) := by decide +kernel
theorem dX4_handOut_97 : decode cX4_handOut 97 = .ok (.aload_n 0, 1) := by decide +kernel
theorem dX4_handOut_98 : decode cX4_handOut 98 = .ok (.getfield 11, 3) := by decide +kernel
theorem dX4_handOut_101 : decode cX4_handOut 101 = .ok (.iload 5, 2) := by decide +kernel
theorem dX4_handOut_103 : decode cX4_handOut 103 = .ok (.aaload, 1) := by decide +kernel
theorem dX4_handOut_104 : decode cX4_handOut 104 = .ok (.getfield 45, 3) := by decide +kernel
theorem dX4_handOut_107 : decode cX4_handOut 107 = .ok (.iadd, 1) := by decide +kernel
theorem dX4_handOut_108 : decode cX4_handOut 108 = .ok (.istore 4, 2) := by decide +kernel
theorem dX4_handOut_110 : decode cX4_handOut 110 = .ok (.iinc 5 1, 3) := by decide +kernel
theorem dX4_handOut_113 : decode cX4_handOut 113 = .ok (.goto (-52), 3) := by decide +kernel
theorem dX4_handOut_116 : decode cX4_handOut 116 = .ok (.iload 4, 2) := by decide +kernel
theorem dX4_handOut_118 : decode cX4_handOut 118 = .ok (.ireturn, 1) := by decide +kernel
set_option maxRecDepth 20000 in
theorem ggX4_share_X4_shareByDemand : GoodIn wsX4_share wsX4_shareByDemand := goodIn_r _ [5, 6, 7, 8, 9, 10, 11, 12, 13, 14, 15, 16, 17, 18, 19, 20, 21, 22, 23, 52, 53, 54, 55, 56, 57, 58] (by decide +kernel) (by decide +kernel)
set_option maxRecDepth 20000 in
theorem gX4_share_X4_shareByDemand : GoodIn wsX4_share (wsV RX4 63 RX4 yX4_shareByDemand wsX4_shareByDemand) := goodIn_app (goodIn_of _ (by decide +kernel)) ggX4_share_X4_shareByDemand
set_option maxRecDepth 20000 in
theorem ggX4_share_X4_orderByNumber : GoodIn wsX4_share wsX4_orderByNumber := goodIn_r _ [27, 6, 28, 52, 53, 54] (by decide +kernel) (by decide +kernel)
set_option maxRecDepth 20000 in
theorem gX4_share_X4_orderByNumber : GoodIn wsX4_share (wsV RX4 52 RX4 yX4_orderByNumber wsX4_orderByNumber) := goodIn_app (goodIn_of _ (by decide +kernel)) ggX4_share_X4_orderByNumber
set_option maxRecDepth 20000 in
theorem ggX4_share_X4_serveOrder : GoodIn wsX4_share wsX4_serveOrder := goodIn_r _ [32, 6, 7, 28, 9, 10, 11, 12, 13, 14, 15, 16, 17, 18, 19, 20, 21, 22, 23, 52, 53, 54, 55, 56, 57, 58] (by decide +kernel) (by decide +kernel)
set_option maxRecDepth 20000 in
theorem gX4_share_X4_serveOrder : GoodIn wsX4_share (wsV RX4 55 RX4 yX4_serveOrder wsX4_serveOrder) := goodIn_app (goodIn_of _ (by decide +kernel)) ggX4_share_X4_serveOrder
set_option maxRecDepth 20000 in
theorem ggX4_share_X4_shareInRounds : GoodIn wsX4_share wsX4_shareInRounds := goodIn_r _ [36, 6, 7, 37, 15, 16, 17, 38, 39, 40, 4, 41, 42, 20, 21, 12, 22, 23, 18, 43, 44, 45, 46, 47, 9, 10, 11, 13, 14, 19, 52, 53, 54, 55, 56, 57, 58] (by decide +kernel) (by decide +kernel)
set_option maxRecDepth 20000 in
theorem gX4_share_X4_shareInRounds : GoodIn wsX4_share (wsV RX4 67 RX4 yX4_shareInRounds wsX4_shareInRounds) := goodIn_app (goodIn_of _ (by decide +kernel)) ggX4_share_X4_shareInRounds
set_option maxRecDepth 20000 in
theorem ggX4_share_X4_orderByDemand : GoodIn wsX4_share wsX4_orderByDemand := goodIn_r _ [51, 6, 7, 28, 8, 52, 53, 54, 55, 56, 57, 58] (by decide +kernel) (by decide +kernel)
set_option maxRecDepth 20000 in
theorem gX4_share_X4_orderByDemand : GoodIn wsX4_share (wsV RX4 70 RX4 yX4_orderByDemand wsX4_orderByDemand) := goodIn_app (goodIn_of _ (by decide +kernel)) ggX4_share_X4_orderByDemand
theorem dX4_share_0 : decode cX4_share 0 = .ok (.iload_n 3, 1) := by decide +kernel
theorem dX4_share_1 : decode cX4_share 1 = .ok (.tableswitch 56 0 2 #[27, 36, 48], 27) := by decide +kernel
theorem dX4_share_28 : decode cX4_share 28 = .ok (.aload_n 0, 1) := by decide +kernel
theorem dX4_share_29 : decode cX4_share 29 = .ok (.iload_n 1, 1) := by decide +kernel
theorem dX4_share_30 : decode cX4_share 30 = .ok (.iload_n 2, 1) := by decide +kernel
theorem dX4_share_31 : decode cX4_share 31 = .ok (.invokevirtual 63, 3) := by decide +kernel
theorem dX4_share_34 : decode cX4_share 34 = .ok (.goto 32, 3) := by decide +kernel
theorem dX4_share_37 : decode cX4_share 37 = .ok (.aload_n 0, 1) := by decide +kernel
theorem dX4_share_38 : decode cX4_share 38 = .ok (.invokevirtual 52, 3) := by decide +kernel
theorem dX4_share_41 : decode cX4_share 41 = .ok (.aload_n 0, 1) := by decide +kernel
theorem dX4_share_42 : decode cX4_share 42 = .ok (.iload_n 1, 1) := by decide +kernel
theorem dX4_share_43 : decode cX4_share 43 = .ok (.invokevirtual 55, 3) := by decide +kernel
theorem dX4_share_46 : decode cX4_share 46 = .ok (.goto 20, 3) := by decide +kernel
theorem dX4_share_49 : decode cX4_share 49 = .ok (.aload_n 0, 1) := by decide +kernel
theorem dX4_share_50 : decode cX4_share 50 = .ok (.iload_n 1, 1) := by decide +kernel
theorem dX4_share_51 : decode cX4_share 51 = .ok (.invokevirtual 67, 3) := by decide +kernel
theorem dX4_share_54 : decode cX4_share 54 = .ok (.goto 12, 3) := by decide +kernel
theorem dX4_share_57 : decode cX4_share 57 = .ok (.aload_n 0, 1) := by decide +kernel
theorem dX4_share_58 : decode cX4_share 58 = .ok (.invokevirtual 70, 3) := by decide +kernel
theorem dX4_share_61 : decode cX4_share 61 = .ok (.aload_n 0, 1) := by decide +kernel
theorem dX4_share_62 : decode cX4_share 62 = .ok (.iload_n 1, 1) := by decide +kernel
theorem dX4_share_63 : decode cX4_share 63 = .ok (.invokevirtual 55, 3) := by decide +kernel
theorem dX4_share_66 : decode cX4_share 66 = .ok (.return_, 1) := by decide +kernel
set_option maxRecDepth 20000 in
theorem ggX4_shareByDemand_X3_give : GoodIn wsX4_shareByDemand wsX3_give := goodIn_r _ [8, 9, 10, 11, 12, 13, 14, 15, 16, 7, 17, 18, 22, 23, 24, 25] (by decide +kernel) (by decide +kernel)
set_option maxRecDepth 20000 in
theorem gX4_shareByDemand_X3_give : GoodIn wsX4_shareByDemand (wsV RX4 73 RX3 yX3_give wsX3_give) := goodIn_app (goodIn_of _ (by decide +kernel)) ggX4_shareByDemand_X3_give
theorem dX4_shareByDemand_0 : decode cX4_shareByDemand 0 = .ok (.iload_n 2, 1) := by decide +kernel
theorem dX4_shareByDemand_1 : decode cX4_shareByDemand 1 = .ok (.ifCond .gt 4, 3) := by decide +kernel
theorem dX4_shareByDemand_4 : decode cX4_shareByDemand 4 = .ok (.return_, 1) := by decide +kernel
theorem dX4_shareByDemand_5 : decode cX4_shareByDemand 5 = .ok (.iload_n 1, 1) := by decide +kernel
theorem dX4_shareByDemand_6 : decode cX4_shareByDemand 6 = .ok (.istore_n 3, 1) := by decide +kernel
theorem dX4_shareByDemand_7 : decode cX4_shareByDemand 7 = .ok (.iconst 0, 1) := by decide +kernel
theorem dX4_shareByDemand_8 : decode cX4_shareByDemand 8 = .ok (.istore 4, 2) := by decide +kernel
theorem dX4_shareByDemand_10 : decode cX4_shareByDemand 10 = .ok (.iload 4, 2) := by decide +kernel
theorem dX4_shareByDemand_12 : decode cX4_shareByDemand 12 = .ok (.aload_n 0, 1) := by decide +kernel
theorem dX4_shareByDemand_13 : decode cX4_shareByDemand 13 = .ok (.getfield 22, 3) := by decide +kernel
theorem dX4_shareByDemand_16 : decode cX4_shareByDemand 16 = .ok (.if_icmp .ge 44, 3) := by decide +kernel
theorem dX4_shareByDemand_19 : decode cX4_shareByDemand 19 = .ok (.aload_n 0, 1) := by decide +kernel
theorem dX4_shareByDemand_20 : decode cX4_shareByDemand 20 = .ok (.getfield 11, 3) := by decide +kernel
theorem dX4_shareByDemand_23 : decode cX4_shareByDemand 23 = .ok (.iload 4, 2) := by decide +kernel
theorem dX4_shareByDemand_25 : decode cX4_shareByDemand 25 = .ok (.aaload, 1) := by decide +kernel
theorem dX4_shareByDemand_26 : decode cX4_shareByDemand 26 = .ok (.getfield 33, 3) := by decide +kernel
theorem dX4_shareByDemand_29 : decode cX4_shareByDemand 29 = .ok (.i2l, 1) := by decide +kernel
theorem dX4_shareByDemand_30 : decode cX4_shareByDemand 30 = .ok (.iload_n 1, 1) := by decide +kernel
theorem dX4_shareByDemand_31 : decode cX4_shareByDemand 31 = .ok (.i2l, 1) := by decide +kernel
theorem dX4_shareByDemand_32 : decode cX4_shareByDemand 32 = .ok (.lmul, 1) := by decide +kernel
theorem dX4_shareByDemand_33 : decode cX4_shareByDemand 33 = .ok (.iload_n 2, 1) := by decide +kernel
theorem dX4_shareByDemand_34 : decode cX4_shareByDemand 34 = .ok (.i2l, 1) := by decide +kernel
theorem dX4_shareByDemand_35 : decode cX4_shareByDemand 35 = .ok (.ldiv, 1) := by decide +kernel
theorem dX4_shareByDemand_36 : decode cX4_shareByDemand 36 = .ok (.lstore 5, 2) := by decide +kernel
theorem dX4_shareByDemand_38 : decode cX4_shareByDemand 38 = .ok (.iload_n 3, 1) := by decide +kernel
theorem dX4_shareByDemand_39 : decode cX4_shareByDemand 39 = .ok (.aload_n 0, 1) := by decide +kernel
theorem dX4_shareByDemand_40 : decode cX4_shareByDemand 40 = .ok (.getfield 11, 3) := by decide +kernel
theorem dX4_shareByDemand_43 : decode cX4_shareByDemand 43 = .ok (.iload 4, 2) := by decide +kernel
theorem dX4_shareByDemand_45 : decode cX4_shareByDemand 45 = .ok (.aaload, 1) := by decide +kernel
theorem dX4_shareByDemand_46 : decode cX4_shareByDemand 46 = .ok (.lload 5, 2) := by decide +kernel
theorem dX4_shareByDemand_48 : decode cX4_shareByDemand 48 = .ok (.l2i, 1) := by decide +kernel
theorem dX4_shareByDemand_49 : decode cX4_shareByDemand 49 = .ok (.invokevirtual 73, 3) := by decide +kernel
theorem dX4_shareByDemand_52 : decode cX4_shareByDemand 52 = .ok (.isub, 1) := by decide +kernel
theorem dX4_shareByDemand_53 : decode cX4_shareByDemand 53 = .ok (.istore_n 3, 1) := by decide +kernel
theorem dX4_shareByDemand_54 : decode cX4_shareByDemand 54 = .ok (.iinc 4 1, 3) := by decide +kernel
theorem dX4_shareByDemand_57 : decode cX4_shareByDemand 57 = .ok (.goto (-47), 3) := by decide +kernel
theorem dX4_shareByDemand_60 : decode cX4_shareByDemand 60 = .ok (.iconst 0, 1) := by decide +kernel
theorem dX4_shareByDemand_61 : decode cX4_shareByDemand 61 = .ok (.istore 4, 2) := by decide +kernel
theorem dX4_shareByDemand_63 : decode cX4_shareByDemand 63 = .ok (.iload 4, 2) := by decide +kernel
theorem dX4_shareByDemand_65 : decode cX4_shareByDemand 65 = .ok (.aload_n 0, 1) := by decide +kernel
theorem dX4_shareByDemand_66 : decode cX4_shareByDemand 66 = .ok (.getfield 22, 3) := by decide +kernel
theorem dX4_shareByDemand_69 : decode cX4_shareByDemand 69 = .ok (.if_icmp .ge 27, 3) := by decide +kernel
theorem dX4_shareByDemand_72 : decode cX4_shareByDemand 72 = .ok (.iload_n 3, 1) := by decide +kernel
theorem dX4_shareByDemand_73 : decode cX4_shareByDemand 73 = .ok (.ifCond .le 23, 3) := by decide +kernel
theorem dX4_shareByDemand_76 : decode cX4_shareByDemand 76 = .ok (.iload_n 3, 1) := by decide +kernel
theorem dX4_shareByDemand_77 : decode cX4_shareByDemand 77 = .ok (.aload_n 0, 1) := by decide +kernel
theorem dX4_shareByDemand_78 : decode cX4_shareByDemand 78 = .ok (.getfield 11, 3) := by decide +kernel
theorem dX4_shareByDemand_81 : decode cX4_shareByDemand 81 = .ok (.iload 4, 2) := by decide +kernel
theorem dX4_shareByDemand_83 : decode cX4_shareByDemand 83 = .ok (.aaload, 1) := by decide +kernel
theorem dX4_shareByDemand_84 : decode cX4_shareByDemand 84 = .ok (.iconst 1, 1) := by decide +kernel
theorem dX4_shareByDemand_85 : decode cX4_shareByDemand 85 = .ok (.invokevirtual 73, 3) := by decide +kernel
theorem dX4_shareByDemand_88 : decode cX4_shareByDemand 88 = .ok (.isub, 1) := by decide +kernel
theorem dX4_shareByDemand_89 : decode cX4_shareByDemand 89 = .ok (.istore_n 3, 1) := by decide +kernel
theorem dX4_shareByDemand_90 : decode cX4_shareByDemand 90 = .ok (.iinc 4 1, 3) := by decide +kernel
theorem dX4_shareByDemand_93 : decode cX4_shareByDemand 93 = .ok (.goto (-30), 3) := by decide +kernel
theorem dX4_shareByDemand_96 : decode cX4_shareByDemand 96 = .ok (.return_, 1) := by decide +kernel
theorem dX4_orderByNumber_0 : decode cX4_orderByNumber 0 = .ok (.iconst 0, 1) := by decide +kernel
theorem dX4_orderByNumber_1 : decode cX4_orderByNumber 1 = .ok (.istore_n 1, 1) := by decide +kernel
theorem dX4_orderByNumber_2 : decode cX4_orderByNumber 2 = .ok (.iload_n 1, 1) := by decide +kernel
theorem dX4_orderByNumber_3 : decode cX4_orderByNumber 3 = .ok (.aload_n 0, 1) := by decide +kernel
theorem dX4_orderByNumber_4 : decode cX4_orderByNumber 4 = .ok (.getfield 22, 3) := by decide +kernel
theorem dX4_orderByNumber_7 : decode cX4_orderByNumber 7 = .ok (.if_icmp .ge 16, 3) := by decide +kernel
theorem dX4_orderByNumber_10 : decode cX4_orderByNumber 10 = .ok (.aload_n 0, 1) := by decide +kernel
theorem dX4_orderByNumber_11 : decode cX4_orderByNumber 11 = .ok (.getfield 18, 3) := by decide +kernel
theorem dX4_orderByNumber_14 : decode cX4_orderByNumber 14 = .ok (.iload_n 1, 1) := by decide +kernel
theorem dX4_orderByNumber_15 : decode cX4_orderByNumber 15 = .ok (.iload_n 1, 1) := by decide +kernel
theorem dX4_orderByNumber_16 : decode cX4_orderByNumber 16 = .ok (.iastore, 1) := by decide +kernel
theorem dX4_orderByNumber_17 : decode cX4_orderByNumber 17 = .ok (.iinc 1 1, 3) := by decide +kernel
theorem dX4_orderByNumber_20 : decode cX4_orderByNumber 20 = .ok (.goto (-18), 3) := by decide +kernel
theorem dX4_orderByNumber_23 : decode cX4_orderByNumber 23 = .ok (.return_, 1) := by decide +kernel
theorem dX4_orderByDemand_0 : decode cX4_orderByDemand 0 = .ok (.iconst 0, 1) := by decide +kernel
theorem dX4_orderByDemand_1 : decode cX4_orderByDemand 1 = .ok (.istore_n 1, 1) := by decide +kernel
theorem dX4_orderByDemand_2 : decode cX4_orderByDemand 2 = .ok (.iload_n 1, 1) := by decide +kernel
theorem dX4_orderByDemand_3 : decode cX4_orderByDemand 3 = .ok (.aload_n 0, 1) := by decide +kernel
theorem dX4_orderByDemand_4 : decode cX4_orderByDemand 4 = .ok (.getfield 22, 3) := by decide +kernel
theorem dX4_orderByDemand_7 : decode cX4_orderByDemand 7 = .ok (.if_icmp .ge 70, 3) := by decide +kernel
theorem dX4_orderByDemand_10 : decode cX4_orderByDemand 10 = .ok (.iload_n 1, 1) := by decide +kernel
theorem dX4_orderByDemand_11 : decode cX4_orderByDemand 11 = .ok (.istore_n 2, 1) := by decide +kernel
theorem dX4_orderByDemand_12 : decode cX4_orderByDemand 12 = .ok (.iload_n 2, 1) := by decide +kernel
theorem dX4_orderByDemand_13 : decode cX4_orderByDemand 13 = .ok (.ifCond .le 51, 3) := by decide +kernel
theorem dX4_orderByDemand_16 : decode cX4_orderByDemand 16 = .ok (.aload_n 0, 1) := by decide +kernel
theorem dX4_orderByDemand_17 : decode cX4_orderByDemand 17 = .ok (.getfield 11, 3) := by decide +kernel
theorem dX4_orderByDemand_20 : decode cX4_orderByDemand 20 = .ok (.aload_n 0, 1) := by decide +kernel
theorem dX4_orderByDemand_21 : decode cX4_orderByDemand 21 = .ok (.getfield 18, 3) := by decide +kernel
theorem dX4_orderByDemand_24 : decode cX4_orderByDemand 24 = .ok (.iload_n 2, 1) := by decide +kernel
theorem dX4_orderByDemand_25 : decode cX4_orderByDemand 25 = .ok (.iconst 1, 1) := by decide +kernel
theorem dX4_orderByDemand_26 : decode cX4_orderByDemand 26 = .ok (.isub, 1) := by decide +kernel
theorem dX4_orderByDemand_27 : decode cX4_orderByDemand 27 = .ok (.iaload, 1) := by decide +kernel
theorem dX4_orderByDemand_28 : decode cX4_orderByDemand 28 = .ok (.aaload, 1) := by decide +kernel
theorem dX4_orderByDemand_29 : decode cX4_orderByDemand 29 = .ok (.getfield 33, 3) := by decide +kernel
theorem dX4_orderByDemand_32 : decode cX4_orderByDemand 32 = .ok (.aload_n 0, 1) := by decide +kernel
theorem dX4_orderByDemand_33 : decode cX4_orderByDemand 33 = .ok (.getfield 11, 3) := by decide +kernel
theorem dX4_orderByDemand_36 : decode cX4_orderByDemand 36 = .ok (.iload_n 1, 1) := by decide +kernel
theorem dX4_orderByDemand_37 : decode cX4_orderByDemand 37 = .ok (.aaload, 1) := by decide +kernel
theorem dX4_orderByDemand_38 : decode cX4_orderByDemand 38 = .ok (.getfield 33, 3) := by decide +kernel
theorem dX4_orderByDemand_41 : decode cX4_orderByDemand 41 = .ok (.if_icmp .le 23, 3) := by decide +kernel
theorem dX4_orderByDemand_44 : decode cX4_orderByDemand 44 = .ok (.aload_n 0, 1) := by decide +kernel
theorem dX4_orderByDemand_45 : decode cX4_orderByDemand 45 = .ok (.getfield 18, 3) := by decide +kernel
theorem dX4_orderByDemand_48 : decode cX4_orderByDemand 48 = .ok (.iload_n 2, 1) := by decide +kernel
theorem dX4_orderByDemand_49 : decode cX4_orderByDemand 49 = .ok (.aload_n 0, 1) := by decide +kernel
theorem dX4_orderByDemand_50 : decode cX4_orderByDemand 50 = .ok (.getfield 18, 3) := by decide +kernel
theorem dX4_orderByDemand_53 : decode cX4_orderByDemand 53 = .ok (.iload_n 2, 1) := by decide +kernel
theorem dX4_orderByDemand_54 : decode cX4_orderByDemand 54 = .ok (.iconst 1, 1) := by decide +kernel
theorem dX4_orderByDemand_55 : decode cX4_orderByDemand 55 = .ok (.isub, 1) := by decide +kernel
theorem dX4_orderByDemand_56 : decode cX4_orderByDemand 56 = .ok (.iaload, 1) := by decide +kernel
theorem dX4_orderByDemand_57 : decode cX4_orderByDemand 57 = .ok (.iastore, 1) := by decide +kernel
theorem dX4_orderByDemand_58 : decode cX4_orderByDemand 58 = .ok (.iinc 2 (-1), 3) := by decide +kernel
theorem dX4_orderByDemand_61 : decode cX4_orderByDemand 61 = .ok (.goto (-49), 3) := by decide +kernel
theorem dX4_orderByDemand_64 : decode cX4_orderByDemand 64 = .ok (.aload_n 0, 1) := by decide +kernel
theorem dX4_orderByDemand_65 : decode cX4_orderByDemand 65 = .ok (.getfield 18, 3) := by decide +kernel
theorem dX4_orderByDemand_68 : decode cX4_orderByDemand 68 = .ok (.iload_n 2, 1) := by decide +kernel
theorem dX4_orderByDemand_69 : decode cX4_orderByDemand 69 = .ok (.iload_n 1, 1) := by decide +kernel
theorem dX4_orderByDemand_70 : decode cX4_orderByDemand 70 = .ok (.iastore, 1) := by decide +kernel
theorem dX4_orderByDemand_71 : decode cX4_orderByDemand 71 = .ok (.iinc 1 1, 3) := by decide +kernel
theorem dX4_orderByDemand_74 : decode cX4_orderByDemand 74 = .ok (.goto (-72), 3) := by decide +kernel
theorem dX4_orderByDemand_77 : decode cX4_orderByDemand 77 = .ok (.return_, 1) := by decide +kernel
set_option maxRecDepth 20000 in
theorem ggX4_serveOrder_X3_give : GoodIn wsX4_serveOrder wsX3_give := goodIn_r _ [8, 9, 10, 11, 12, 13, 14, 15, 16, 7, 17, 18, 22, 23, 24, 25] (by decide +kernel) (by decide +kernel)
set_option maxRecDepth 20000 in
theorem gX4_serveOrder_X3_give : GoodIn wsX4_serveOrder (wsV RX4 73 RX3 yX3_give wsX3_give) := goodIn_app (goodIn_of _ (by decide +kernel)) ggX4_serveOrder_X3_give
theorem dX4_serveOrder_0 : decode cX4_serveOrder 0 = .ok (.iload_n 1, 1) := by decide +kernel
theorem dX4_serveOrder_1 : decode cX4_serveOrder 1 = .ok (.istore_n 2, 1) := by decide +kernel
theorem dX4_serveOrder_2 : decode cX4_serveOrder 2 = .ok (.iconst 0, 1) := by decide +kernel
theorem dX4_serveOrder_3 : decode cX4_serveOrder 3 = .ok (.istore_n 3, 1) := by decide +kernel
theorem dX4_serveOrder_4 : decode cX4_serveOrder 4 = .ok (.iload_n 3, 1) := by decide +kernel
theorem dX4_serveOrder_5 : decode cX4_serveOrder 5 = .ok (.aload_n 0, 1) := by decide +kernel
theorem dX4_serveOrder_6 : decode cX4_serveOrder 6 = .ok (.getfield 22, 3) := by decide +kernel
theorem dX4_serveOrder_9 : decode cX4_serveOrder 9 = .ok (.if_icmp .ge 27, 3) := by decide +kernel
theorem dX4_serveOrder_12 : decode cX4_serveOrder 12 = .ok (.iload_n 2, 1) := by decide +kernel
theorem dX4_serveOrder_13 : decode cX4_serveOrder 13 = .ok (.aload_n 0, 1) := by decide +kernel
theorem dX4_serveOrder_14 : decode cX4_serveOrder 14 = .ok (.getfield 11, 3) := by decide +kernel
theorem dX4_serveOrder_17 : decode cX4_serveOrder 17 = .ok (.aload_n 0, 1) := by decide +kernel
theorem dX4_serveOrder_18 : decode cX4_serveOrder 18 = .ok (.getfield 18, 3) := by decide +kernel
theorem dX4_serveOrder_21 : decode cX4_serveOrder 21 = .ok (.iload_n 3, 1) := by decide +kernel
theorem dX4_serveOrder_22 : decode cX4_serveOrder 22 = .ok (.iaload, 1) := by decide +kernel
theorem dX4_serveOrder_23 : decode cX4_serveOrder 23 = .ok (.aaload, 1) := by decide +kernel
theorem dX4_serveOrder_24 : decode cX4_serveOrder 24 = .ok (.iload_n 2, 1) := by decide +kernel
theorem dX4_serveOrder_25 : decode cX4_serveOrder 25 = .ok (.invokevirtual 73, 3) := by decide +kernel
theorem dX4_serveOrder_28 : decode cX4_serveOrder 28 = .ok (.isub, 1) := by decide +kernel
theorem dX4_serveOrder_29 : decode cX4_serveOrder 29 = .ok (.istore_n 2, 1) := by decide +kernel
theorem dX4_serveOrder_30 : decode cX4_serveOrder 30 = .ok (.iinc 3 1, 3) := by decide +kernel
theorem dX4_serveOrder_33 : decode cX4_serveOrder 33 = .ok (.goto (-29), 3) := by decide +kernel
theorem dX4_serveOrder_36 : decode cX4_serveOrder 36 = .ok (.return_, 1) := by decide +kernel
set_option maxRecDepth 20000 in
theorem ggX4_shareInRounds_X4_fullRounds : GoodIn wsX4_shareInRounds wsX4_fullRounds := goodIn_r _ [11, 1, 2, 12, 13, 14, 15, 16, 17, 18, 19, 20, 21, 22, 23, 30, 31, 32, 33, 34, 35, 36] (by decide +kernel) (by decide +kernel)
set_option maxRecDepth 20000 in
theorem gX4_shareInRounds_X4_fullRounds : GoodIn wsX4_shareInRounds (wsV RX4 77 RX4 yX4_fullRounds wsX4_fullRounds) := goodIn_app (goodIn_of _ (by decide +kernel)) ggX4_shareInRounds_X4_fullRounds
set_option maxRecDepth 20000 in
theorem ggX4_shareInRounds_X3_portion : GoodIn wsX4_shareInRounds wsX3_portion := goodIn_r _ [22, 23, 33, 34, 35, 36] (by decide +kernel) (by decide +kernel)
set_option maxRecDepth 20000 in
theorem gX4_shareInRounds_X3_portion : GoodIn wsX4_shareInRounds (wsV RX4 80 RX3 yX3_portion wsX3_portion) := goodIn_app (goodIn_of _ (by decide +kernel)) ggX4_shareInRounds_X3_portion
set_option maxRecDepth 20000 in
theorem ggX4_shareInRounds_X3_give : GoodIn wsX4_shareInRounds wsX3_give := goodIn_r _ [27, 28, 4, 5, 6, 18, 29, 13, 14, 15, 16, 17, 33, 34, 35, 36] (by decide +kernel) (by decide +kernel)
set_option maxRecDepth 20000 in
theorem gX4_shareInRounds_X3_give : GoodIn wsX4_shareInRounds (wsV RX4 73 RX3 yX3_give wsX3_give) := goodIn_app (goodIn_of _ (by decide +kernel)) ggX4_shareInRounds_X3_give
theorem dX4_shareInRounds_0 : decode cX4_shareInRounds 0 = .ok (.iload_n 1, 1) := by decide +kernel
theorem dX4_shareInRounds_1 : decode cX4_shareInRounds 1 = .ok (.istore_n 2, 1) := by decide +kernel
theorem dX4_shareInRounds_2 : decode cX4_shareInRounds 2 = .ok (.iconst 0, 1) := by decide +kernel
theorem dX4_shareInRounds_3 : decode cX4_shareInRounds 3 = .ok (.istore_n 3, 1) := by decide +kernel
theorem dX4_shareInRounds_4 : decode cX4_shareInRounds 4 = .ok (.iload_n 3, 1) := by decide +kernel
theorem dX4_shareInRounds_5 : decode cX4_shareInRounds 5 = .ok (.aload_n 0, 1) := by decide +kernel
theorem dX4_shareInRounds_6 : decode cX4_shareInRounds 6 = .ok (.getfield 22, 3) := by decide +kernel
theorem dX4_shareInRounds_9 : decode cX4_shareInRounds 9 = .ok (.if_icmp .gt 109, 3) := by decide +kernel
theorem dX4_shareInRounds_12 : decode cX4_shareInRounds 12 = .ok (.iload_n 2, 1) := by decide +kernel
theorem dX4_shareInRounds_13 : decode cX4_shareInRounds 13 = .ok (.ifCond .le 105, 3) := by decide +kernel
theorem dX4_shareInRounds_16 : decode cX4_shareInRounds 16 = .ok (.aload_n 0, 1) := by decide +kernel
theorem dX4_shareInRounds_17 : decode cX4_shareInRounds 17 = .ok (.iload_n 2, 1) := by decide +kernel
theorem dX4_shareInRounds_18 : decode cX4_shareInRounds 18 = .ok (.invokevirtual 77, 3) := by decide +kernel
theorem dX4_shareInRounds_21 : decode cX4_shareInRounds 21 = .ok (.istore 4, 2) := by decide +kernel
theorem dX4_shareInRounds_23 : decode cX4_shareInRounds 23 = .ok (.iconst 0, 1) := by decide +kernel
theorem dX4_shareInRounds_24 : decode cX4_shareInRounds 24 = .ok (.istore 5, 2) := by decide +kernel
theorem dX4_shareInRounds_26 : decode cX4_shareInRounds 26 = .ok (.iload 5, 2) := by decide +kernel
theorem dX4_shareInRounds_28 : decode cX4_shareInRounds 28 = .ok (.aload_n 0, 1) := by decide +kernel
theorem dX4_shareInRounds_29 : decode cX4_shareInRounds 29 = .ok (.getfield 22, 3) := by decide +kernel
theorem dX4_shareInRounds_32 : decode cX4_shareInRounds 32 = .ok (.if_icmp .ge 35, 3) := by decide +kernel
theorem dX4_shareInRounds_35 : decode cX4_shareInRounds 35 = .ok (.iload_n 2, 1) := by decide +kernel
theorem dX4_shareInRounds_36 : decode cX4_shareInRounds 36 = .ok (.aload_n 0, 1) := by decide +kernel
theorem dX4_shareInRounds_37 : decode cX4_shareInRounds 37 = .ok (.getfield 11, 3) := by decide +kernel
theorem dX4_shareInRounds_40 : decode cX4_shareInRounds 40 = .ok (.iload 5, 2) := by decide +kernel
theorem dX4_shareInRounds_42 : decode cX4_shareInRounds 42 = .ok (.aaload, 1) := by decide +kernel
theorem dX4_shareInRounds_43 : decode cX4_shareInRounds 43 = .ok (.iload 4, 2) := by decide +kernel
theorem dX4_shareInRounds_45 : decode cX4_shareInRounds 45 = .ok (.aload_n 0, 1) := by decide +kernel
theorem dX4_shareInRounds_46 : decode cX4_shareInRounds 46 = .ok (.getfield 11, 3) := by decide +kernel
theorem dX4_shareInRounds_49 : decode cX4_shareInRounds 49 = .ok (.iload 5, 2) := by decide +kernel
theorem dX4_shareInRounds_51 : decode cX4_shareInRounds 51 = .ok (.aaload, 1) := by decide +kernel
theorem dX4_shareInRounds_52 : decode cX4_shareInRounds 52 = .ok (.invokevirtual 80, 3) := by decide +kernel
theorem dX4_shareInRounds_55 : decode cX4_shareInRounds 55 = .ok (.imul, 1) := by decide +kernel
theorem dX4_shareInRounds_56 : decode cX4_shareInRounds 56 = .ok (.invokevirtual 73, 3) := by decide +kernel
theorem dX4_shareInRounds_59 : decode cX4_shareInRounds 59 = .ok (.isub, 1) := by decide +kernel
theorem dX4_shareInRounds_60 : decode cX4_shareInRounds 60 = .ok (.istore_n 2, 1) := by decide +kernel
theorem dX4_shareInRounds_61 : decode cX4_shareInRounds 61 = .ok (.iinc 5 1, 3) := by decide +kernel
theorem dX4_shareInRounds_64 : decode cX4_shareInRounds 64 = .ok (.goto (-38), 3) := by decide +kernel
theorem dX4_shareInRounds_67 : decode cX4_shareInRounds 67 = .ok (.iconst 0, 1) := by decide +kernel
theorem dX4_shareInRounds_68 : decode cX4_shareInRounds 68 = .ok (.istore 5, 2) := by decide +kernel
theorem dX4_shareInRounds_70 : decode cX4_shareInRounds 70 = .ok (.iload 5, 2) := by decide +kernel
theorem dX4_shareInRounds_72 : decode cX4_shareInRounds 72 = .ok (.aload_n 0, 1) := by decide +kernel
theorem dX4_shareInRounds_73 : decode cX4_shareInRounds 73 = .ok (.getfield 22, 3) := by decide +kernel
theorem dX4_shareInRounds_76 : decode cX4_shareInRounds 76 = .ok (.if_icmp .ge 36, 3) := by decide +kernel
theorem dX4_shareInRounds_79 : decode cX4_shareInRounds 79 = .ok (.iload_n 2, 1) := by decide +kernel
theorem dX4_shareInRounds_80 : decode cX4_shareInRounds 80 = .ok (.aload_n 0, 1) := by decide +kernel
theorem dX4_shareInRounds_81 : decode cX4_shareInRounds 81 = .ok (.getfield 11, 3) := by decide +kernel
theorem dX4_shareInRounds_84 : decode cX4_shareInRounds 84 = .ok (.iload 5, 2) := by decide +kernel
theorem dX4_shareInRounds_86 : decode cX4_shareInRounds 86 = .ok (.aaload, 1) := by decide +kernel
theorem dX4_shareInRounds_87 : decode cX4_shareInRounds 87 = .ok (.iload_n 2, 1) := by decide +kernel
theorem dX4_shareInRounds_88 : decode cX4_shareInRounds 88 = .ok (.aload_n 0, 1) := by decide +kernel
theorem dX4_shareInRounds_89 : decode cX4_shareInRounds 89 = .ok (.getfield 11, 3) := by decide +kernel
theorem dX4_shareInRounds_92 : decode cX4_shareInRounds 92 = .ok (.iload 5, 2) := by decide +kernel
theorem dX4_shareInRounds_94 : decode cX4_shareInRounds 94 = .ok (.aaload, 1) := by decide +kernel
theorem dX4_shareInRounds_95 : decode cX4_shareInRounds 95 = .ok (.invokevirtual 80, 3) := by decide +kernel
theorem dX4_shareInRounds_98 : decode cX4_shareInRounds 98 = .ok (.invokestatic 83, 3) := by decide +kernel
theorem dX4_shareInRounds_101 : decode cX4_shareInRounds 101 = .ok (.invokevirtual 73, 3) := by decide +kernel
theorem dX4_shareInRounds_104 : decode cX4_shareInRounds 104 = .ok (.isub, 1) := by decide +kernel
theorem dX4_shareInRounds_105 : decode cX4_shareInRounds 105 = .ok (.istore_n 2, 1) := by decide +kernel
theorem dX4_shareInRounds_106 : decode cX4_shareInRounds 106 = .ok (.iinc 5 1, 3) := by decide +kernel
theorem dX4_shareInRounds_109 : decode cX4_shareInRounds 109 = .ok (.goto (-39), 3) := by decide +kernel
theorem dX4_shareInRounds_112 : decode cX4_shareInRounds 112 = .ok (.iinc 3 1, 3) := by decide +kernel
theorem dX4_shareInRounds_115 : decode cX4_shareInRounds 115 = .ok (.goto (-111), 3) := by decide +kernel
theorem dX4_shareInRounds_118 : decode cX4_shareInRounds 118 = .ok (.return_, 1) := by decide +kernel
set_option maxRecDepth 20000 in
theorem ggX4_fullRounds_X3_lack : GoodIn wsX4_fullRounds wsX3_lack := goodIn_r _ [7, 8, 9, 18, 19, 20, 21] (by decide +kernel) (by decide +kernel)
set_option maxRecDepth 20000 in
theorem gX4_fullRounds_X3_lack : GoodIn wsX4_fullRounds (wsV RX4 86 RX3 yX3_lack wsX3_lack) := goodIn_app (goodIn_of _ (by decide +kernel)) ggX4_fullRounds_X3_lack
set_option maxRecDepth 20000 in
theorem ggX4_fullRounds_X3_portion : GoodIn wsX4_fullRounds wsX3_portion := goodIn_r _ [13, 14, 18, 19, 20, 21] (by decide +kernel) (by decide +kernel)
set_option maxRecDepth 20000 in
theorem gX4_fullRounds_X3_portion : GoodIn wsX4_fullRounds (wsV RX4 80 RX3 yX3_portion wsX3_portion) := goodIn_app (goodIn_of _ (by decide +kernel)) ggX4_fullRounds_X3_portion
theorem dX4_fullRounds_0 : decode cX4_fullRounds 0 = .ok (.iconst 0, 1) := by decide +kernel
theorem dX4_fullRounds_1 : decode cX4_fullRounds 1 = .ok (.istore_n 2, 1) := by decide +kernel
theorem dX4_fullRounds_2 : decode cX4_fullRounds 2 = .ok (.iconst 0, 1) := by decide +kernel
theorem dX4_fullRounds_3 : decode cX4_fullRounds 3 = .ok (.istore_n 3, 1) := by decide +kernel
theorem dX4_fullRounds_4 : decode cX4_fullRounds 4 = .ok (.iload_n 3, 1) := by decide +kernel
theorem dX4_fullRounds_5 : decode cX4_fullRounds 5 = .ok (.aload_n 0, 1) := by decide +kernel
theorem dX4_fullRounds_6 : decode cX4_fullRounds 6 = .ok (.getfield 22, 3) := by decide +kernel
theorem dX4_fullRounds_9 : decode cX4_fullRounds 9 = .ok (.if_icmp .ge 33, 3) := by decide +kernel
theorem dX4_fullRounds_12 : decode cX4_fullRounds 12 = .ok (.aload_n 0, 1) := by decide +kernel
theorem dX4_fullRounds_13 : decode cX4_fullRounds 13 = .ok (.getfield 11, 3) := by decide +kernel
theorem dX4_fullRounds_16 : decode cX4_fullRounds 16 = .ok (.iload_n 3, 1) := by decide +kernel
theorem dX4_fullRounds_17 : decode cX4_fullRounds 17 = .ok (.aaload, 1) := by decide +kernel
theorem dX4_fullRounds_18 : decode cX4_fullRounds 18 = .ok (.invokevirtual 86, 3) := by decide +kernel
theorem dX4_fullRounds_21 : decode cX4_fullRounds 21 = .ok (.ifCond .le 15, 3) := by decide +kernel
theorem dX4_fullRounds_24 : decode cX4_fullRounds 24 = .ok (.iload_n 2, 1) := by decide +kernel
theorem dX4_fullRounds_25 : decode cX4_fullRounds 25 = .ok (.aload_n 0, 1) := by decide +kernel
theorem dX4_fullRounds_26 : decode cX4_fullRounds 26 = .ok (.getfield 11, 3) := by decide +kernel
theorem dX4_fullRounds_29 : decode cX4_fullRounds 29 = .ok (.iload_n 3, 1) := by decide +kernel
theorem dX4_fullRounds_30 : decode cX4_fullRounds 30 = .ok (.aaload, 1) := by decide +kernel
theorem dX4_fullRounds_31 : decode cX4_fullRounds 31 = .ok (.invokevirtual 80, 3) := by decide +kernel
theorem dX4_fullRounds_34 : decode cX4_fullRounds 34 = .ok (.iadd, 1) := by decide +kernel
theorem dX4_fullRounds_35 : decode cX4_fullRounds 35 = .ok (.istore_n 2, 1) := by decide +kernel
theorem dX4_fullRounds_36 : decode cX4_fullRounds 36 = .ok (.iinc 3 1, 3) := by decide +kernel
theorem dX4_fullRounds_39 : decode cX4_fullRounds 39 = .ok (.goto (-35), 3) := by decide +kernel
theorem dX4_fullRounds_42 : decode cX4_fullRounds 42 = .ok (.iload_n 2, 1) := by decide +kernel
theorem dX4_fullRounds_43 : decode cX4_fullRounds 43 = .ok (.ifCond .le 9, 3) := by decide +kernel
theorem dX4_fullRounds_46 : decode cX4_fullRounds 46 = .ok (.iload_n 1, 1) := by decide +kernel
theorem dX4_fullRounds_47 : decode cX4_fullRounds 47 = .ok (.iload_n 2, 1) := by decide +kernel
theorem dX4_fullRounds_48 : decode cX4_fullRounds 48 = .ok (.idiv, 1) := by decide +kernel
theorem dX4_fullRounds_49 : decode cX4_fullRounds 49 = .ok (.goto 4, 3) := by decide +kernel
theorem dX4_fullRounds_52 : decode cX4_fullRounds 52 = .ok (.iconst 0, 1) := by decide +kernel
theorem dX4_fullRounds_53 : decode cX4_fullRounds 53 = .ok (.ireturn, 1) := by decide +kernel
