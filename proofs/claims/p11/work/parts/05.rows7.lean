set_option maxRecDepth 20000 in
theorem ggX7_init_X2_init : GoodIn wsX7_init wsX2_init := goodIn_r _ [33, 34, 2, 3, 35, 36, 85] rfl (by decide +kernel)
set_option maxRecDepth 20000 in
theorem gX7_init_X2_init_n17 : GoodIn wsX7_init (wsX2_init) := ggX7_init_X2_init
set_option maxRecDepth 20000 in
theorem ggX7_init_X4_init : GoodIn wsX7_init wsX4_init := goodIn_r _ [39, 40, 2, 3, 22, 41, 42, 43, 44, 45, 46, 47, 48, 86, 87, 88] rfl (by decide +kernel)
set_option maxRecDepth 20000 in
theorem gX7_init_X4_init : GoodIn wsX7_init (wsX4_init) := ggX7_init_X4_init
set_option maxRecDepth 20000 in
theorem ggX7_init_X6_init : GoodIn wsX7_init wsX6_init := goodIn_r _ [50, 51, 2, 3, 52, 53, 89, 90] rfl (by decide +kernel)
set_option maxRecDepth 20000 in
theorem gX7_init_X6_init_n31 : GoodIn wsX7_init (wsX6_init) := ggX7_init_X6_init
set_option maxRecDepth 20000 in
theorem ggX7_init_X5_init : GoodIn wsX7_init wsX5_init := goodIn_r _ [56, 57, 2, 3, 22, 58, 59, 60, 91, 92, 93, 94, 95] rfl (by decide +kernel)
set_option maxRecDepth 20000 in
theorem gX7_init_X5_init : GoodIn wsX7_init (wsX5_init) := ggX7_init_X5_init
set_option maxRecDepth 20000 in
theorem ggX7_init_X1_init : GoodIn wsX7_init wsX1_init := goodIn_r _ [62, 63, 2, 3, 22, 64, 65, 66, 67, 96, 97, 98, 99, 100] rfl (by decide +kernel)
set_option maxRecDepth 20000 in
theorem gX7_init_X1_init_n51 : GoodIn wsX7_init (wsX1_init) := ggX7_init_X1_init
set_option maxRecDepth 20000 in
theorem ggX7_init_X0_init : GoodIn wsX7_init wsX0_init := goodIn_r _ [69, 70, 2, 3, 71, 72, 22, 73, 74, 101, 102, 103, 104, 105] rfl (by decide +kernel)
set_option maxRecDepth 20000 in
theorem gX7_init_X0_init_n58 : GoodIn wsX7_init (wsX0_init) := ggX7_init_X0_init
theorem dX7_init_0 : decode cX7_init 0 = .ok (.aload_n 0, 1) := by decide +kernel
theorem dX7_init_1 : decode cX7_init 1 = .ok (.invokespecial 3, 3) := by decide +kernel
theorem dX7_init_4 : decode cX7_init 4 = .ok (.aload_n 0, 1) := by decide +kernel
theorem dX7_init_5 : decode cX7_init 5 = .ok (.bipush 60, 2) := by decide +kernel
theorem dX7_init_7 : decode cX7_init 7 = .ok (.anewarray 9, 3) := by decide +kernel
theorem dX7_init_10 : decode cX7_init 10 = .ok (.putfield 11, 3) := by decide +kernel
theorem dX7_init_13 : decode cX7_init 13 = .ok (.aload_n 0, 1) := by decide +kernel
theorem dX7_init_14 : decode cX7_init 14 = .ok (.new 15, 3) := by decide +kernel
theorem dX7_init_17 : decode cX7_init 17 = .ok (.dup, 1) := by decide +kernel
theorem dX7_init_18 : decode cX7_init 18 = .ok (.invokespecial 17, 3) := by decide +kernel
theorem dX7_init_21 : decode cX7_init 21 = .ok (.putfield 18, 3) := by decide +kernel
theorem dX7_init_24 : decode cX7_init 24 = .ok (.aload_n 0, 1) := by decide +kernel
theorem dX7_init_25 : decode cX7_init 25 = .ok (.new 22, 3) := by decide +kernel
theorem dX7_init_28 : decode cX7_init 28 = .ok (.dup, 1) := by decide +kernel
theorem dX7_init_29 : decode cX7_init 29 = .ok (.invokespecial 24, 3) := by decide +kernel
theorem dX7_init_32 : decode cX7_init 32 = .ok (.putfield 25, 3) := by decide +kernel
theorem dX7_init_35 : decode cX7_init 35 = .ok (.aload_n 0, 1) := by decide +kernel
theorem dX7_init_36 : decode cX7_init 36 = .ok (.new 29, 3) := by decide +kernel
theorem dX7_init_39 : decode cX7_init 39 = .ok (.dup, 1) := by decide +kernel
theorem dX7_init_40 : decode cX7_init 40 = .ok (.invokespecial 31, 3) := by decide +kernel
theorem dX7_init_43 : decode cX7_init 43 = .ok (.putfield 32, 3) := by decide +kernel
theorem dX7_init_46 : decode cX7_init 46 = .ok (.aload_n 0, 1) := by decide +kernel
theorem dX7_init_47 : decode cX7_init 47 = .ok (.new 36, 3) := by decide +kernel
theorem dX7_init_50 : decode cX7_init 50 = .ok (.dup, 1) := by decide +kernel
theorem dX7_init_51 : decode cX7_init 51 = .ok (.aload_n 0, 1) := by decide +kernel
theorem dX7_init_52 : decode cX7_init 52 = .ok (.getfield 32, 3) := by decide +kernel
theorem dX7_init_55 : decode cX7_init 55 = .ok (.invokespecial 38, 3) := by decide +kernel
theorem dX7_init_58 : decode cX7_init 58 = .ok (.putfield 41, 3) := by decide +kernel
theorem dX7_init_61 : decode cX7_init 61 = .ok (.aload_n 0, 1) := by decide +kernel
theorem dX7_init_62 : decode cX7_init 62 = .ok (.iconst 5, 1) := by decide +kernel
theorem dX7_init_63 : decode cX7_init 63 = .ok (.newarray .int, 2) := by decide +kernel
theorem dX7_init_65 : decode cX7_init 65 = .ok (.putfield 45, 3) := by decide +kernel
theorem dX7_init_68 : decode cX7_init 68 = .ok (.aload_n 0, 1) := by decide +kernel
theorem dX7_init_69 : decode cX7_init 69 = .ok (.new 49, 3) := by decide +kernel
theorem dX7_init_72 : decode cX7_init 72 = .ok (.dup, 1) := by decide +kernel
theorem dX7_init_73 : decode cX7_init 73 = .ok (.invokespecial 51, 3) := by decide +kernel
theorem dX7_init_76 : decode cX7_init 76 = .ok (.putfield 52, 3) := by decide +kernel
theorem dX7_init_79 : decode cX7_init 79 = .ok (.aload_n 0, 1) := by decide +kernel
theorem dX7_init_80 : decode cX7_init 80 = .ok (.new 56, 3) := by decide +kernel
theorem dX7_init_83 : decode cX7_init 83 = .ok (.dup, 1) := by decide +kernel
theorem dX7_init_84 : decode cX7_init 84 = .ok (.invokespecial 58, 3) := by decide +kernel
theorem dX7_init_87 : decode cX7_init 87 = .ok (.putfield 59, 3) := by decide +kernel
theorem dX7_init_90 : decode cX7_init 90 = .ok (.return_, 1) := by decide +kernel
set_option maxRecDepth 20000 in
theorem ggX7_feed_X6_hasSpaceFor : GoodIn wsX7_feed wsX6_hasSpaceFor := goodIn_r _ [6, 7, 8, 27, 28] rfl (by decide +kernel)
set_option maxRecDepth 20000 in
theorem gX7_feed_X6_hasSpaceFor : GoodIn wsX7_feed (wsV RX7 63 RX6 yX6_hasSpaceFor wsX6_hasSpaceFor) := goodIn_app (goodIn_of _ (by decide +kernel)) ggX7_feed_X6_hasSpaceFor
set_option maxRecDepth 20000 in
theorem ggX7_feed_X6_append : GoodIn wsX7_feed wsX6_append := goodIn_r _ [12, 7, 8, 27, 28] rfl (by decide +kernel)
set_option maxRecDepth 20000 in
theorem gX7_feed_X6_append : GoodIn wsX7_feed (wsV RX7 67 RX6 yX6_append wsX6_append) := goodIn_app (goodIn_of _ (by decide +kernel)) ggX7_feed_X6_append
set_option maxRecDepth 20000 in
theorem ggX7_feed_X6_size : GoodIn wsX7_feed wsX6_size := goodIn_r _ [16, 7, 27, 28] rfl (by decide +kernel)
set_option maxRecDepth 20000 in
theorem gX7_feed_X6_size : GoodIn wsX7_feed (wsV RX7 71 RX6 yX6_size wsX6_size) := goodIn_app (goodIn_of _ (by decide +kernel)) ggX7_feed_X6_size
theorem dX7_feed_0 : decode cX7_feed 0 = .ok (.aload_n 0, 1) := by decide +kernel
theorem dX7_feed_1 : decode cX7_feed 1 = .ok (.getfield 32, 3) := by decide +kernel
theorem dX7_feed_4 : decode cX7_feed 4 = .ok (.bipush 20, 2) := by decide +kernel
theorem dX7_feed_6 : decode cX7_feed 6 = .ok (.invokevirtual 63, 3) := by decide +kernel
theorem dX7_feed_9 : decode cX7_feed 9 = .ok (.ifCond .ne 5, 3) := by decide +kernel
theorem dX7_feed_12 : decode cX7_feed 12 = .ok (.iconst (-1), 1) := by decide +kernel
theorem dX7_feed_13 : decode cX7_feed 13 = .ok (.ireturn, 1) := by decide +kernel
theorem dX7_feed_14 : decode cX7_feed 14 = .ok (.aload_n 0, 1) := by decide +kernel
theorem dX7_feed_15 : decode cX7_feed 15 = .ok (.getfield 32, 3) := by decide +kernel
theorem dX7_feed_18 : decode cX7_feed 18 = .ok (.iload_n 1, 1) := by decide +kernel
theorem dX7_feed_19 : decode cX7_feed 19 = .ok (.invokevirtual 67, 3) := by decide +kernel
theorem dX7_feed_22 : decode cX7_feed 22 = .ok (.aload_n 0, 1) := by decide +kernel
theorem dX7_feed_23 : decode cX7_feed 23 = .ok (.getfield 32, 3) := by decide +kernel
theorem dX7_feed_26 : decode cX7_feed 26 = .ok (.iload_n 2, 1) := by decide +kernel
theorem dX7_feed_27 : decode cX7_feed 27 = .ok (.invokevirtual 67, 3) := by decide +kernel
theorem dX7_feed_30 : decode cX7_feed 30 = .ok (.aload_n 0, 1) := by decide +kernel
theorem dX7_feed_31 : decode cX7_feed 31 = .ok (.getfield 32, 3) := by decide +kernel
theorem dX7_feed_34 : decode cX7_feed 34 = .ok (.iload_n 3, 1) := by decide +kernel
theorem dX7_feed_35 : decode cX7_feed 35 = .ok (.invokevirtual 67, 3) := by decide +kernel
theorem dX7_feed_38 : decode cX7_feed 38 = .ok (.aload_n 0, 1) := by decide +kernel
theorem dX7_feed_39 : decode cX7_feed 39 = .ok (.getfield 32, 3) := by decide +kernel
theorem dX7_feed_42 : decode cX7_feed 42 = .ok (.iload 4, 2) := by decide +kernel
theorem dX7_feed_44 : decode cX7_feed 44 = .ok (.invokevirtual 67, 3) := by decide +kernel
theorem dX7_feed_47 : decode cX7_feed 47 = .ok (.aload_n 0, 1) := by decide +kernel
theorem dX7_feed_48 : decode cX7_feed 48 = .ok (.getfield 32, 3) := by decide +kernel
theorem dX7_feed_51 : decode cX7_feed 51 = .ok (.iload 5, 2) := by decide +kernel
theorem dX7_feed_53 : decode cX7_feed 53 = .ok (.invokevirtual 67, 3) := by decide +kernel
theorem dX7_feed_56 : decode cX7_feed 56 = .ok (.aload_n 0, 1) := by decide +kernel
theorem dX7_feed_57 : decode cX7_feed 57 = .ok (.getfield 32, 3) := by decide +kernel
theorem dX7_feed_60 : decode cX7_feed 60 = .ok (.invokevirtual 71, 3) := by decide +kernel
theorem dX7_feed_63 : decode cX7_feed 63 = .ok (.ireturn, 1) := by decide +kernel
set_option maxRecDepth 20000 in
theorem ggX7_end_X6_cutTo : GoodIn wsX7_end wsX6_cutTo := goodIn_r _ [6, 7, 18, 19] rfl (by decide +kernel)
set_option maxRecDepth 20000 in
theorem gX7_end_X6_cutTo : GoodIn wsX7_end (wsV RX7 75 RX6 yX6_cutTo wsX6_cutTo) := goodIn_app (goodIn_of _ (by decide +kernel)) ggX7_end_X6_cutTo
theorem dX7_end_0 : decode cX7_end 0 = .ok (.aload_n 0, 1) := by decide +kernel
theorem dX7_end_1 : decode cX7_end 1 = .ok (.getfield 32, 3) := by decide +kernel
theorem dX7_end_4 : decode cX7_end 4 = .ok (.iload_n 1, 1) := by decide +kernel
theorem dX7_end_5 : decode cX7_end 5 = .ok (.invokevirtual 75, 3) := by decide +kernel
theorem dX7_end_8 : decode cX7_end 8 = .ok (.ireturn, 1) := by decide +kernel
set_option maxRecDepth 20000 in
theorem ggX7_leg_X7_needFarm : GoodIn wsX7_leg wsX7_needFarm := goodIn_ca (goodIn_r _ [14, 15, 16, 17, 18, 13, 19] rfl (by decide +kernel)) (goodIn_sub (fun _ h => List.mem_cons_of_mem _ (List.mem_append_right _ h)) (by decide +kernel))
set_option maxRecDepth 20000 in
theorem gX7_leg_X7_needFarm : GoodIn wsX7_leg (va_wsS RX7 78 yX7_needFarm wsX7_needFarm) := goodIn_app (goodIn_of _ (by decide +kernel)) ggX7_leg_X7_needFarm
set_option maxRecDepth 20000 in
theorem ggX7_leg_X7_isWithin : GoodIn wsX7_leg wsX7_isWithin := goodIn_r _ [19] rfl (by decide +kernel)
set_option maxRecDepth 20000 in
theorem gX7_leg_X7_isWithin : GoodIn wsX7_leg (va_wsS RX7 81 yX7_isWithin wsX7_isWithin) := goodIn_app (goodIn_of _ (by decide +kernel)) ggX7_leg_X7_isWithin
set_option maxRecDepth 20000 in
theorem ggX7_leg_X7_legsOfPig : GoodIn wsX7_leg wsX7_legsOfPig := goodIn_r _ [23, 6, 38, 39, 40, 41, 42, 43, 44, 45, 46, 47, 48, 49, 50, 51, 52, 53, 54, 55, 56, 57, 58, 59, 60, 61] rfl (by decide +kernel)
set_option maxRecDepth 20000 in
theorem gX7_leg_X7_legsOfPig : GoodIn wsX7_leg (wsV RX7 95 RX7 yX7_legsOfPig wsX7_legsOfPig) := goodIn_app (goodIn_of _ (by decide +kernel)) ggX7_leg_X7_legsOfPig
set_option maxRecDepth 20000 in
theorem ggX7_leg_X3_init : GoodIn wsX7_leg wsX3_init := goodIn_r _ [26, 27, 28, 29, 30, 31, 32, 33, 34, 35, 36, 37, 48, 49, 50, 51, 52, 53, 54, 55, 56, 57, 58, 59, 60, 61] rfl (by decide +kernel)
set_option maxRecDepth 20000 in
theorem gX7_leg_X3_init : GoodIn wsX7_leg (wsX3_init) := ggX7_leg_X3_init
theorem dX7_leg_0 : decode cX7_leg 0 = .ok (.iload_n 1, 1) := by decide +kernel
theorem dX7_leg_1 : decode cX7_leg 1 = .ok (.invokestatic 78, 3) := by decide +kernel
theorem dX7_leg_4 : decode cX7_leg 4 = .ok (.iload_n 2, 1) := by decide +kernel
theorem dX7_leg_5 : decode cX7_leg 5 = .ok (.iconst 0, 1) := by decide +kernel
theorem dX7_leg_6 : decode cX7_leg 6 = .ok (.sipush 9999, 3) := by decide +kernel
theorem dX7_leg_9 : decode cX7_leg 9 = .ok (.invokestatic 81, 3) := by decide +kernel
theorem dX7_leg_12 : decode cX7_leg 12 = .ok (.ifCond .eq 16, 3) := by decide +kernel
theorem dX7_leg_15 : decode cX7_leg 15 = .ok (.iload_n 3, 1) := by decide +kernel
theorem dX7_leg_16 : decode cX7_leg 16 = .ok (.sipush 5000, 3) := by decide +kernel
theorem dX7_leg_19 : decode cX7_leg 19 = .ok (.sipush 15000, 3) := by decide +kernel
theorem dX7_leg_22 : decode cX7_leg 22 = .ok (.invokestatic 81, 3) := by decide +kernel
theorem dX7_leg_25 : decode cX7_leg 25 = .ok (.ifCond .ne 11, 3) := by decide +kernel
theorem dX7_leg_28 : decode cX7_leg 28 = .ok (.new 85, 3) := by decide +kernel
theorem dX7_leg_31 : decode cX7_leg 31 = .ok (.dup, 1) := by decide +kernel
theorem dX7_leg_32 : decode cX7_leg 32 = .ok (.invokespecial 87, 3) := by decide +kernel
theorem dX7_leg_35 : decode cX7_leg 35 = .ok (.athrow, 1) := by decide +kernel
theorem dX7_leg_36 : decode cX7_leg 36 = .ok (.aload_n 0, 1) := by decide +kernel
theorem dX7_leg_37 : decode cX7_leg 37 = .ok (.getfield 88, 3) := by decide +kernel
theorem dX7_leg_40 : decode cX7_leg 40 = .ok (.istore 4, 2) := by decide +kernel
theorem dX7_leg_42 : decode cX7_leg 42 = .ok (.iload 4, 2) := by decide +kernel
theorem dX7_leg_44 : decode cX7_leg 44 = .ok (.ifCond .lt 13, 3) := by decide +kernel
theorem dX7_leg_47 : decode cX7_leg 47 = .ok (.iload 4, 2) := by decide +kernel
theorem dX7_leg_49 : decode cX7_leg 49 = .ok (.aload_n 0, 1) := by decide +kernel
theorem dX7_leg_50 : decode cX7_leg 50 = .ok (.getfield 11, 3) := by decide +kernel
theorem dX7_leg_53 : decode cX7_leg 53 = .ok (.arraylength, 1) := by decide +kernel
theorem dX7_leg_54 : decode cX7_leg 54 = .ok (.if_icmp .lt 11, 3) := by decide +kernel
theorem dX7_leg_57 : decode cX7_leg 57 = .ok (.new 92, 3) := by decide +kernel
theorem dX7_leg_60 : decode cX7_leg 60 = .ok (.dup, 1) := by decide +kernel
theorem dX7_leg_61 : decode cX7_leg 61 = .ok (.invokespecial 94, 3) := by decide +kernel
theorem dX7_leg_64 : decode cX7_leg 64 = .ok (.athrow, 1) := by decide +kernel
theorem dX7_leg_65 : decode cX7_leg 65 = .ok (.aload_n 0, 1) := by decide +kernel
theorem dX7_leg_66 : decode cX7_leg 66 = .ok (.iload_n 2, 1) := by decide +kernel
theorem dX7_leg_67 : decode cX7_leg 67 = .ok (.invokevirtual 95, 3) := by decide +kernel
theorem dX7_leg_70 : decode cX7_leg 70 = .ok (.iconst 2, 1) := by decide +kernel
theorem dX7_leg_71 : decode cX7_leg 71 = .ok (.if_icmp .lt 5, 3) := by decide +kernel
theorem dX7_leg_74 : decode cX7_leg 74 = .ok (.iconst (-1), 1) := by decide +kernel
theorem dX7_leg_75 : decode cX7_leg 75 = .ok (.ireturn, 1) := by decide +kernel
theorem dX7_leg_76 : decode cX7_leg 76 = .ok (.aload_n 0, 1) := by decide +kernel
theorem dX7_leg_77 : decode cX7_leg 77 = .ok (.getfield 11, 3) := by decide +kernel
theorem dX7_leg_80 : decode cX7_leg 80 = .ok (.iload 4, 2) := by decide +kernel
theorem dX7_leg_82 : decode cX7_leg 82 = .ok (.new 9, 3) := by decide +kernel
theorem dX7_leg_85 : decode cX7_leg 85 = .ok (.dup, 1) := by decide +kernel
theorem dX7_leg_86 : decode cX7_leg 86 = .ok (.iload 4, 2) := by decide +kernel
theorem dX7_leg_88 : decode cX7_leg 88 = .ok (.iload_n 1, 1) := by decide +kernel
theorem dX7_leg_89 : decode cX7_leg 89 = .ok (.iload_n 2, 1) := by decide +kernel
theorem dX7_leg_90 : decode cX7_leg 90 = .ok (.iload_n 3, 1) := by decide +kernel
theorem dX7_leg_91 : decode cX7_leg 91 = .ok (.aload_n 0, 1) := by decide +kernel
theorem dX7_leg_92 : decode cX7_leg 92 = .ok (.getfield 99, 3) := by decide +kernel
theorem dX7_leg_95 : decode cX7_leg 95 = .ok (.invokespecial 102, 3) := by decide +kernel
theorem dX7_leg_98 : decode cX7_leg 98 = .ok (.aastore, 1) := by decide +kernel
theorem dX7_leg_99 : decode cX7_leg 99 = .ok (.aload_n 0, 1) := by decide +kernel
theorem dX7_leg_100 : decode cX7_leg 100 = .ok (.dup, 1) := by decide +kernel
theorem dX7_leg_101 : decode cX7_leg 101 = .ok (.getfield 88, 3) := by decide +kernel
theorem dX7_leg_104 : decode cX7_leg 104 = .ok (.iconst 1, 1) := by decide +kernel
theorem dX7_leg_105 : decode cX7_leg 105 = .ok (.iadd, 1) := by decide +kernel
theorem dX7_leg_106 : decode cX7_leg 106 = .ok (.putfield 88, 3) := by decide +kernel
theorem dX7_leg_109 : decode cX7_leg 109 = .ok (.iload 4, 2) := by decide +kernel
theorem dX7_leg_111 : decode cX7_leg 111 = .ok (.ireturn, 1) := by decide +kernel
set_option maxRecDepth 20000 in
theorem ggX7_hang_X7_needLeg : GoodIn wsX7_hang wsX7_needLeg := goodIn_ca (goodIn_r _ [6, 7, 8, 9, 44, 45, 46, 47, 48, 49, 50, 51, 52, 53] rfl (by decide +kernel)) (goodIn_sub (fun _ h => List.mem_cons_of_mem _ (List.mem_append_right _ h)) (by decide +kernel))
set_option maxRecDepth 20000 in
theorem gX7_hang_X7_needLeg : GoodIn wsX7_hang (wsV RX7 105 RX7 yX7_needLeg wsX7_needLeg) := goodIn_app (goodIn_of _ (by decide +kernel)) ggX7_hang_X7_needLeg
set_option maxRecDepth 20000 in
theorem ggX7_hang_X7_needPlace : GoodIn wsX7_hang wsX7_needPlace := goodIn_ca (goodIn_r _ [12, 7, 8, 13, 14, 5, 15] rfl (by decide +kernel)) (goodIn_sub (fun _ h => List.mem_cons_of_mem _ (List.mem_append_right _ h)) (by decide +kernel))
set_option maxRecDepth 20000 in
theorem gX7_hang_X7_needPlace : GoodIn wsX7_hang (va_wsS RX7 109 yX7_needPlace wsX7_needPlace) := goodIn_app (goodIn_of _ (by decide +kernel)) ggX7_hang_X7_needPlace
set_option maxRecDepth 20000 in
theorem ggX7_hang_X2_legAt : GoodIn wsX7_hang wsX2_legAt := goodIn_r _ [20, 21, 54] rfl (by decide +kernel)
set_option maxRecDepth 20000 in
theorem gX7_hang_X2_legAt : GoodIn wsX7_hang (wsV RX7 117 RX2 yX2_legAt wsX2_legAt) := goodIn_app (goodIn_of _ (by decide +kernel)) ggX7_hang_X2_legAt
set_option maxRecDepth 20000 in
theorem ggX7_hang_X2_takeOff : GoodIn wsX7_hang wsX2_takeOff := goodIn_r _ [25, 21, 30, 31, 32, 33, 34, 35, 36, 37, 38, 39, 40, 41, 42, 43, 54] rfl (by decide +kernel)
set_option maxRecDepth 20000 in
theorem gX7_hang_X2_takeOff : GoodIn wsX7_hang (wsV RX7 120 RX2 yX2_takeOff wsX2_takeOff) := goodIn_app (goodIn_of _ (by decide +kernel)) ggX7_hang_X2_takeOff
set_option maxRecDepth 20000 in
theorem ggX7_hang_X2_put : GoodIn wsX7_hang wsX2_put := goodIn_r _ [29, 21, 54, 30, 31, 32, 33, 34, 35, 36, 37, 38, 39, 40, 41, 42, 43] rfl (by decide +kernel)
set_option maxRecDepth 20000 in
theorem gX7_hang_X2_put : GoodIn wsX7_hang (wsV RX7 124 RX2 yX2_put wsX2_put) := goodIn_app (goodIn_of _ (by decide +kernel)) ggX7_hang_X2_put
theorem dX7_hang_0 : decode cX7_hang 0 = .ok (.aload_n 0, 1) := by decide +kernel
theorem dX7_hang_1 : decode cX7_hang 1 = .ok (.iload_n 1, 1) := by decide +kernel
theorem dX7_hang_2 : decode cX7_hang 2 = .ok (.invokevirtual 105, 3) := by decide +kernel
theorem dX7_hang_5 : decode cX7_hang 5 = .ok (.astore 4, 2) := by decide +kernel
theorem dX7_hang_7 : decode cX7_hang 7 = .ok (.iconst 0, 1) := by decide +kernel
theorem dX7_hang_8 : decode cX7_hang 8 = .ok (.iload_n 2, 1) := by decide +kernel
theorem dX7_hang_9 : decode cX7_hang 9 = .ok (.iload_n 3, 1) := by decide +kernel
theorem dX7_hang_10 : decode cX7_hang 10 = .ok (.invokestatic 109, 3) := by decide +kernel
theorem dX7_hang_13 : decode cX7_hang 13 = .ok (.istore 5, 2) := by decide +kernel
theorem dX7_hang_15 : decode cX7_hang 15 = .ok (.aload 4, 2) := by decide +kernel
theorem dX7_hang_17 : decode cX7_hang 17 = .ok (.getfield 113, 3) := by decide +kernel
theorem dX7_hang_20 : decode cX7_hang 20 = .ok (.ifCond .ne 15, 3) := by decide +kernel
theorem dX7_hang_23 : decode cX7_hang 23 = .ok (.aload_n 0, 1) := by decide +kernel
theorem dX7_hang_24 : decode cX7_hang 24 = .ok (.getfield 18, 3) := by decide +kernel
theorem dX7_hang_27 : decode cX7_hang 27 = .ok (.iload 5, 2) := by decide +kernel
theorem dX7_hang_29 : decode cX7_hang 29 = .ok (.invokevirtual 117, 3) := by decide +kernel
theorem dX7_hang_32 : decode cX7_hang 32 = .ok (.ifnull 5, 3) := by decide +kernel
theorem dX7_hang_35 : decode cX7_hang 35 = .ok (.iconst 0, 1) := by decide +kernel
theorem dX7_hang_36 : decode cX7_hang 36 = .ok (.ireturn, 1) := by decide +kernel
theorem dX7_hang_37 : decode cX7_hang 37 = .ok (.aload_n 0, 1) := by decide +kernel
theorem dX7_hang_38 : decode cX7_hang 38 = .ok (.getfield 18, 3) := by decide +kernel
theorem dX7_hang_41 : decode cX7_hang 41 = .ok (.aload 4, 2) := by decide +kernel
theorem dX7_hang_43 : decode cX7_hang 43 = .ok (.invokevirtual 120, 3) := by decide +kernel
theorem dX7_hang_46 : decode cX7_hang 46 = .ok (.aload_n 0, 1) := by decide +kernel
theorem dX7_hang_47 : decode cX7_hang 47 = .ok (.getfield 18, 3) := by decide +kernel
theorem dX7_hang_50 : decode cX7_hang 50 = .ok (.aload 4, 2) := by decide +kernel
theorem dX7_hang_52 : decode cX7_hang 52 = .ok (.iload 5, 2) := by decide +kernel
theorem dX7_hang_54 : decode cX7_hang 54 = .ok (.invokevirtual 124, 3) := by decide +kernel
theorem dX7_hang_57 : decode cX7_hang 57 = .ok (.iconst 1, 1) := by decide +kernel
theorem dX7_hang_58 : decode cX7_hang 58 = .ok (.ireturn, 1) := by decide +kernel
set_option maxRecDepth 20000 in
theorem ggX7_take_X7_needLeg : GoodIn wsX7_take wsX7_needLeg := goodIn_ca (goodIn_r _ [6, 7, 8, 9, 22, 23, 24, 25, 26, 27, 28, 29, 30, 31] rfl (by decide +kernel)) (goodIn_sub (fun _ h => List.mem_cons_of_mem _ (List.mem_append_right _ h)) (by decide +kernel))
set_option maxRecDepth 20000 in
theorem gX7_take_X7_needLeg : GoodIn wsX7_take (wsV RX7 105 RX7 yX7_needLeg wsX7_needLeg) := goodIn_app (goodIn_of _ (by decide +kernel)) ggX7_take_X7_needLeg
set_option maxRecDepth 20000 in
theorem ggX7_take_X3_hangs : GoodIn wsX7_take wsX3_hangs := goodIn_r _ [14, 15, 32, 33, 34, 35, 36, 37, 38, 39, 40, 41, 42, 43, 44, 45] rfl (by decide +kernel)
set_option maxRecDepth 20000 in
theorem gX7_take_X3_hangs : GoodIn wsX7_take (wsV RX7 128 RX3 yX3_hangs wsX3_hangs) := goodIn_app (goodIn_of _ (by decide +kernel)) ggX7_take_X3_hangs
set_option maxRecDepth 20000 in
theorem ggX7_take_X2_takeOff : GoodIn wsX7_take wsX2_takeOff := goodIn_r _ [20, 21, 32, 33, 34, 35, 36, 37, 38, 39, 40, 41, 42, 43, 44, 45, 46] rfl (by decide +kernel)
set_option maxRecDepth 20000 in
theorem gX7_take_X2_takeOff : GoodIn wsX7_take (wsV RX7 120 RX2 yX2_takeOff wsX2_takeOff) := goodIn_app (goodIn_of _ (by decide +kernel)) ggX7_take_X2_takeOff
theorem dX7_take_0 : decode cX7_take 0 = .ok (.aload_n 0, 1) := by decide +kernel
theorem dX7_take_1 : decode cX7_take 1 = .ok (.iload_n 1, 1) := by decide +kernel
theorem dX7_take_2 : decode cX7_take 2 = .ok (.invokevirtual 105, 3) := by decide +kernel
theorem dX7_take_5 : decode cX7_take 5 = .ok (.astore_n 2, 1) := by decide +kernel
theorem dX7_take_6 : decode cX7_take 6 = .ok (.aload_n 2, 1) := by decide +kernel
theorem dX7_take_7 : decode cX7_take 7 = .ok (.invokevirtual 128, 3) := by decide +kernel
theorem dX7_take_10 : decode cX7_take 10 = .ok (.istore_n 3, 1) := by decide +kernel
theorem dX7_take_11 : decode cX7_take 11 = .ok (.aload_n 0, 1) := by decide +kernel
theorem dX7_take_12 : decode cX7_take 12 = .ok (.getfield 18, 3) := by decide +kernel
theorem dX7_take_15 : decode cX7_take 15 = .ok (.aload_n 2, 1) := by decide +kernel
theorem dX7_take_16 : decode cX7_take 16 = .ok (.invokevirtual 120, 3) := by decide +kernel
theorem dX7_take_19 : decode cX7_take 19 = .ok (.iload_n 3, 1) := by decide +kernel
theorem dX7_take_20 : decode cX7_take 20 = .ok (.ireturn, 1) := by decide +kernel
set_option maxRecDepth 20000 in
theorem ggX7_air_X7_isWithin : GoodIn wsX7_air wsX7_isWithin := goodIn_r _ [9] rfl (by decide +kernel)
set_option maxRecDepth 20000 in
theorem gX7_air_X7_isWithin : GoodIn wsX7_air (va_wsS RX7 81 yX7_isWithin wsX7_isWithin) := goodIn_app (goodIn_of _ (by decide +kernel)) ggX7_air_X7_isWithin
set_option maxRecDepth 20000 in
theorem ggX7_air_X4_setAir : GoodIn wsX7_air wsX4_setAir := goodIn_r _ [14, 15, 16, 27, 28, 29] rfl (by decide +kernel)
set_option maxRecDepth 20000 in
theorem gX7_air_X4_setAir : GoodIn wsX7_air (wsV RX7 135 RX4 yX4_setAir wsX4_setAir) := goodIn_app (goodIn_of _ (by decide +kernel)) ggX7_air_X4_setAir
theorem dX7_air_0 : decode cX7_air 0 = .ok (.iload_n 1, 1) := by decide +kernel
theorem dX7_air_1 : decode cX7_air 1 = .ok (.iconst 0, 1) := by decide +kernel
theorem dX7_air_2 : decode cX7_air 2 = .ok (.iconst 5, 1) := by decide +kernel
theorem dX7_air_3 : decode cX7_air 3 = .ok (.invokestatic 81, 3) := by decide +kernel
theorem dX7_air_6 : decode cX7_air 6 = .ok (.ifCond .ne 11, 3) := by decide +kernel
theorem dX7_air_9 : decode cX7_air 9 = .ok (.new 132, 3) := by decide +kernel
theorem dX7_air_12 : decode cX7_air 12 = .ok (.dup, 1) := by decide +kernel
theorem dX7_air_13 : decode cX7_air 13 = .ok (.invokespecial 134, 3) := by decide +kernel
theorem dX7_air_16 : decode cX7_air 16 = .ok (.athrow, 1) := by decide +kernel
theorem dX7_air_17 : decode cX7_air 17 = .ok (.iload_n 2, 1) := by decide +kernel
theorem dX7_air_18 : decode cX7_air 18 = .ok (.bipush (-5), 2) := by decide +kernel
theorem dX7_air_20 : decode cX7_air 20 = .ok (.bipush 40, 2) := by decide +kernel
theorem dX7_air_22 : decode cX7_air 22 = .ok (.invokestatic 81, 3) := by decide +kernel
theorem dX7_air_25 : decode cX7_air 25 = .ok (.ifCond .eq 13, 3) := by decide +kernel
theorem dX7_air_28 : decode cX7_air 28 = .ok (.iload_n 3, 1) := by decide +kernel
theorem dX7_air_29 : decode cX7_air 29 = .ok (.iconst 0, 1) := by decide +kernel
theorem dX7_air_30 : decode cX7_air 30 = .ok (.bipush 100, 2) := by decide +kernel
theorem dX7_air_32 : decode cX7_air 32 = .ok (.invokestatic 81, 3) := by decide +kernel
theorem dX7_air_35 : decode cX7_air 35 = .ok (.ifCond .ne 11, 3) := by decide +kernel
theorem dX7_air_38 : decode cX7_air 38 = .ok (.new 85, 3) := by decide +kernel
theorem dX7_air_41 : decode cX7_air 41 = .ok (.dup, 1) := by decide +kernel
theorem dX7_air_42 : decode cX7_air 42 = .ok (.invokespecial 87, 3) := by decide +kernel
theorem dX7_air_45 : decode cX7_air 45 = .ok (.athrow, 1) := by decide +kernel
theorem dX7_air_46 : decode cX7_air 46 = .ok (.aload_n 0, 1) := by decide +kernel
theorem dX7_air_47 : decode cX7_air 47 = .ok (.getfield 25, 3) := by decide +kernel
theorem dX7_air_50 : decode cX7_air 50 = .ok (.iload_n 1, 1) := by decide +kernel
theorem dX7_air_51 : decode cX7_air 51 = .ok (.iload_n 2, 1) := by decide +kernel
theorem dX7_air_52 : decode cX7_air 52 = .ok (.iload_n 3, 1) := by decide +kernel
theorem dX7_air_53 : decode cX7_air 53 = .ok (.invokevirtual 135, 3) := by decide +kernel
theorem dX7_air_56 : decode cX7_air 56 = .ok (.return_, 1) := by decide +kernel
set_option maxRecDepth 20000 in
theorem ggX7_open_X7_isWithin : GoodIn wsX7_open wsX7_isWithin := goodIn_r _ [7] rfl (by decide +kernel)
set_option maxRecDepth 20000 in
theorem gX7_open_X7_isWithin : GoodIn wsX7_open (va_wsS RX7 81 yX7_isWithin wsX7_isWithin) := goodIn_app (goodIn_of _ (by decide +kernel)) ggX7_open_X7_isWithin
set_option maxRecDepth 20000 in
theorem ggX7_open_X4_setWindows : GoodIn wsX7_open wsX4_setWindows := goodIn_r _ [12, 13, 24, 25, 26] rfl (by decide +kernel)
set_option maxRecDepth 20000 in
theorem gX7_open_X4_setWindows : GoodIn wsX7_open (wsV RX7 139 RX4 yX4_setWindows wsX4_setWindows) := goodIn_app (goodIn_of _ (by decide +kernel)) ggX7_open_X4_setWindows
theorem dX7_open_0 : decode cX7_open 0 = .ok (.iload_n 1, 1) := by decide +kernel
theorem dX7_open_1 : decode cX7_open 1 = .ok (.iconst 1, 1) := by decide +kernel
theorem dX7_open_2 : decode cX7_open 2 = .ok (.iconst 5, 1) := by decide +kernel
theorem dX7_open_3 : decode cX7_open 3 = .ok (.invokestatic 81, 3) := by decide +kernel
theorem dX7_open_6 : decode cX7_open 6 = .ok (.ifCond .ne 11, 3) := by decide +kernel
theorem dX7_open_9 : decode cX7_open 9 = .ok (.new 132, 3) := by decide +kernel
theorem dX7_open_12 : decode cX7_open 12 = .ok (.dup, 1) := by decide +kernel
theorem dX7_open_13 : decode cX7_open 13 = .ok (.invokespecial 134, 3) := by decide +kernel
theorem dX7_open_16 : decode cX7_open 16 = .ok (.athrow, 1) := by decide +kernel
theorem dX7_open_17 : decode cX7_open 17 = .ok (.aload_n 0, 1) := by decide +kernel
theorem dX7_open_18 : decode cX7_open 18 = .ok (.getfield 25, 3) := by decide +kernel
theorem dX7_open_21 : decode cX7_open 21 = .ok (.iload_n 1, 1) := by decide +kernel
theorem dX7_open_22 : decode cX7_open 22 = .ok (.iload_n 2, 1) := by decide +kernel
theorem dX7_open_23 : decode cX7_open 23 = .ok (.invokevirtual 139, 3) := by decide +kernel
theorem dX7_open_26 : decode cX7_open 26 = .ok (.ireturn, 1) := by decide +kernel
set_option maxRecDepth 20000 in
theorem ggX7_days_X7_isWithin : GoodIn wsX7_days wsX7_isWithin := goodIn_r _ [7] rfl (by decide +kernel)
set_option maxRecDepth 20000 in
theorem gX7_days_X7_isWithin : GoodIn wsX7_days (va_wsS RX7 81 yX7_isWithin wsX7_isWithin) := goodIn_app (goodIn_of _ (by decide +kernel)) ggX7_days_X7_isWithin
set_option maxRecDepth 20000 in
theorem ggX7_days_X7_passDay : GoodIn wsX7_days wsX7_passDay := goodIn_r _ [11, 3, 12, 13, 14, 15, 16, 17, 18, 19, 20, 21, 22, 23, 24, 6, 25, 26, 27, 28, 29, 30, 31, 32, 33, 34, 35, 36, 37, 38, 39, 40, 41, 42, 43, 44, 45, 46, 47, 48, 49, 50, 51, 52, 53, 54, 55, 56, 57, 58, 59, 60, 61, 62, 63, 64, 65, 66, 67, 68, 69, 70, 71, 72, 73, 74, 75, 76, 77, 78, 79, 80, 81, 82, 83, 84, 85, 86, 87, 88] rfl (by decide +kernel)
set_option maxRecDepth 20000 in
theorem gX7_days_X7_passDay : GoodIn wsX7_days (wsV RX7 143 RX7 yX7_passDay wsX7_passDay) := goodIn_app (goodIn_of _ (by decide +kernel)) ggX7_days_X7_passDay
theorem dX7_days_0 : decode cX7_days 0 = .ok (.iload_n 1, 1) := by decide +kernel
theorem dX7_days_1 : decode cX7_days 1 = .ok (.iconst 0, 1) := by decide +kernel
theorem dX7_days_2 : decode cX7_days 2 = .ok (.sipush 200, 3) := by decide +kernel
theorem dX7_days_5 : decode cX7_days 5 = .ok (.invokestatic 81, 3) := by decide +kernel
theorem dX7_days_8 : decode cX7_days 8 = .ok (.ifCond .ne 11, 3) := by decide +kernel
theorem dX7_days_11 : decode cX7_days 11 = .ok (.new 85, 3) := by decide +kernel
theorem dX7_days_14 : decode cX7_days 14 = .ok (.dup, 1) := by decide +kernel
theorem dX7_days_15 : decode cX7_days 15 = .ok (.invokespecial 87, 3) := by decide +kernel
theorem dX7_days_18 : decode cX7_days 18 = .ok (.athrow, 1) := by decide +kernel
theorem dX7_days_19 : decode cX7_days 19 = .ok (.iconst 0, 1) := by decide +kernel
theorem dX7_days_20 : decode cX7_days 20 = .ok (.istore_n 2, 1) := by decide +kernel
theorem dX7_days_21 : decode cX7_days 21 = .ok (.iload_n 2, 1) := by decide +kernel
theorem dX7_days_22 : decode cX7_days 22 = .ok (.iload_n 1, 1) := by decide +kernel
theorem dX7_days_23 : decode cX7_days 23 = .ok (.if_icmp .ge 23, 3) := by decide +kernel
theorem dX7_days_26 : decode cX7_days 26 = .ok (.aload_n 0, 1) := by decide +kernel
theorem dX7_days_27 : decode cX7_days 27 = .ok (.getfield 99, 3) := by decide +kernel
theorem dX7_days_30 : decode cX7_days 30 = .ok (.sipush 2000, 3) := by decide +kernel
theorem dX7_days_33 : decode cX7_days 33 = .ok (.if_icmp .ge 13, 3) := by decide +kernel
theorem dX7_days_36 : decode cX7_days 36 = .ok (.aload_n 0, 1) := by decide +kernel
theorem dX7_days_37 : decode cX7_days 37 = .ok (.invokevirtual 143, 3) := by decide +kernel
theorem dX7_days_40 : decode cX7_days 40 = .ok (.iinc 2 1, 3) := by decide +kernel
theorem dX7_days_43 : decode cX7_days 43 = .ok (.goto (-22), 3) := by decide +kernel
theorem dX7_days_46 : decode cX7_days 46 = .ok (.aload_n 0, 1) := by decide +kernel
theorem dX7_days_47 : decode cX7_days 47 = .ok (.getfield 99, 3) := by decide +kernel
theorem dX7_days_50 : decode cX7_days 50 = .ok (.ireturn, 1) := by decide +kernel
set_option maxRecDepth 20000 in
theorem ggX7_rules_X5_read : GoodIn wsX7_rules wsX5_read := goodIn_r _ [10, 11, 12, 13, 14, 15, 16, 17, 18, 19, 20, 21, 22, 9, 23, 24, 25, 26, 27, 28, 29, 30, 31, 32, 33, 34, 35, 36, 37, 38, 39, 40, 41, 42, 43, 44, 45, 46, 47, 48, 49, 50, 51, 52, 53, 54, 55, 56, 57, 58, 59, 60, 61, 62, 63, 64, 65, 66, 67, 68, 69, 70, 71, 72, 73, 74, 75, 76, 77, 78, 79, 80, 81, 82, 83, 84, 85, 86, 87, 88, 89, 90, 91, 92, 93, 94, 95, 96, 97, 98, 99, 100, 101, 102, 103, 104, 105, 106, 107, 108, 109, 128, 129, 130, 131, 132, 133, 134] rfl (by decide +kernel)
set_option maxRecDepth 20000 in
theorem gX7_rules_X5_read : GoodIn wsX7_rules (wsV RX7 146 RX5 yX5_read wsX5_read) := goodIn_app (goodIn_of _ (by decide +kernel)) ggX7_rules_X5_read
set_option maxRecDepth 20000 in
theorem ggX7_rules_X6_clear : GoodIn wsX7_rules wsX6_clear := goodIn_r _ [113, 33, 133, 134] rfl (by decide +kernel)
set_option maxRecDepth 20000 in
theorem gX7_rules_X6_clear : GoodIn wsX7_rules (wsV RX7 149 RX6 yX6_clear wsX6_clear) := goodIn_app (goodIn_of _ (by decide +kernel)) ggX7_rules_X6_clear
set_option maxRecDepth 20000 in
theorem ggX7_rules_X5_numberOf : GoodIn wsX7_rules wsX5_numberOf := goodIn_r _ [117, 14, 128, 129, 130, 131, 132] rfl (by decide +kernel)
set_option maxRecDepth 20000 in
theorem gX7_rules_X5_numberOf : GoodIn wsX7_rules (wsV RX7 152 RX5 yX5_numberOf wsX5_numberOf) := goodIn_app (goodIn_of _ (by decide +kernel)) ggX7_rules_X5_numberOf
theorem dX7_rules_0 : decode cX7_rules 0 = .ok (.aload_n 0, 1) := by decide +kernel
theorem dX7_rules_1 : decode cX7_rules 1 = .ok (.getfield 41, 3) := by decide +kernel
theorem dX7_rules_4 : decode cX7_rules 4 = .ok (.invokevirtual 146, 3) := by decide +kernel
theorem dX7_rules_7 : decode cX7_rules 7 = .ok (.istore_n 1, 1) := by decide +kernel
theorem dX7_rules_8 : decode cX7_rules 8 = .ok (.aload_n 0, 1) := by decide +kernel
theorem dX7_rules_9 : decode cX7_rules 9 = .ok (.getfield 32, 3) := by decide +kernel
theorem dX7_rules_12 : decode cX7_rules 12 = .ok (.invokevirtual 149, 3) := by decide +kernel
theorem dX7_rules_15 : decode cX7_rules 15 = .ok (.iload_n 1, 1) := by decide +kernel
theorem dX7_rules_16 : decode cX7_rules 16 = .ok (.ifCond .ne 11, 3) := by decide +kernel
theorem dX7_rules_19 : decode cX7_rules 19 = .ok (.new 85, 3) := by decide +kernel
theorem dX7_rules_22 : decode cX7_rules 22 = .ok (.dup, 1) := by decide +kernel
theorem dX7_rules_23 : decode cX7_rules 23 = .ok (.invokespecial 87, 3) := by decide +kernel
theorem dX7_rules_26 : decode cX7_rules 26 = .ok (.athrow, 1) := by decide +kernel
theorem dX7_rules_27 : decode cX7_rules 27 = .ok (.iconst 0, 1) := by decide +kernel
theorem dX7_rules_28 : decode cX7_rules 28 = .ok (.istore_n 2, 1) := by decide +kernel
theorem dX7_rules_29 : decode cX7_rules 29 = .ok (.iload_n 2, 1) := by decide +kernel
theorem dX7_rules_30 : decode cX7_rules 30 = .ok (.aload_n 0, 1) := by decide +kernel
theorem dX7_rules_31 : decode cX7_rules 31 = .ok (.getfield 45, 3) := by decide +kernel
theorem dX7_rules_34 : decode cX7_rules 34 = .ok (.arraylength, 1) := by decide +kernel
theorem dX7_rules_35 : decode cX7_rules 35 = .ok (.if_icmp .ge 23, 3) := by decide +kernel
theorem dX7_rules_38 : decode cX7_rules 38 = .ok (.aload_n 0, 1) := by decide +kernel
theorem dX7_rules_39 : decode cX7_rules 39 = .ok (.getfield 45, 3) := by decide +kernel
theorem dX7_rules_42 : decode cX7_rules 42 = .ok (.iload_n 2, 1) := by decide +kernel
theorem dX7_rules_43 : decode cX7_rules 43 = .ok (.aload_n 0, 1) := by decide +kernel
theorem dX7_rules_44 : decode cX7_rules 44 = .ok (.getfield 41, 3) := by decide +kernel
theorem dX7_rules_47 : decode cX7_rules 47 = .ok (.iload_n 2, 1) := by decide +kernel
theorem dX7_rules_48 : decode cX7_rules 48 = .ok (.invokevirtual 152, 3) := by decide +kernel
theorem dX7_rules_51 : decode cX7_rules 51 = .ok (.iastore, 1) := by decide +kernel
theorem dX7_rules_52 : decode cX7_rules 52 = .ok (.iinc 2 1, 3) := by decide +kernel
theorem dX7_rules_55 : decode cX7_rules 55 = .ok (.goto (-26), 3) := by decide +kernel
theorem dX7_rules_58 : decode cX7_rules 58 = .ok (.aload_n 0, 1) := by decide +kernel
theorem dX7_rules_59 : decode cX7_rules 59 = .ok (.getfield 41, 3) := by decide +kernel
theorem dX7_rules_62 : decode cX7_rules 62 = .ok (.getfield 155, 3) := by decide +kernel
theorem dX7_rules_65 : decode cX7_rules 65 = .ok (.ireturn, 1) := by decide +kernel
theorem dX7_fault_0 : decode cX7_fault 0 = .ok (.aload_n 0, 1) := by decide +kernel
theorem dX7_fault_1 : decode cX7_fault 1 = .ok (.getfield 41, 3) := by decide +kernel
theorem dX7_fault_4 : decode cX7_fault 4 = .ok (.getfield 158, 3) := by decide +kernel
theorem dX7_fault_7 : decode cX7_fault 7 = .ok (.ireturn, 1) := by decide +kernel
set_option maxRecDepth 20000 in
theorem ggX7_fed_X7_needFarm : GoodIn wsX7_fed wsX7_needFarm := goodIn_ca (goodIn_r _ [8, 9, 10, 11, 12, 7, 13] rfl (by decide +kernel)) (goodIn_sub (fun _ h => List.mem_cons_of_mem _ (List.mem_append_right _ h)) (by decide +kernel))
set_option maxRecDepth 20000 in
theorem gX7_fed_X7_needFarm : GoodIn wsX7_fed (va_wsS RX7 78 yX7_needFarm wsX7_needFarm) := goodIn_app (goodIn_of _ (by decide +kernel)) ggX7_fed_X7_needFarm
set_option maxRecDepth 20000 in
theorem ggX7_fed_X7_isWithin : GoodIn wsX7_fed wsX7_isWithin := goodIn_r _ [13] rfl (by decide +kernel)
set_option maxRecDepth 20000 in
theorem gX7_fed_X7_isWithin : GoodIn wsX7_fed (va_wsS RX7 81 yX7_isWithin wsX7_isWithin) := goodIn_app (goodIn_of _ (by decide +kernel)) ggX7_fed_X7_isWithin
set_option maxRecDepth 20000 in
theorem ggX7_fed_X1_write : GoodIn wsX7_fed wsX1_write := goodIn_r _ [18, 19, 20, 21, 22, 23, 47, 48, 49, 50, 51] rfl (by decide +kernel)
set_option maxRecDepth 20000 in
theorem gX7_fed_X1_write : GoodIn wsX7_fed (wsV RX7 161 RX1 yX1_write wsX1_write) := goodIn_app (goodIn_of _ (by decide +kernel)) ggX7_fed_X1_write
set_option maxRecDepth 20000 in
theorem ggX7_fed_X7_undoSeals : GoodIn wsX7_fed wsX7_undoSeals := goodIn_r _ [27, 28, 29, 30, 31, 7, 32, 3, 4, 33, 34, 35, 17, 36, 19, 20, 23, 21, 22, 37, 38, 39, 40, 41, 42, 43, 44, 45, 46, 52, 53, 54, 55, 56, 57, 58, 59, 60, 61, 62, 63, 64, 65, 47, 48, 49, 50, 51] rfl (by decide +kernel)
set_option maxRecDepth 20000 in
theorem gX7_fed_X7_undoSeals : GoodIn wsX7_fed (wsV RX7 165 RX7 yX7_undoSeals wsX7_undoSeals) := goodIn_app (goodIn_of _ (by decide +kernel)) ggX7_fed_X7_undoSeals
theorem dX7_fed_0 : decode cX7_fed 0 = .ok (.iload_n 1, 1) := by decide +kernel
theorem dX7_fed_1 : decode cX7_fed 1 = .ok (.invokestatic 78, 3) := by decide +kernel
theorem dX7_fed_4 : decode cX7_fed 4 = .ok (.iload_n 3, 1) := by decide +kernel
theorem dX7_fed_5 : decode cX7_fed 5 = .ok (.iconst 0, 1) := by decide +kernel
theorem dX7_fed_6 : decode cX7_fed 6 = .ok (.iconst 3, 1) := by decide +kernel
theorem dX7_fed_7 : decode cX7_fed 7 = .ok (.invokestatic 81, 3) := by decide +kernel
theorem dX7_fed_10 : decode cX7_fed 10 = .ok (.ifCond .eq 14, 3) := by decide +kernel
theorem dX7_fed_13 : decode cX7_fed 13 = .ok (.iload_n 2, 1) := by decide +kernel
theorem dX7_fed_14 : decode cX7_fed 14 = .ok (.iconst 0, 1) := by decide +kernel
theorem dX7_fed_15 : decode cX7_fed 15 = .ok (.sipush 2000, 3) := by decide +kernel
theorem dX7_fed_18 : decode cX7_fed 18 = .ok (.invokestatic 81, 3) := by decide +kernel
theorem dX7_fed_21 : decode cX7_fed 21 = .ok (.ifCond .ne 11, 3) := by decide +kernel
theorem dX7_fed_24 : decode cX7_fed 24 = .ok (.new 85, 3) := by decide +kernel
theorem dX7_fed_27 : decode cX7_fed 27 = .ok (.dup, 1) := by decide +kernel
theorem dX7_fed_28 : decode cX7_fed 28 = .ok (.invokespecial 87, 3) := by decide +kernel
theorem dX7_fed_31 : decode cX7_fed 31 = .ok (.athrow, 1) := by decide +kernel
theorem dX7_fed_32 : decode cX7_fed 32 = .ok (.aload_n 0, 1) := by decide +kernel
theorem dX7_fed_33 : decode cX7_fed 33 = .ok (.getfield 52, 3) := by decide +kernel
theorem dX7_fed_36 : decode cX7_fed 36 = .ok (.iload_n 1, 1) := by decide +kernel
theorem dX7_fed_37 : decode cX7_fed 37 = .ok (.iload_n 2, 1) := by decide +kernel
theorem dX7_fed_38 : decode cX7_fed 38 = .ok (.iload_n 3, 1) := by decide +kernel
theorem dX7_fed_39 : decode cX7_fed 39 = .ok (.aload_n 0, 1) := by decide +kernel
theorem dX7_fed_40 : decode cX7_fed 40 = .ok (.getfield 99, 3) := by decide +kernel
theorem dX7_fed_43 : decode cX7_fed 43 = .ok (.invokevirtual 161, 3) := by decide +kernel
theorem dX7_fed_46 : decode cX7_fed 46 = .ok (.ifCond .ne 5, 3) := by decide +kernel
theorem dX7_fed_49 : decode cX7_fed 49 = .ok (.iconst (-1), 1) := by decide +kernel
theorem dX7_fed_50 : decode cX7_fed 50 = .ok (.ireturn, 1) := by decide +kernel
theorem dX7_fed_51 : decode cX7_fed 51 = .ok (.aload_n 0, 1) := by decide +kernel
theorem dX7_fed_52 : decode cX7_fed 52 = .ok (.invokevirtual 165, 3) := by decide +kernel
theorem dX7_fed_55 : decode cX7_fed 55 = .ok (.ireturn, 1) := by decide +kernel
set_option maxRecDepth 20000 in
theorem ggX7_known_X7_needFarm : GoodIn wsX7_known wsX7_needFarm := goodIn_ca (goodIn_r _ [5, 6, 7, 8, 9, 4, 10] rfl (by decide +kernel)) (goodIn_sub (fun _ h => List.mem_cons_of_mem _ (List.mem_append_right _ h)) (by decide +kernel))
set_option maxRecDepth 20000 in
theorem gX7_known_X7_needFarm : GoodIn wsX7_known (va_wsS RX7 78 yX7_needFarm wsX7_needFarm) := goodIn_app (goodIn_of _ (by decide +kernel)) ggX7_known_X7_needFarm
set_option maxRecDepth 20000 in
theorem ggX7_known_X1_find : GoodIn wsX7_known wsX1_find := goodIn_r _ [15, 16, 17, 18, 19, 20, 31, 32, 33, 34, 35] rfl (by decide +kernel)
set_option maxRecDepth 20000 in
theorem gX7_known_X1_find : GoodIn wsX7_known (wsV RX7 168 RX1 yX1_find wsX1_find) := goodIn_app (goodIn_of _ (by decide +kernel)) ggX7_known_X1_find
theorem dX7_known_0 : decode cX7_known 0 = .ok (.iload_n 1, 1) := by decide +kernel
theorem dX7_known_1 : decode cX7_known 1 = .ok (.invokestatic 78, 3) := by decide +kernel
theorem dX7_known_4 : decode cX7_known 4 = .ok (.aload_n 0, 1) := by decide +kernel
theorem dX7_known_5 : decode cX7_known 5 = .ok (.getfield 52, 3) := by decide +kernel
theorem dX7_known_8 : decode cX7_known 8 = .ok (.iload_n 1, 1) := by decide +kernel
theorem dX7_known_9 : decode cX7_known 9 = .ok (.iload_n 2, 1) := by decide +kernel
theorem dX7_known_10 : decode cX7_known 10 = .ok (.iload_n 3, 1) := by decide +kernel
theorem dX7_known_11 : decode cX7_known 11 = .ok (.invokevirtual 168, 3) := by decide +kernel
theorem dX7_known_14 : decode cX7_known 14 = .ok (.ireturn, 1) := by decide +kernel
set_option maxRecDepth 20000 in
theorem ggX7_seal_X7_needLeg : GoodIn wsX7_seal wsX7_needLeg := goodIn_ca (goodIn_r _ [5, 6, 7, 8, 55, 56, 57, 58, 59, 60, 61, 62, 63, 64] rfl (by decide +kernel)) (goodIn_sub (fun _ h => List.mem_cons_of_mem _ (List.mem_append_right _ h)) (by decide +kernel))
set_option maxRecDepth 20000 in
theorem gX7_seal_X7_needLeg : GoodIn wsX7_seal (wsV RX7 105 RX7 yX7_needLeg wsX7_needLeg) := goodIn_app (goodIn_of _ (by decide +kernel)) ggX7_seal_X7_needLeg
set_option maxRecDepth 20000 in
theorem ggX7_seal_X7_whatIsAgainst : GoodIn wsX7_seal wsX7_whatIsAgainst := goodIn_r _ [12, 13, 14, 15, 16, 4, 17, 18, 19, 20, 21, 22, 23, 24, 25, 26, 27, 28, 29, 30, 31, 32, 33, 34, 35, 36, 37, 38, 39, 40, 41, 42, 43, 44, 45, 46, 47, 48, 49, 50, 51, 52, 53, 54, 55, 56, 57, 58, 59, 60, 61, 62, 63, 64, 65, 66, 67, 68, 69] rfl (by decide +kernel)
set_option maxRecDepth 20000 in
theorem gX7_seal_X7_whatIsAgainst : GoodIn wsX7_seal (wsV RX7 171 RX7 yX7_whatIsAgainst wsX7_whatIsAgainst) := goodIn_app (goodIn_of _ (by decide +kernel)) ggX7_seal_X7_whatIsAgainst
set_option maxRecDepth 20000 in
theorem ggX7_seal_X7_askedOf : GoodIn wsX7_seal wsX7_askedOf := goodIn_r _ [17, 18, 55, 56, 57, 58, 59, 60, 61, 62, 63, 64] rfl (by decide +kernel)
set_option maxRecDepth 20000 in
theorem gX7_seal_X7_askedOf : GoodIn wsX7_seal (wsV RX7 178 RX7 yX7_askedOf wsX7_askedOf) := goodIn_app (goodIn_of _ (by decide +kernel)) ggX7_seal_X7_askedOf
theorem dX7_seal_0 : decode cX7_seal 0 = .ok (.aload_n 0, 1) := by decide +kernel
theorem dX7_seal_1 : decode cX7_seal 1 = .ok (.iload_n 1, 1) := by decide +kernel
theorem dX7_seal_2 : decode cX7_seal 2 = .ok (.invokevirtual 105, 3) := by decide +kernel
theorem dX7_seal_5 : decode cX7_seal 5 = .ok (.astore_n 2, 1) := by decide +kernel
theorem dX7_seal_6 : decode cX7_seal 6 = .ok (.aload_n 0, 1) := by decide +kernel
theorem dX7_seal_7 : decode cX7_seal 7 = .ok (.aload_n 2, 1) := by decide +kernel
theorem dX7_seal_8 : decode cX7_seal 8 = .ok (.invokevirtual 171, 3) := by decide +kernel
theorem dX7_seal_11 : decode cX7_seal 11 = .ok (.istore_n 3, 1) := by decide +kernel
theorem dX7_seal_12 : decode cX7_seal 12 = .ok (.iload_n 3, 1) := by decide +kernel
theorem dX7_seal_13 : decode cX7_seal 13 = .ok (.ifCond .ne 17, 3) := by decide +kernel
theorem dX7_seal_16 : decode cX7_seal 16 = .ok (.aload_n 2, 1) := by decide +kernel
theorem dX7_seal_17 : decode cX7_seal 17 = .ok (.iconst 1, 1) := by decide +kernel
theorem dX7_seal_18 : decode cX7_seal 18 = .ok (.putfield 175, 3) := by decide +kernel
theorem dX7_seal_21 : decode cX7_seal 21 = .ok (.aload_n 2, 1) := by decide +kernel
theorem dX7_seal_22 : decode cX7_seal 22 = .ok (.aload_n 0, 1) := by decide +kernel
theorem dX7_seal_23 : decode cX7_seal 23 = .ok (.iconst 3, 1) := by decide +kernel
theorem dX7_seal_24 : decode cX7_seal 24 = .ok (.invokevirtual 178, 3) := by decide +kernel
theorem dX7_seal_27 : decode cX7_seal 27 = .ok (.putfield 181, 3) := by decide +kernel
theorem dX7_seal_30 : decode cX7_seal 30 = .ok (.iload_n 3, 1) := by decide +kernel
theorem dX7_seal_31 : decode cX7_seal 31 = .ok (.ireturn, 1) := by decide +kernel
set_option maxRecDepth 20000 in
theorem ggX7_look_X7_needLeg : GoodIn wsX7_look wsX7_needLeg := goodIn_ca (goodIn_r _ [7, 8, 9, 10, 42, 43, 44, 45, 46, 47, 48, 49, 50, 51] rfl (by decide +kernel)) (goodIn_sub (fun _ h => List.mem_cons_of_mem _ (List.mem_append_right _ h)) (by decide +kernel))
set_option maxRecDepth 20000 in
theorem gX7_look_X7_needLeg : GoodIn wsX7_look (wsV RX7 105 RX7 yX7_needLeg wsX7_needLeg) := goodIn_app (goodIn_of _ (by decide +kernel)) ggX7_look_X7_needLeg
set_option maxRecDepth 20000 in
theorem ggX7_look_X3_hangs : GoodIn wsX7_look wsX3_hangs := goodIn_r _ [15, 16, 28, 29, 30, 31, 32, 33, 34, 35, 36, 37, 38, 39, 40, 41] rfl (by decide +kernel)
set_option maxRecDepth 20000 in
theorem gX7_look_X3_hangs : GoodIn wsX7_look (wsV RX7 128 RX3 yX3_hangs wsX3_hangs) := goodIn_app (goodIn_of _ (by decide +kernel)) ggX7_look_X3_hangs
set_option maxRecDepth 20000 in
theorem ggX7_look_X7_oneIf : GoodIn wsX7_look wsX7_oneIf := goodIn_r _ [19] rfl (by decide +kernel)
set_option maxRecDepth 20000 in
theorem gX7_look_X7_oneIf : GoodIn wsX7_look (va_wsS RX7 196 yX7_oneIf wsX7_oneIf) := goodIn_app (goodIn_of _ (by decide +kernel)) ggX7_look_X7_oneIf
set_option maxRecDepth 20000 in
theorem ggX7_look_X3_room : GoodIn wsX7_look wsX3_room := goodIn_r _ [23, 16, 28, 29, 30, 31, 32, 33, 34, 35, 36, 37, 38, 39, 40, 41] rfl (by decide +kernel)
set_option maxRecDepth 20000 in
theorem gX7_look_X3_room : GoodIn wsX7_look (wsV RX7 200 RX3 yX3_room wsX3_room) := goodIn_app (goodIn_of _ (by decide +kernel)) ggX7_look_X3_room
set_option maxRecDepth 20000 in
theorem ggX7_look_X3_hook : GoodIn wsX7_look wsX3_hook := goodIn_r _ [27, 16, 28, 29, 30, 31, 32, 33, 34, 35, 36, 37, 38, 39, 40, 41] rfl (by decide +kernel)
set_option maxRecDepth 20000 in
theorem gX7_look_X3_hook : GoodIn wsX7_look (wsV RX7 203 RX3 yX3_hook wsX3_hook) := goodIn_app (goodIn_of _ (by decide +kernel)) ggX7_look_X3_hook
theorem dX7_look_0 : decode cX7_look 0 = .ok (.aload_n 0, 1) := by decide +kernel
theorem dX7_look_1 : decode cX7_look 1 = .ok (.iload_n 1, 1) := by decide +kernel
theorem dX7_look_2 : decode cX7_look 2 = .ok (.invokevirtual 105, 3) := by decide +kernel
theorem dX7_look_5 : decode cX7_look 5 = .ok (.astore_n 3, 1) := by decide +kernel
theorem dX7_look_6 : decode cX7_look 6 = .ok (.iload_n 2, 1) := by decide +kernel
theorem dX7_look_7 : decode cX7_look 7 = .ok (.tableswitch 141 0 11 #[61, 66, 71, 76, 81, 100, 105, 110, 118, 126, 131, 136], 61) := by decide +kernel
theorem dX7_look_68 : decode cX7_look 68 = .ok (.aload_n 3, 1) := by decide +kernel
theorem dX7_look_69 : decode cX7_look 69 = .ok (.getfield 184, 3) := by decide +kernel
theorem dX7_look_72 : decode cX7_look 72 = .ok (.ireturn, 1) := by decide +kernel
theorem dX7_look_73 : decode cX7_look 73 = .ok (.aload_n 3, 1) := by decide +kernel
theorem dX7_look_74 : decode cX7_look 74 = .ok (.getfield 187, 3) := by decide +kernel
theorem dX7_look_77 : decode cX7_look 77 = .ok (.ireturn, 1) := by decide +kernel
theorem dX7_look_78 : decode cX7_look 78 = .ok (.aload_n 3, 1) := by decide +kernel
theorem dX7_look_79 : decode cX7_look 79 = .ok (.getfield 190, 3) := by decide +kernel
theorem dX7_look_82 : decode cX7_look 82 = .ok (.ireturn, 1) := by decide +kernel
theorem dX7_look_83 : decode cX7_look 83 = .ok (.aload_n 3, 1) := by decide +kernel
theorem dX7_look_84 : decode cX7_look 84 = .ok (.getfield 193, 3) := by decide +kernel
theorem dX7_look_87 : decode cX7_look 87 = .ok (.ireturn, 1) := by decide +kernel
theorem dX7_look_88 : decode cX7_look 88 = .ok (.aload_n 3, 1) := by decide +kernel
theorem dX7_look_89 : decode cX7_look 89 = .ok (.getfield 113, 3) := by decide +kernel
theorem dX7_look_92 : decode cX7_look 92 = .ok (.ifCond .eq 7, 3) := by decide +kernel
theorem dX7_look_95 : decode cX7_look 95 = .ok (.iconst 2, 1) := by decide +kernel
theorem dX7_look_96 : decode cX7_look 96 = .ok (.goto 10, 3) := by decide +kernel
theorem dX7_look_99 : decode cX7_look 99 = .ok (.aload_n 3, 1) := by decide +kernel
theorem dX7_look_100 : decode cX7_look 100 = .ok (.invokevirtual 128, 3) := by decide +kernel
theorem dX7_look_103 : decode cX7_look 103 = .ok (.invokestatic 196, 3) := by decide +kernel
theorem dX7_look_106 : decode cX7_look 106 = .ok (.ireturn, 1) := by decide +kernel
theorem dX7_look_107 : decode cX7_look 107 = .ok (.aload_n 3, 1) := by decide +kernel
theorem dX7_look_108 : decode cX7_look 108 = .ok (.invokevirtual 200, 3) := by decide +kernel
theorem dX7_look_111 : decode cX7_look 111 = .ok (.ireturn, 1) := by decide +kernel
theorem dX7_look_112 : decode cX7_look 112 = .ok (.aload_n 3, 1) := by decide +kernel
theorem dX7_look_113 : decode cX7_look 113 = .ok (.invokevirtual 203, 3) := by decide +kernel
theorem dX7_look_116 : decode cX7_look 116 = .ok (.ireturn, 1) := by decide +kernel
theorem dX7_look_117 : decode cX7_look 117 = .ok (.aload_n 3, 1) := by decide +kernel
theorem dX7_look_118 : decode cX7_look 118 = .ok (.getfield 175, 3) := by decide +kernel
theorem dX7_look_121 : decode cX7_look 121 = .ok (.invokestatic 196, 3) := by decide +kernel
theorem dX7_look_124 : decode cX7_look 124 = .ok (.ireturn, 1) := by decide +kernel
theorem dX7_look_125 : decode cX7_look 125 = .ok (.aload_n 3, 1) := by decide +kernel
theorem dX7_look_126 : decode cX7_look 126 = .ok (.getfield 206, 3) := by decide +kernel
theorem dX7_look_129 : decode cX7_look 129 = .ok (.invokestatic 196, 3) := by decide +kernel
theorem dX7_look_132 : decode cX7_look 132 = .ok (.ireturn, 1) := by decide +kernel
theorem dX7_look_133 : decode cX7_look 133 = .ok (.aload_n 3, 1) := by decide +kernel
theorem dX7_look_134 : decode cX7_look 134 = .ok (.getfield 209, 3) := by decide +kernel
theorem dX7_look_137 : decode cX7_look 137 = .ok (.ireturn, 1) := by decide +kernel
theorem dX7_look_138 : decode cX7_look 138 = .ok (.aload_n 3, 1) := by decide +kernel
theorem dX7_look_139 : decode cX7_look 139 = .ok (.getfield 212, 3) := by decide +kernel
theorem dX7_look_142 : decode cX7_look 142 = .ok (.ireturn, 1) := by decide +kernel
theorem dX7_look_143 : decode cX7_look 143 = .ok (.aload_n 3, 1) := by decide +kernel
theorem dX7_look_144 : decode cX7_look 144 = .ok (.getfield 215, 3) := by decide +kernel
theorem dX7_look_147 : decode cX7_look 147 = .ok (.ireturn, 1) := by decide +kernel
theorem dX7_look_148 : decode cX7_look 148 = .ok (.new 218, 3) := by decide +kernel
theorem dX7_look_151 : decode cX7_look 151 = .ok (.dup, 1) := by decide +kernel
theorem dX7_look_152 : decode cX7_look 152 = .ok (.invokespecial 220, 3) := by decide +kernel
theorem dX7_look_155 : decode cX7_look 155 = .ok (.athrow, 1) := by decide +kernel
set_option maxRecDepth 20000 in
theorem ggX7_on_X7_needPlace : GoodIn wsX7_on wsX7_needPlace := goodIn_ca (goodIn_r _ [5, 6, 7, 8, 9, 4, 10] rfl (by decide +kernel)) (goodIn_sub (fun _ h => List.mem_cons_of_mem _ (List.mem_append_right _ h)) (by decide +kernel))
set_option maxRecDepth 20000 in
theorem gX7_on_X7_needPlace : GoodIn wsX7_on (va_wsS RX7 109 yX7_needPlace wsX7_needPlace) := goodIn_app (goodIn_of _ (by decide +kernel)) ggX7_on_X7_needPlace
set_option maxRecDepth 20000 in
theorem ggX7_on_X2_legAt : GoodIn wsX7_on wsX2_legAt := goodIn_r _ [15, 16, 41] rfl (by decide +kernel)
set_option maxRecDepth 20000 in
theorem gX7_on_X2_legAt : GoodIn wsX7_on (wsV RX7 117 RX2 yX2_legAt wsX2_legAt) := goodIn_app (goodIn_of _ (by decide +kernel)) ggX7_on_X2_legAt
theorem dX7_on_0 : decode cX7_on 0 = .ok (.aload_n 0, 1) := by decide +kernel
theorem dX7_on_1 : decode cX7_on 1 = .ok (.getfield 18, 3) := by decide +kernel
theorem dX7_on_4 : decode cX7_on 4 = .ok (.iconst 0, 1) := by decide +kernel
theorem dX7_on_5 : decode cX7_on 5 = .ok (.iload_n 1, 1) := by decide +kernel
theorem dX7_on_6 : decode cX7_on 6 = .ok (.iload_n 2, 1) := by decide +kernel
theorem dX7_on_7 : decode cX7_on 7 = .ok (.invokestatic 109, 3) := by decide +kernel
theorem dX7_on_10 : decode cX7_on 10 = .ok (.invokevirtual 117, 3) := by decide +kernel
theorem dX7_on_13 : decode cX7_on 13 = .ok (.astore_n 3, 1) := by decide +kernel
theorem dX7_on_14 : decode cX7_on 14 = .ok (.aload_n 3, 1) := by decide +kernel
theorem dX7_on_15 : decode cX7_on 15 = .ok (.ifnonnull 7, 3) := by decide +kernel
theorem dX7_on_18 : decode cX7_on 18 = .ok (.iconst (-1), 1) := by decide +kernel
theorem dX7_on_19 : decode cX7_on 19 = .ok (.goto 7, 3) := by decide +kernel
theorem dX7_on_22 : decode cX7_on 22 = .ok (.aload_n 3, 1) := by decide +kernel
theorem dX7_on_23 : decode cX7_on 23 = .ok (.getfield 221, 3) := by decide +kernel
theorem dX7_on_26 : decode cX7_on 26 = .ok (.ireturn, 1) := by decide +kernel
set_option maxRecDepth 20000 in
theorem ggX7_should_X7_needLeg : GoodIn wsX7_should wsX7_needLeg := goodIn_ca (goodIn_r _ [5, 6, 7, 8, 39, 40, 41, 42, 43, 44, 45, 46, 47, 48] rfl (by decide +kernel)) (goodIn_sub (fun _ h => List.mem_cons_of_mem _ (List.mem_append_right _ h)) (by decide +kernel))
set_option maxRecDepth 20000 in
theorem gX7_should_X7_needLeg : GoodIn wsX7_should (wsV RX7 105 RX7 yX7_needLeg wsX7_needLeg) := goodIn_app (goodIn_of _ (by decide +kernel)) ggX7_should_X7_needLeg
set_option maxRecDepth 20000 in
theorem ggX7_should_X7_needPlace : GoodIn wsX7_should wsX7_needPlace := goodIn_ca (goodIn_r _ [11, 6, 7, 12, 13, 4, 14] rfl (by decide +kernel)) (goodIn_sub (fun _ h => List.mem_cons_of_mem _ (List.mem_append_right _ h)) (by decide +kernel))
set_option maxRecDepth 20000 in
theorem gX7_should_X7_needPlace : GoodIn wsX7_should (va_wsS RX7 109 yX7_needPlace wsX7_needPlace) := goodIn_app (goodIn_of _ (by decide +kernel)) ggX7_should_X7_needPlace
set_option maxRecDepth 20000 in
theorem ggX7_should_X3_hangsInAir : GoodIn wsX7_should wsX3_hangsInAir := goodIn_r _ [19, 20, 25, 26, 27, 28, 29, 30, 31, 32, 33, 34, 35, 36, 37, 38] rfl (by decide +kernel)
set_option maxRecDepth 20000 in
theorem gX7_should_X3_hangsInAir : GoodIn wsX7_should (wsV RX7 224 RX3 yX3_hangsInAir wsX3_hangsInAir) := goodIn_app (goodIn_of _ (by decide +kernel)) ggX7_should_X3_hangsInAir
set_option maxRecDepth 20000 in
theorem ggX7_should_X7_isToldForAnother : GoodIn wsX7_should wsX7_isToldForAnother := goodIn_r _ [24, 8, 39, 40, 41, 42, 43, 44, 45, 46, 47, 48, 25, 26, 27, 28, 29, 30, 31, 32, 33, 34, 35, 36, 37, 38] rfl (by decide +kernel)
set_option maxRecDepth 20000 in
theorem gX7_should_X7_isToldForAnother : GoodIn wsX7_should (wsV RX7 227 RX7 yX7_isToldForAnother wsX7_isToldForAnother) := goodIn_app (goodIn_of _ (by decide +kernel)) ggX7_should_X7_isToldForAnother
theorem dX7_should_0 : decode cX7_should 0 = .ok (.aload_n 0, 1) := by decide +kernel
theorem dX7_should_1 : decode cX7_should 1 = .ok (.iload_n 1, 1) := by decide +kernel
theorem dX7_should_2 : decode cX7_should 2 = .ok (.invokevirtual 105, 3) := by decide +kernel
theorem dX7_should_5 : decode cX7_should 5 = .ok (.astore 4, 2) := by decide +kernel
theorem dX7_should_7 : decode cX7_should 7 = .ok (.iconst 1, 1) := by decide +kernel
theorem dX7_should_8 : decode cX7_should 8 = .ok (.iload_n 2, 1) := by decide +kernel
theorem dX7_should_9 : decode cX7_should 9 = .ok (.iload_n 3, 1) := by decide +kernel
theorem dX7_should_10 : decode cX7_should 10 = .ok (.invokestatic 109, 3) := by decide +kernel
theorem dX7_should_13 : decode cX7_should 13 = .ok (.istore 5, 2) := by decide +kernel
theorem dX7_should_15 : decode cX7_should 15 = .ok (.aload 4, 2) := by decide +kernel
theorem dX7_should_17 : decode cX7_should 17 = .ok (.invokevirtual 224, 3) := by decide +kernel
theorem dX7_should_20 : decode cX7_should 20 = .ok (.ifCond .eq 14, 3) := by decide +kernel
theorem dX7_should_23 : decode cX7_should 23 = .ok (.aload_n 0, 1) := by decide +kernel
theorem dX7_should_24 : decode cX7_should 24 = .ok (.aload 4, 2) := by decide +kernel
theorem dX7_should_26 : decode cX7_should 26 = .ok (.iload 5, 2) := by decide +kernel
theorem dX7_should_28 : decode cX7_should 28 = .ok (.invokevirtual 227, 3) := by decide +kernel
theorem dX7_should_31 : decode cX7_should 31 = .ok (.ifCond .eq 5, 3) := by decide +kernel
theorem dX7_should_34 : decode cX7_should 34 = .ok (.iconst 0, 1) := by decide +kernel
theorem dX7_should_35 : decode cX7_should 35 = .ok (.ireturn, 1) := by decide +kernel
theorem dX7_should_36 : decode cX7_should 36 = .ok (.aload 4, 2) := by decide +kernel
theorem dX7_should_38 : decode cX7_should 38 = .ok (.iload 5, 2) := by decide +kernel
theorem dX7_should_40 : decode cX7_should 40 = .ok (.putfield 231, 3) := by decide +kernel
theorem dX7_should_43 : decode cX7_should 43 = .ok (.iconst 1, 1) := by decide +kernel
theorem dX7_should_44 : decode cX7_should 44 = .ok (.ireturn, 1) := by decide +kernel
set_option maxRecDepth 20000 in
theorem ggX7_moves_X2_leastMoves : GoodIn wsX7_moves wsX2_leastMoves := goodIn_r _ [7, 8, 9, 10, 11, 6, 12, 13, 14, 15, 16, 17, 18, 19, 20, 45, 31, 32, 33, 34, 35, 36, 37, 38, 39, 40, 41, 42, 43, 44] rfl (by decide +kernel)
set_option maxRecDepth 20000 in
theorem gX7_moves_X2_leastMoves : GoodIn wsX7_moves (wsV RX7 234 RX2 yX2_leastMoves wsX2_leastMoves) := goodIn_app (goodIn_of _ (by decide +kernel)) ggX7_moves_X2_leastMoves
theorem dX7_moves_0 : decode cX7_moves 0 = .ok (.aload_n 0, 1) := by decide +kernel
theorem dX7_moves_1 : decode cX7_moves 1 = .ok (.getfield 18, 3) := by decide +kernel
theorem dX7_moves_4 : decode cX7_moves 4 = .ok (.invokevirtual 234, 3) := by decide +kernel
theorem dX7_moves_7 : decode cX7_moves 7 = .ok (.istore_n 1, 1) := by decide +kernel
theorem dX7_moves_8 : decode cX7_moves 8 = .ok (.aload_n 0, 1) := by decide +kernel
theorem dX7_moves_9 : decode cX7_moves 9 = .ok (.getfield 11, 3) := by decide +kernel
theorem dX7_moves_12 : decode cX7_moves 12 = .ok (.astore_n 2, 1) := by decide +kernel
theorem dX7_moves_13 : decode cX7_moves 13 = .ok (.aload_n 2, 1) := by decide +kernel
theorem dX7_moves_14 : decode cX7_moves 14 = .ok (.arraylength, 1) := by decide +kernel
theorem dX7_moves_15 : decode cX7_moves 15 = .ok (.istore_n 3, 1) := by decide +kernel
theorem dX7_moves_16 : decode cX7_moves 16 = .ok (.iconst 0, 1) := by decide +kernel
theorem dX7_moves_17 : decode cX7_moves 17 = .ok (.istore 4, 2) := by decide +kernel
theorem dX7_moves_19 : decode cX7_moves 19 = .ok (.iload 4, 2) := by decide +kernel
theorem dX7_moves_21 : decode cX7_moves 21 = .ok (.iload_n 3, 1) := by decide +kernel
theorem dX7_moves_22 : decode cX7_moves 22 = .ok (.if_icmp .ge 26, 3) := by decide +kernel
theorem dX7_moves_25 : decode cX7_moves 25 = .ok (.aload_n 2, 1) := by decide +kernel
theorem dX7_moves_26 : decode cX7_moves 26 = .ok (.iload 4, 2) := by decide +kernel
theorem dX7_moves_28 : decode cX7_moves 28 = .ok (.aaload, 1) := by decide +kernel
theorem dX7_moves_29 : decode cX7_moves 29 = .ok (.astore 5, 2) := by decide +kernel
theorem dX7_moves_31 : decode cX7_moves 31 = .ok (.aload 5, 2) := by decide +kernel
theorem dX7_moves_33 : decode cX7_moves 33 = .ok (.ifnull 9, 3) := by decide +kernel
theorem dX7_moves_36 : decode cX7_moves 36 = .ok (.aload 5, 2) := by decide +kernel
theorem dX7_moves_38 : decode cX7_moves 38 = .ok (.iconst (-1), 1) := by decide +kernel
theorem dX7_moves_39 : decode cX7_moves 39 = .ok (.putfield 231, 3) := by decide +kernel
theorem dX7_moves_42 : decode cX7_moves 42 = .ok (.iinc 4 1, 3) := by decide +kernel
theorem dX7_moves_45 : decode cX7_moves 45 = .ok (.goto (-26), 3) := by decide +kernel
theorem dX7_moves_48 : decode cX7_moves 48 = .ok (.iload_n 1, 1) := by decide +kernel
theorem dX7_moves_49 : decode cX7_moves 49 = .ok (.ireturn, 1) := by decide +kernel
set_option maxRecDepth 20000 in
theorem ggX7_order_X7_isWithin : GoodIn wsX7_order wsX7_isWithin := goodIn_r _ [9] rfl (by decide +kernel)
set_option maxRecDepth 20000 in
theorem gX7_order_X7_isWithin : GoodIn wsX7_order (va_wsS RX7 81 yX7_isWithin wsX7_isWithin) := goodIn_app (goodIn_of _ (by decide +kernel)) ggX7_order_X7_isWithin
set_option maxRecDepth 20000 in
theorem ggX7_order_X0_clear : GoodIn wsX7_order wsX0_clear := goodIn_r _ [14, 15, 16, 84, 85, 86, 87, 88] rfl (by decide +kernel)
set_option maxRecDepth 20000 in
theorem gX7_order_X0_clear : GoodIn wsX7_order (wsV RX7 238 RX0 yX0_clear wsX0_clear) := goodIn_app (goodIn_of _ (by decide +kernel)) ggX7_order_X0_clear
set_option maxRecDepth 20000 in
theorem ggX7_order_X3_hangs : GoodIn wsX7_order wsX3_hangs := goodIn_r _ [21, 22, 70, 71, 72, 73, 74, 75, 76, 77, 78, 79, 80, 81, 82, 83] rfl (by decide +kernel)
set_option maxRecDepth 20000 in
theorem gX7_order_X3_hangs : GoodIn wsX7_order (wsV RX7 128 RX3 yX3_hangs wsX3_hangs) := goodIn_app (goodIn_of _ (by decide +kernel)) ggX7_order_X3_hangs
set_option maxRecDepth 20000 in
theorem ggX7_order_X0_offer : GoodIn wsX7_order wsX0_offer := goodIn_r _ [26, 15, 27, 28, 29, 16, 84, 85, 86, 87, 88, 70, 71, 72, 73, 74, 75, 76, 77, 78, 79, 80, 81, 82, 83] rfl (by decide +kernel)
set_option maxRecDepth 20000 in
theorem gX7_order_X0_offer : GoodIn wsX7_order (wsV RX7 239 RX0 yX0_offer wsX0_offer) := goodIn_app (goodIn_of _ (by decide +kernel)) ggX7_order_X0_offer
set_option maxRecDepth 20000 in
theorem ggX7_order_X0_leastSet : GoodIn wsX7_order wsX0_leastSet := goodIn_r _ [33, 15, 16, 34, 35, 36, 13, 37, 28, 29, 38, 39, 40, 41, 42, 43, 44, 84, 85, 86, 87, 88] rfl (by decide +kernel)
set_option maxRecDepth 20000 in
theorem gX7_order_X0_leastSet : GoodIn wsX7_order (wsV RX7 242 RX0 yX0_leastSet wsX0_leastSet) := goodIn_app (goodIn_of _ (by decide +kernel)) ggX7_order_X0_leastSet
set_option maxRecDepth 20000 in
theorem ggX7_order_X7_sell : GoodIn wsX7_order wsX7_sell := goodIn_r _ [48, 4, 49, 50, 51, 52, 13, 53, 15, 27, 54, 55, 56, 57, 58, 59, 60, 61, 62, 63, 64, 65, 66, 67, 68, 69, 70, 71, 72, 73, 74, 75, 76, 77, 78, 79, 80, 81, 82, 83, 84, 85, 86, 87, 88, 89] rfl (by decide +kernel)
set_option maxRecDepth 20000 in
theorem gX7_order_X7_sell : GoodIn wsX7_order (wsV RX7 245 RX7 yX7_sell wsX7_sell) := goodIn_app (goodIn_of _ (by decide +kernel)) ggX7_order_X7_sell
theorem dX7_order_0 : decode cX7_order 0 = .ok (.iload_n 1, 1) := by decide +kernel
theorem dX7_order_1 : decode cX7_order 1 = .ok (.iconst 1, 1) := by decide +kernel
theorem dX7_order_2 : decode cX7_order 2 = .ok (.ldc 237, 2) := by decide +kernel
theorem dX7_order_4 : decode cX7_order 4 = .ok (.invokestatic 81, 3) := by decide +kernel
theorem dX7_order_7 : decode cX7_order 7 = .ok (.ifCond .ne 11, 3) := by decide +kernel
theorem dX7_order_10 : decode cX7_order 10 = .ok (.new 85, 3) := by decide +kernel
theorem dX7_order_13 : decode cX7_order 13 = .ok (.dup, 1) := by decide +kernel
theorem dX7_order_14 : decode cX7_order 14 = .ok (.invokespecial 87, 3) := by decide +kernel
theorem dX7_order_17 : decode cX7_order 17 = .ok (.athrow, 1) := by decide +kernel
theorem dX7_order_18 : decode cX7_order 18 = .ok (.aload_n 0, 1) := by decide +kernel
theorem dX7_order_19 : decode cX7_order 19 = .ok (.getfield 59, 3) := by decide +kernel
theorem dX7_order_22 : decode cX7_order 22 = .ok (.invokevirtual 238, 3) := by decide +kernel
theorem dX7_order_25 : decode cX7_order 25 = .ok (.aload_n 0, 1) := by decide +kernel
theorem dX7_order_26 : decode cX7_order 26 = .ok (.getfield 11, 3) := by decide +kernel
theorem dX7_order_29 : decode cX7_order 29 = .ok (.astore_n 2, 1) := by decide +kernel
theorem dX7_order_30 : decode cX7_order 30 = .ok (.aload_n 2, 1) := by decide +kernel
theorem dX7_order_31 : decode cX7_order 31 = .ok (.arraylength, 1) := by decide +kernel
theorem dX7_order_32 : decode cX7_order 32 = .ok (.istore_n 3, 1) := by decide +kernel
theorem dX7_order_33 : decode cX7_order 33 = .ok (.iconst 0, 1) := by decide +kernel
theorem dX7_order_34 : decode cX7_order 34 = .ok (.istore 4, 2) := by decide +kernel
theorem dX7_order_36 : decode cX7_order 36 = .ok (.iload 4, 2) := by decide +kernel
theorem dX7_order_38 : decode cX7_order 38 = .ok (.iload_n 3, 1) := by decide +kernel
theorem dX7_order_39 : decode cX7_order 39 = .ok (.if_icmp .ge 53, 3) := by decide +kernel
theorem dX7_order_42 : decode cX7_order 42 = .ok (.aload_n 2, 1) := by decide +kernel
theorem dX7_order_43 : decode cX7_order 43 = .ok (.iload 4, 2) := by decide +kernel
theorem dX7_order_45 : decode cX7_order 45 = .ok (.aaload, 1) := by decide +kernel
theorem dX7_order_46 : decode cX7_order 46 = .ok (.astore 5, 2) := by decide +kernel
theorem dX7_order_48 : decode cX7_order 48 = .ok (.aload 5, 2) := by decide +kernel
theorem dX7_order_50 : decode cX7_order 50 = .ok (.ifnull 36, 3) := by decide +kernel
theorem dX7_order_53 : decode cX7_order 53 = .ok (.aload 5, 2) := by decide +kernel
theorem dX7_order_55 : decode cX7_order 55 = .ok (.getfield 175, 3) := by decide +kernel
theorem dX7_order_58 : decode cX7_order 58 = .ok (.ifCond .eq 28, 3) := by decide +kernel
theorem dX7_order_61 : decode cX7_order 61 = .ok (.aload 5, 2) := by decide +kernel
theorem dX7_order_63 : decode cX7_order 63 = .ok (.invokevirtual 128, 3) := by decide +kernel
theorem dX7_order_66 : decode cX7_order 66 = .ok (.ifCond .eq 20, 3) := by decide +kernel
theorem dX7_order_69 : decode cX7_order 69 = .ok (.aload 5, 2) := by decide +kernel
theorem dX7_order_71 : decode cX7_order 71 = .ok (.getfield 206, 3) := by decide +kernel
theorem dX7_order_74 : decode cX7_order 74 = .ok (.ifCond .ne 12, 3) := by decide +kernel
theorem dX7_order_77 : decode cX7_order 77 = .ok (.aload_n 0, 1) := by decide +kernel
theorem dX7_order_78 : decode cX7_order 78 = .ok (.getfield 59, 3) := by decide +kernel
theorem dX7_order_81 : decode cX7_order 81 = .ok (.aload 5, 2) := by decide +kernel
theorem dX7_order_83 : decode cX7_order 83 = .ok (.invokevirtual 239, 3) := by decide +kernel
theorem dX7_order_86 : decode cX7_order 86 = .ok (.iinc 4 1, 3) := by decide +kernel
theorem dX7_order_89 : decode cX7_order 89 = .ok (.goto (-53), 3) := by decide +kernel
theorem dX7_order_92 : decode cX7_order 92 = .ok (.aload_n 0, 1) := by decide +kernel
theorem dX7_order_93 : decode cX7_order 93 = .ok (.getfield 59, 3) := by decide +kernel
theorem dX7_order_96 : decode cX7_order 96 = .ok (.iload_n 1, 1) := by decide +kernel
theorem dX7_order_97 : decode cX7_order 97 = .ok (.invokevirtual 242, 3) := by decide +kernel
theorem dX7_order_100 : decode cX7_order 100 = .ok (.istore_n 2, 1) := by decide +kernel
theorem dX7_order_101 : decode cX7_order 101 = .ok (.iload_n 2, 1) := by decide +kernel
theorem dX7_order_102 : decode cX7_order 102 = .ok (.ifCond .ne 7, 3) := by decide +kernel
theorem dX7_order_105 : decode cX7_order 105 = .ok (.iconst (-1), 1) := by decide +kernel
theorem dX7_order_106 : decode cX7_order 106 = .ok (.goto 8, 3) := by decide +kernel
theorem dX7_order_109 : decode cX7_order 109 = .ok (.aload_n 0, 1) := by decide +kernel
theorem dX7_order_110 : decode cX7_order 110 = .ok (.iload_n 2, 1) := by decide +kernel
theorem dX7_order_111 : decode cX7_order 111 = .ok (.invokevirtual 245, 3) := by decide +kernel
theorem dX7_order_114 : decode cX7_order 114 = .ok (.ireturn, 1) := by decide +kernel
set_option maxRecDepth 20000 in
theorem ggX7_count_X7_sumOfLegs : GoodIn wsX7_count wsX7_sumOfLegs := goodIn_r _ [8, 9, 10, 11, 7, 12, 13, 14, 15, 16, 17, 18, 19, 20, 21, 22, 23, 24, 25, 26, 27, 28, 29, 30, 31, 37, 38, 39, 40, 41, 42, 43, 44, 45, 46, 47, 48, 49, 50] rfl (by decide +kernel)
set_option maxRecDepth 20000 in
theorem gX7_count_X7_sumOfLegs : GoodIn wsX7_count (wsV RX7 248 RX7 yX7_sumOfLegs wsX7_sumOfLegs) := goodIn_app (goodIn_of _ (by decide +kernel)) ggX7_count_X7_sumOfLegs
theorem dX7_count_0 : decode cX7_count 0 = .ok (.iload_n 1, 1) := by decide +kernel
theorem dX7_count_1 : decode cX7_count 1 = .ok (.tableswitch 79 0 9 #[55, 60, 65, 65, 65, 65, 65, 65, 71, 65], 55) := by decide +kernel
theorem dX7_count_56 : decode cX7_count 56 = .ok (.aload_n 0, 1) := by decide +kernel
theorem dX7_count_57 : decode cX7_count 57 = .ok (.getfield 99, 3) := by decide +kernel
theorem dX7_count_60 : decode cX7_count 60 = .ok (.ireturn, 1) := by decide +kernel
theorem dX7_count_61 : decode cX7_count 61 = .ok (.aload_n 0, 1) := by decide +kernel
theorem dX7_count_62 : decode cX7_count 62 = .ok (.getfield 88, 3) := by decide +kernel
theorem dX7_count_65 : decode cX7_count 65 = .ok (.ireturn, 1) := by decide +kernel
theorem dX7_count_66 : decode cX7_count 66 = .ok (.aload_n 0, 1) := by decide +kernel
theorem dX7_count_67 : decode cX7_count 67 = .ok (.iload_n 1, 1) := by decide +kernel
theorem dX7_count_68 : decode cX7_count 68 = .ok (.invokevirtual 248, 3) := by decide +kernel
theorem dX7_count_71 : decode cX7_count 71 = .ok (.ireturn, 1) := by decide +kernel
theorem dX7_count_72 : decode cX7_count 72 = .ok (.aload_n 0, 1) := by decide +kernel
theorem dX7_count_73 : decode cX7_count 73 = .ok (.getfield 52, 3) := by decide +kernel
theorem dX7_count_76 : decode cX7_count 76 = .ok (.getfield 251, 3) := by decide +kernel
theorem dX7_count_79 : decode cX7_count 79 = .ok (.ireturn, 1) := by decide +kernel
theorem dX7_count_80 : decode cX7_count 80 = .ok (.iconst (-1), 1) := by decide +kernel
theorem dX7_count_81 : decode cX7_count 81 = .ok (.ireturn, 1) := by decide +kernel
theorem dX7_isWithin_0 : decode cX7_isWithin 0 = .ok (.iload_n 0, 1) := by decide +kernel
theorem dX7_isWithin_1 : decode cX7_isWithin 1 = .ok (.iload_n 1, 1) := by decide +kernel
theorem dX7_isWithin_2 : decode cX7_isWithin 2 = .ok (.if_icmp .lt 12, 3) := by decide +kernel
theorem dX7_isWithin_5 : decode cX7_isWithin 5 = .ok (.iload_n 0, 1) := by decide +kernel
theorem dX7_isWithin_6 : decode cX7_isWithin 6 = .ok (.iload_n 2, 1) := by decide +kernel
theorem dX7_isWithin_7 : decode cX7_isWithin 7 = .ok (.if_icmp .gt 7, 3) := by decide +kernel
theorem dX7_isWithin_10 : decode cX7_isWithin 10 = .ok (.iconst 1, 1) := by decide +kernel
theorem dX7_isWithin_11 : decode cX7_isWithin 11 = .ok (.goto 4, 3) := by decide +kernel
theorem dX7_isWithin_14 : decode cX7_isWithin 14 = .ok (.iconst 0, 1) := by decide +kernel
theorem dX7_isWithin_15 : decode cX7_isWithin 15 = .ok (.ireturn, 1) := by decide +kernel
theorem dX7_oneIf_0 : decode cX7_oneIf 0 = .ok (.iload_n 0, 1) := by decide +kernel
theorem dX7_oneIf_1 : decode cX7_oneIf 1 = .ok (.ifCond .eq 7, 3) := by decide +kernel
theorem dX7_oneIf_4 : decode cX7_oneIf 4 = .ok (.iconst 1, 1) := by decide +kernel
theorem dX7_oneIf_5 : decode cX7_oneIf 5 = .ok (.goto 4, 3) := by decide +kernel
theorem dX7_oneIf_8 : decode cX7_oneIf 8 = .ok (.iconst 0, 1) := by decide +kernel
theorem dX7_oneIf_9 : decode cX7_oneIf 9 = .ok (.ireturn, 1) := by decide +kernel
set_option maxRecDepth 20000 in
theorem ggX7_needFarm_X7_isWithin : GoodIn wsX7_needFarm wsX7_isWithin := goodIn_r _ [6] rfl (by decide +kernel)
set_option maxRecDepth 20000 in
theorem gX7_needFarm_X7_isWithin : GoodIn wsX7_needFarm (va_wsS RX7 81 yX7_isWithin wsX7_isWithin) := goodIn_app (goodIn_of _ (by decide +kernel)) ggX7_needFarm_X7_isWithin
theorem dX7_needFarm_0 : decode cX7_needFarm 0 = .ok (.iload_n 0, 1) := by decide +kernel
theorem dX7_needFarm_1 : decode cX7_needFarm 1 = .ok (.iconst 0, 1) := by decide +kernel
theorem dX7_needFarm_2 : decode cX7_needFarm 2 = .ok (.bipush 9, 2) := by decide +kernel
theorem dX7_needFarm_4 : decode cX7_needFarm 4 = .ok (.invokestatic 81, 3) := by decide +kernel
theorem dX7_needFarm_7 : decode cX7_needFarm 7 = .ok (.ifCond .ne 11, 3) := by decide +kernel
theorem dX7_needFarm_10 : decode cX7_needFarm 10 = .ok (.new 132, 3) := by decide +kernel
theorem dX7_needFarm_13 : decode cX7_needFarm 13 = .ok (.dup, 1) := by decide +kernel
theorem dX7_needFarm_14 : decode cX7_needFarm 14 = .ok (.invokespecial 134, 3) := by decide +kernel
theorem dX7_needFarm_17 : decode cX7_needFarm 17 = .ok (.athrow, 1) := by decide +kernel
theorem dX7_needFarm_18 : decode cX7_needFarm 18 = .ok (.return_, 1) := by decide +kernel
theorem dX7_needLeg_0 : decode cX7_needLeg 0 = .ok (.iload_n 1, 1) := by decide +kernel
theorem dX7_needLeg_1 : decode cX7_needLeg 1 = .ok (.ifCond .lt 21, 3) := by decide +kernel
theorem dX7_needLeg_4 : decode cX7_needLeg 4 = .ok (.iload_n 1, 1) := by decide +kernel
theorem dX7_needLeg_5 : decode cX7_needLeg 5 = .ok (.aload_n 0, 1) := by decide +kernel
theorem dX7_needLeg_6 : decode cX7_needLeg 6 = .ok (.getfield 11, 3) := by decide +kernel
theorem dX7_needLeg_9 : decode cX7_needLeg 9 = .ok (.arraylength, 1) := by decide +kernel
theorem dX7_needLeg_10 : decode cX7_needLeg 10 = .ok (.if_icmp .ge 12, 3) := by decide +kernel
theorem dX7_needLeg_13 : decode cX7_needLeg 13 = .ok (.aload_n 0, 1) := by decide +kernel
theorem dX7_needLeg_14 : decode cX7_needLeg 14 = .ok (.getfield 11, 3) := by decide +kernel
theorem dX7_needLeg_17 : decode cX7_needLeg 17 = .ok (.iload_n 1, 1) := by decide +kernel
theorem dX7_needLeg_18 : decode cX7_needLeg 18 = .ok (.aaload, 1) := by decide +kernel
theorem dX7_needLeg_19 : decode cX7_needLeg 19 = .ok (.goto 4, 3) := by decide +kernel
theorem dX7_needLeg_22 : decode cX7_needLeg 22 = .ok (.aconst_null, 1) := by decide +kernel
theorem dX7_needLeg_23 : decode cX7_needLeg 23 = .ok (.astore_n 2, 1) := by decide +kernel
theorem dX7_needLeg_24 : decode cX7_needLeg 24 = .ok (.aload_n 2, 1) := by decide +kernel
theorem dX7_needLeg_25 : decode cX7_needLeg 25 = .ok (.ifnonnull 11, 3) := by decide +kernel
theorem dX7_needLeg_28 : decode cX7_needLeg 28 = .ok (.new 132, 3) := by decide +kernel
theorem dX7_needLeg_31 : decode cX7_needLeg 31 = .ok (.dup, 1) := by decide +kernel
theorem dX7_needLeg_32 : decode cX7_needLeg 32 = .ok (.invokespecial 134, 3) := by decide +kernel
theorem dX7_needLeg_35 : decode cX7_needLeg 35 = .ok (.athrow, 1) := by decide +kernel
theorem dX7_needLeg_36 : decode cX7_needLeg 36 = .ok (.aload_n 2, 1) := by decide +kernel
theorem dX7_needLeg_37 : decode cX7_needLeg 37 = .ok (.areturn, 1) := by decide +kernel
set_option maxRecDepth 20000 in
theorem ggX7_needPlace_X7_isWithin : GoodIn wsX7_needPlace wsX7_isWithin := goodIn_r _ [6] rfl (by decide +kernel)
set_option maxRecDepth 20000 in
theorem gX7_needPlace_X7_isWithin : GoodIn wsX7_needPlace (va_wsS RX7 81 yX7_isWithin wsX7_isWithin) := goodIn_app (goodIn_of _ (by decide +kernel)) ggX7_needPlace_X7_isWithin
theorem dX7_needPlace_0 : decode cX7_needPlace 0 = .ok (.iload_n 1, 1) := by decide +kernel
theorem dX7_needPlace_1 : decode cX7_needPlace 1 = .ok (.iload_n 0, 1) := by decide +kernel
theorem dX7_needPlace_2 : decode cX7_needPlace 2 = .ok (.iconst 5, 1) := by decide +kernel
theorem dX7_needPlace_3 : decode cX7_needPlace 3 = .ok (.invokestatic 81, 3) := by decide +kernel
theorem dX7_needPlace_6 : decode cX7_needPlace 6 = .ok (.ifCond .eq 13, 3) := by decide +kernel
theorem dX7_needPlace_9 : decode cX7_needPlace 9 = .ok (.iload_n 2, 1) := by decide +kernel
theorem dX7_needPlace_10 : decode cX7_needPlace 10 = .ok (.iconst 0, 1) := by decide +kernel
theorem dX7_needPlace_11 : decode cX7_needPlace 11 = .ok (.bipush 9, 2) := by decide +kernel
theorem dX7_needPlace_13 : decode cX7_needPlace 13 = .ok (.invokestatic 81, 3) := by decide +kernel
theorem dX7_needPlace_16 : decode cX7_needPlace 16 = .ok (.ifCond .ne 11, 3) := by decide +kernel
theorem dX7_needPlace_19 : decode cX7_needPlace 19 = .ok (.new 132, 3) := by decide +kernel
theorem dX7_needPlace_22 : decode cX7_needPlace 22 = .ok (.dup, 1) := by decide +kernel
theorem dX7_needPlace_23 : decode cX7_needPlace 23 = .ok (.invokespecial 134, 3) := by decide +kernel
theorem dX7_needPlace_26 : decode cX7_needPlace 26 = .ok (.athrow, 1) := by decide +kernel
theorem dX7_needPlace_27 : decode cX7_needPlace 27 = .ok (.iload_n 1, 1) := by decide +kernel
theorem dX7_needPlace_28 : decode cX7_needPlace 28 = .ok (.bipush 10, 2) := by decide +kernel
theorem dX7_needPlace_30 : decode cX7_needPlace 30 = .ok (.imul, 1) := by decide +kernel
theorem dX7_needPlace_31 : decode cX7_needPlace 31 = .ok (.iload_n 2, 1) := by decide +kernel
theorem dX7_needPlace_32 : decode cX7_needPlace 32 = .ok (.iadd, 1) := by decide +kernel
theorem dX7_needPlace_33 : decode cX7_needPlace 33 = .ok (.ireturn, 1) := by decide +kernel
theorem dX7_legsOfPig_0 : decode cX7_legsOfPig 0 = .ok (.iconst 0, 1) := by decide +kernel
theorem dX7_legsOfPig_1 : decode cX7_legsOfPig 1 = .ok (.istore_n 2, 1) := by decide +kernel
theorem dX7_legsOfPig_2 : decode cX7_legsOfPig 2 = .ok (.aload_n 0, 1) := by decide +kernel
theorem dX7_legsOfPig_3 : decode cX7_legsOfPig 3 = .ok (.getfield 11, 3) := by decide +kernel
theorem dX7_legsOfPig_6 : decode cX7_legsOfPig 6 = .ok (.astore_n 3, 1) := by decide +kernel
theorem dX7_legsOfPig_7 : decode cX7_legsOfPig 7 = .ok (.aload_n 3, 1) := by decide +kernel
theorem dX7_legsOfPig_8 : decode cX7_legsOfPig 8 = .ok (.arraylength, 1) := by decide +kernel
theorem dX7_legsOfPig_9 : decode cX7_legsOfPig 9 = .ok (.istore 4, 2) := by decide +kernel
theorem dX7_legsOfPig_11 : decode cX7_legsOfPig 11 = .ok (.iconst 0, 1) := by decide +kernel
theorem dX7_legsOfPig_12 : decode cX7_legsOfPig 12 = .ok (.istore 5, 2) := by decide +kernel
theorem dX7_legsOfPig_14 : decode cX7_legsOfPig 14 = .ok (.iload 5, 2) := by decide +kernel
theorem dX7_legsOfPig_16 : decode cX7_legsOfPig 16 = .ok (.iload 4, 2) := by decide +kernel
theorem dX7_legsOfPig_18 : decode cX7_legsOfPig 18 = .ok (.if_icmp .ge 32, 3) := by decide +kernel
theorem dX7_legsOfPig_21 : decode cX7_legsOfPig 21 = .ok (.aload_n 3, 1) := by decide +kernel
theorem dX7_legsOfPig_22 : decode cX7_legsOfPig 22 = .ok (.iload 5, 2) := by decide +kernel
theorem dX7_legsOfPig_24 : decode cX7_legsOfPig 24 = .ok (.aaload, 1) := by decide +kernel
theorem dX7_legsOfPig_25 : decode cX7_legsOfPig 25 = .ok (.astore 6, 2) := by decide +kernel
theorem dX7_legsOfPig_27 : decode cX7_legsOfPig 27 = .ok (.aload 6, 2) := by decide +kernel
theorem dX7_legsOfPig_29 : decode cX7_legsOfPig 29 = .ok (.ifnull 15, 3) := by decide +kernel
theorem dX7_legsOfPig_32 : decode cX7_legsOfPig 32 = .ok (.aload 6, 2) := by decide +kernel
theorem dX7_legsOfPig_34 : decode cX7_legsOfPig 34 = .ok (.getfield 212, 3) := by decide +kernel
theorem dX7_legsOfPig_37 : decode cX7_legsOfPig 37 = .ok (.iload_n 1, 1) := by decide +kernel
theorem dX7_legsOfPig_38 : decode cX7_legsOfPig 38 = .ok (.if_icmp .ne 6, 3) := by decide +kernel
theorem dX7_legsOfPig_41 : decode cX7_legsOfPig 41 = .ok (.iinc 2 1, 3) := by decide +kernel
theorem dX7_legsOfPig_44 : decode cX7_legsOfPig 44 = .ok (.iinc 5 1, 3) := by decide +kernel
theorem dX7_legsOfPig_47 : decode cX7_legsOfPig 47 = .ok (.goto (-33), 3) := by decide +kernel
theorem dX7_legsOfPig_50 : decode cX7_legsOfPig 50 = .ok (.iload_n 2, 1) := by decide +kernel
theorem dX7_legsOfPig_51 : decode cX7_legsOfPig 51 = .ok (.ireturn, 1) := by decide +kernel
theorem dX7_askedOf_0 : decode cX7_askedOf 0 = .ok (.iload_n 1, 1) := by decide +kernel
theorem dX7_askedOf_1 : decode cX7_askedOf 1 = .ok (.ifCond .lt 21, 3) := by decide +kernel
theorem dX7_askedOf_4 : decode cX7_askedOf 4 = .ok (.iload_n 1, 1) := by decide +kernel
theorem dX7_askedOf_5 : decode cX7_askedOf 5 = .ok (.aload_n 0, 1) := by decide +kernel
theorem dX7_askedOf_6 : decode cX7_askedOf 6 = .ok (.getfield 45, 3) := by decide +kernel
theorem dX7_askedOf_9 : decode cX7_askedOf 9 = .ok (.arraylength, 1) := by decide +kernel
theorem dX7_askedOf_10 : decode cX7_askedOf 10 = .ok (.if_icmp .ge 12, 3) := by decide +kernel
theorem dX7_askedOf_13 : decode cX7_askedOf 13 = .ok (.aload_n 0, 1) := by decide +kernel
theorem dX7_askedOf_14 : decode cX7_askedOf 14 = .ok (.getfield 45, 3) := by decide +kernel
theorem dX7_askedOf_17 : decode cX7_askedOf 17 = .ok (.iload_n 1, 1) := by decide +kernel
theorem dX7_askedOf_18 : decode cX7_askedOf 18 = .ok (.iaload, 1) := by decide +kernel
theorem dX7_askedOf_19 : decode cX7_askedOf 19 = .ok (.goto 4, 3) := by decide +kernel
theorem dX7_askedOf_22 : decode cX7_askedOf 22 = .ok (.iconst 0, 1) := by decide +kernel
theorem dX7_askedOf_23 : decode cX7_askedOf 23 = .ok (.ireturn, 1) := by decide +kernel
set_option maxRecDepth 20000 in
theorem ggX7_passDay_X4_letOutsideIn : GoodIn wsX7_passDay wsX4_letOutsideIn := goodIn_r _ [8, 9, 10, 11, 77, 78, 79] rfl (by decide +kernel)
set_option maxRecDepth 20000 in
theorem gX7_passDay_X4_letOutsideIn : GoodIn wsX7_passDay (wsV RX7 252 RX4 yX4_letOutsideIn wsX4_letOutsideIn) := goodIn_app (goodIn_of _ (by decide +kernel)) ggX7_passDay_X4_letOutsideIn
set_option maxRecDepth 20000 in
theorem ggX7_passDay_X7_keepForADay : GoodIn wsX7_passDay wsX7_keepForADay := goodIn_r _ [16, 2, 17, 18, 19, 20, 21, 22, 23, 24, 25, 26, 27, 28, 29, 30, 31, 32, 33, 34, 35, 36, 37, 38, 39, 40, 41, 42, 7, 43, 10, 44, 45, 46, 47, 11, 48, 49, 50, 51, 52, 53, 54, 55, 56, 57, 58, 59, 60, 61, 62, 63, 64, 65, 66, 67, 68, 69, 70, 71, 72, 73, 74, 75, 76, 77, 78, 79] rfl (by decide +kernel)
set_option maxRecDepth 20000 in
theorem gX7_passDay_X7_keepForADay : GoodIn wsX7_passDay (wsV RX7 255 RX7 yX7_keepForADay wsX7_keepForADay) := goodIn_app (goodIn_of _ (by decide +kernel)) ggX7_passDay_X7_keepForADay
theorem dX7_passDay_0 : decode cX7_passDay 0 = .ok (.aload_n 0, 1) := by decide +kernel
theorem dX7_passDay_1 : decode cX7_passDay 1 = .ok (.dup, 1) := by decide +kernel
theorem dX7_passDay_2 : decode cX7_passDay 2 = .ok (.getfield 99, 3) := by decide +kernel
theorem dX7_passDay_5 : decode cX7_passDay 5 = .ok (.iconst 1, 1) := by decide +kernel
theorem dX7_passDay_6 : decode cX7_passDay 6 = .ok (.iadd, 1) := by decide +kernel
theorem dX7_passDay_7 : decode cX7_passDay 7 = .ok (.putfield 99, 3) := by decide +kernel
theorem dX7_passDay_10 : decode cX7_passDay 10 = .ok (.aload_n 0, 1) := by decide +kernel
theorem dX7_passDay_11 : decode cX7_passDay 11 = .ok (.getfield 25, 3) := by decide +kernel
theorem dX7_passDay_14 : decode cX7_passDay 14 = .ok (.invokevirtual 252, 3) := by decide +kernel
theorem dX7_passDay_17 : decode cX7_passDay 17 = .ok (.aload_n 0, 1) := by decide +kernel
theorem dX7_passDay_18 : decode cX7_passDay 18 = .ok (.getfield 11, 3) := by decide +kernel
theorem dX7_passDay_21 : decode cX7_passDay 21 = .ok (.astore_n 1, 1) := by decide +kernel
theorem dX7_passDay_22 : decode cX7_passDay 22 = .ok (.aload_n 1, 1) := by decide +kernel
theorem dX7_passDay_23 : decode cX7_passDay 23 = .ok (.arraylength, 1) := by decide +kernel
theorem dX7_passDay_24 : decode cX7_passDay 24 = .ok (.istore_n 2, 1) := by decide +kernel
theorem dX7_passDay_25 : decode cX7_passDay 25 = .ok (.iconst 0, 1) := by decide +kernel
theorem dX7_passDay_26 : decode cX7_passDay 26 = .ok (.istore_n 3, 1) := by decide +kernel
theorem dX7_passDay_27 : decode cX7_passDay 27 = .ok (.iload_n 3, 1) := by decide +kernel
theorem dX7_passDay_28 : decode cX7_passDay 28 = .ok (.iload_n 2, 1) := by decide +kernel
theorem dX7_passDay_29 : decode cX7_passDay 29 = .ok (.if_icmp .ge 33, 3) := by decide +kernel
theorem dX7_passDay_32 : decode cX7_passDay 32 = .ok (.aload_n 1, 1) := by decide +kernel
theorem dX7_passDay_33 : decode cX7_passDay 33 = .ok (.iload_n 3, 1) := by decide +kernel
theorem dX7_passDay_34 : decode cX7_passDay 34 = .ok (.aaload, 1) := by decide +kernel
theorem dX7_passDay_35 : decode cX7_passDay 35 = .ok (.astore 4, 2) := by decide +kernel
theorem dX7_passDay_37 : decode cX7_passDay 37 = .ok (.aload 4, 2) := by decide +kernel
theorem dX7_passDay_39 : decode cX7_passDay 39 = .ok (.ifnull 17, 3) := by decide +kernel
theorem dX7_passDay_42 : decode cX7_passDay 42 = .ok (.aload 4, 2) := by decide +kernel
theorem dX7_passDay_44 : decode cX7_passDay 44 = .ok (.getfield 113, 3) := by decide +kernel
theorem dX7_passDay_47 : decode cX7_passDay 47 = .ok (.ifCond .ne 9, 3) := by decide +kernel
theorem dX7_passDay_50 : decode cX7_passDay 50 = .ok (.aload_n 0, 1) := by decide +kernel
theorem dX7_passDay_51 : decode cX7_passDay 51 = .ok (.aload 4, 2) := by decide +kernel
theorem dX7_passDay_53 : decode cX7_passDay 53 = .ok (.invokevirtual 255, 3) := by decide +kernel
theorem dX7_passDay_56 : decode cX7_passDay 56 = .ok (.iinc 3 1, 3) := by decide +kernel
theorem dX7_passDay_59 : decode cX7_passDay 59 = .ok (.goto (-32), 3) := by decide +kernel
theorem dX7_passDay_62 : decode cX7_passDay 62 = .ok (.return_, 1) := by decide +kernel
set_option maxRecDepth 20000 in
theorem ggX7_keepForADay_X3_room : GoodIn wsX7_keepForADay wsX3_room := goodIn_r _ [6, 7, 51, 52, 53, 54, 55, 56, 57, 58, 59, 60, 61, 62, 63, 64] rfl (by decide +kernel)
set_option maxRecDepth 20000 in
theorem gX7_keepForADay_X3_room : GoodIn wsX7_keepForADay (wsV RX7 200 RX3 yX3_room wsX3_room) := goodIn_app (goodIn_of _ (by decide +kernel)) ggX7_keepForADay_X3_room
set_option maxRecDepth 20000 in
theorem ggX7_keepForADay_X3_lieInSalt : GoodIn wsX7_keepForADay wsX3_lieInSalt := goodIn_r _ [11, 12, 13, 51, 52, 53, 54, 55, 56, 57, 58, 59, 60, 61, 62, 63, 64] rfl (by decide +kernel)
set_option maxRecDepth 20000 in
theorem gX7_keepForADay_X3_lieInSalt : GoodIn wsX7_keepForADay (wsV RX7 258 RX3 yX3_lieInSalt wsX3_lieInSalt) := goodIn_app (goodIn_of _ (by decide +kernel)) ggX7_keepForADay_X3_lieInSalt
set_option maxRecDepth 20000 in
theorem ggX7_keepForADay_X3_gainHeat : GoodIn wsX7_keepForADay wsX3_gainHeat := goodIn_r _ [17, 18, 19, 20, 21, 22, 12, 23, 24, 51, 52, 53, 54, 55, 56, 57, 58, 59, 60, 61, 62, 63, 64] rfl (by decide +kernel)
set_option maxRecDepth 20000 in
theorem gX7_keepForADay_X3_gainHeat : GoodIn wsX7_keepForADay (wsV RX7 261 RX3 yX3_gainHeat wsX3_gainHeat) := goodIn_app (goodIn_of _ (by decide +kernel)) ggX7_keepForADay_X3_gainHeat
set_option maxRecDepth 20000 in
theorem ggX7_keepForADay_X4_warmthOf : GoodIn wsX7_keepForADay wsX4_warmthOf := goodIn_r _ [29, 30, 65, 66, 67] rfl (by decide +kernel)
set_option maxRecDepth 20000 in
theorem gX7_keepForADay_X4_warmthOf : GoodIn wsX7_keepForADay (wsV RX7 264 RX4 yX4_warmthOf wsX4_warmthOf) := goodIn_app (goodIn_of _ (by decide +kernel)) ggX7_keepForADay_X4_warmthOf
set_option maxRecDepth 20000 in
theorem ggX7_keepForADay_X4_dampOf : GoodIn wsX7_keepForADay wsX4_dampOf := goodIn_r _ [34, 35, 65, 66, 67] rfl (by decide +kernel)
set_option maxRecDepth 20000 in
theorem gX7_keepForADay_X4_dampOf : GoodIn wsX7_keepForADay (wsV RX7 267 RX4 yX4_dampOf wsX4_dampOf) := goodIn_app (goodIn_of _ (by decide +kernel)) ggX7_keepForADay_X4_dampOf
set_option maxRecDepth 20000 in
theorem ggX7_keepForADay_X3_dry : GoodIn wsX7_keepForADay wsX3_dry := goodIn_r _ [39, 19, 20, 21, 22, 13, 40, 51, 52, 53, 54, 55, 56, 57, 58, 59, 60, 61, 62, 63, 64] rfl (by decide +kernel)
set_option maxRecDepth 20000 in
theorem gX7_keepForADay_X3_dry : GoodIn wsX7_keepForADay (wsV RX7 270 RX3 yX3_dry wsX3_dry) := goodIn_app (goodIn_of _ (by decide +kernel)) ggX7_keepForADay_X3_dry
theorem dX7_keepForADay_0 : decode cX7_keepForADay 0 = .ok (.aload_n 1, 1) := by decide +kernel
theorem dX7_keepForADay_1 : decode cX7_keepForADay 1 = .ok (.invokevirtual 200, 3) := by decide +kernel
theorem dX7_keepForADay_4 : decode cX7_keepForADay 4 = .ok (.istore_n 2, 1) := by decide +kernel
theorem dX7_keepForADay_5 : decode cX7_keepForADay 5 = .ok (.iload_n 2, 1) := by decide +kernel
theorem dX7_keepForADay_6 : decode cX7_keepForADay 6 = .ok (.ifCond .ne 10, 3) := by decide +kernel
theorem dX7_keepForADay_9 : decode cX7_keepForADay 9 = .ok (.aload_n 1, 1) := by decide +kernel
theorem dX7_keepForADay_10 : decode cX7_keepForADay 10 = .ok (.invokevirtual 258, 3) := by decide +kernel
theorem dX7_keepForADay_13 : decode cX7_keepForADay 13 = .ok (.goto 47, 3) := by decide +kernel
theorem dX7_keepForADay_16 : decode cX7_keepForADay 16 = .ok (.iload_n 2, 1) := by decide +kernel
theorem dX7_keepForADay_17 : decode cX7_keepForADay 17 = .ok (.iconst (-1), 1) := by decide +kernel
theorem dX7_keepForADay_18 : decode cX7_keepForADay 18 = .ok (.if_icmp .ne 12, 3) := by decide +kernel
theorem dX7_keepForADay_21 : decode cX7_keepForADay 21 = .ok (.aload_n 1, 1) := by decide +kernel
theorem dX7_keepForADay_22 : decode cX7_keepForADay 22 = .ok (.bipush 8, 2) := by decide +kernel
theorem dX7_keepForADay_24 : decode cX7_keepForADay 24 = .ok (.invokevirtual 261, 3) := by decide +kernel
theorem dX7_keepForADay_27 : decode cX7_keepForADay 27 = .ok (.goto 33, 3) := by decide +kernel
theorem dX7_keepForADay_30 : decode cX7_keepForADay 30 = .ok (.aload_n 0, 1) := by decide +kernel
theorem dX7_keepForADay_31 : decode cX7_keepForADay 31 = .ok (.getfield 25, 3) := by decide +kernel
theorem dX7_keepForADay_34 : decode cX7_keepForADay 34 = .ok (.iload_n 2, 1) := by decide +kernel
theorem dX7_keepForADay_35 : decode cX7_keepForADay 35 = .ok (.invokevirtual 264, 3) := by decide +kernel
theorem dX7_keepForADay_38 : decode cX7_keepForADay 38 = .ok (.istore_n 3, 1) := by decide +kernel
theorem dX7_keepForADay_39 : decode cX7_keepForADay 39 = .ok (.aload_n 1, 1) := by decide +kernel
theorem dX7_keepForADay_40 : decode cX7_keepForADay 40 = .ok (.iload_n 3, 1) := by decide +kernel
theorem dX7_keepForADay_41 : decode cX7_keepForADay 41 = .ok (.aload_n 0, 1) := by decide +kernel
theorem dX7_keepForADay_42 : decode cX7_keepForADay 42 = .ok (.getfield 25, 3) := by decide +kernel
theorem dX7_keepForADay_45 : decode cX7_keepForADay 45 = .ok (.iload_n 2, 1) := by decide +kernel
theorem dX7_keepForADay_46 : decode cX7_keepForADay 46 = .ok (.invokevirtual 267, 3) := by decide +kernel
theorem dX7_keepForADay_49 : decode cX7_keepForADay 49 = .ok (.invokevirtual 270, 3) := by decide +kernel
theorem dX7_keepForADay_52 : decode cX7_keepForADay 52 = .ok (.aload_n 1, 1) := by decide +kernel
theorem dX7_keepForADay_53 : decode cX7_keepForADay 53 = .ok (.iload_n 3, 1) := by decide +kernel
theorem dX7_keepForADay_54 : decode cX7_keepForADay 54 = .ok (.bipush 12, 2) := by decide +kernel
theorem dX7_keepForADay_56 : decode cX7_keepForADay 56 = .ok (.isub, 1) := by decide +kernel
theorem dX7_keepForADay_57 : decode cX7_keepForADay 57 = .ok (.invokevirtual 261, 3) := by decide +kernel
theorem dX7_keepForADay_60 : decode cX7_keepForADay 60 = .ok (.return_, 1) := by decide +kernel
set_option maxRecDepth 20000 in
theorem ggX7_whatIsAgainst_X7_askedOf : GoodIn wsX7_whatIsAgainst wsX7_askedOf := goodIn_r _ [6, 7, 44, 45, 46, 47, 48, 49, 50, 51, 52, 53] rfl (by decide +kernel)
set_option maxRecDepth 20000 in
theorem gX7_whatIsAgainst_X7_askedOf : GoodIn wsX7_whatIsAgainst (wsV RX7 178 RX7 yX7_askedOf wsX7_askedOf) := goodIn_app (goodIn_of _ (by decide +kernel)) ggX7_whatIsAgainst_X7_askedOf
set_option maxRecDepth 20000 in
theorem ggX7_whatIsAgainst_X3_hasLost : GoodIn wsX7_whatIsAgainst wsX3_hasLost := goodIn_r _ [12, 13, 14, 30, 31, 32, 33, 34, 35, 36, 37, 38, 39, 40, 41, 42, 43] rfl (by decide +kernel)
set_option maxRecDepth 20000 in
theorem gX7_whatIsAgainst_X3_hasLost : GoodIn wsX7_whatIsAgainst (wsV RX7 274 RX3 yX3_hasLost wsX3_hasLost) := goodIn_app (goodIn_of _ (by decide +kernel)) ggX7_whatIsAgainst_X3_hasLost
set_option maxRecDepth 20000 in
theorem ggX7_whatIsAgainst_X7_isFeedAgainst : GoodIn wsX7_whatIsAgainst wsX7_isFeedAgainst := goodIn_r _ [18, 19, 1, 20, 21, 22, 23, 24, 25, 26, 27, 28, 29, 44, 45, 46, 47, 48, 49, 50, 51, 52, 53, 30, 31, 32, 33, 34, 35, 36, 37, 38, 39, 40, 41, 42, 43, 54, 55, 56, 57, 58] rfl (by decide +kernel)
set_option maxRecDepth 20000 in
theorem gX7_whatIsAgainst_X7_isFeedAgainst : GoodIn wsX7_whatIsAgainst (wsV RX7 277 RX7 yX7_isFeedAgainst wsX7_isFeedAgainst) := goodIn_app (goodIn_of _ (by decide +kernel)) ggX7_whatIsAgainst_X7_isFeedAgainst
theorem dX7_whatIsAgainst_0 : decode cX7_whatIsAgainst 0 = .ok (.aload_n 1, 1) := by decide +kernel
theorem dX7_whatIsAgainst_1 : decode cX7_whatIsAgainst 1 = .ok (.getfield 113, 3) := by decide +kernel
theorem dX7_whatIsAgainst_4 : decode cX7_whatIsAgainst 4 = .ok (.ifCond .eq 5, 3) := by decide +kernel
theorem dX7_whatIsAgainst_7 : decode cX7_whatIsAgainst 7 = .ok (.iconst 1, 1) := by decide +kernel
theorem dX7_whatIsAgainst_8 : decode cX7_whatIsAgainst 8 = .ok (.ireturn, 1) := by decide +kernel
theorem dX7_whatIsAgainst_9 : decode cX7_whatIsAgainst 9 = .ok (.aload_n 1, 1) := by decide +kernel
theorem dX7_whatIsAgainst_10 : decode cX7_whatIsAgainst 10 = .ok (.getfield 175, 3) := by decide +kernel
theorem dX7_whatIsAgainst_13 : decode cX7_whatIsAgainst 13 = .ok (.ifCond .eq 5, 3) := by decide +kernel
theorem dX7_whatIsAgainst_16 : decode cX7_whatIsAgainst 16 = .ok (.iconst 2, 1) := by decide +kernel
theorem dX7_whatIsAgainst_17 : decode cX7_whatIsAgainst 17 = .ok (.ireturn, 1) := by decide +kernel
theorem dX7_whatIsAgainst_18 : decode cX7_whatIsAgainst 18 = .ok (.aload_n 1, 1) := by decide +kernel
theorem dX7_whatIsAgainst_19 : decode cX7_whatIsAgainst 19 = .ok (.getfield 206, 3) := by decide +kernel
theorem dX7_whatIsAgainst_22 : decode cX7_whatIsAgainst 22 = .ok (.ifCond .eq 5, 3) := by decide +kernel
theorem dX7_whatIsAgainst_25 : decode cX7_whatIsAgainst 25 = .ok (.iconst 3, 1) := by decide +kernel
theorem dX7_whatIsAgainst_26 : decode cX7_whatIsAgainst 26 = .ok (.ireturn, 1) := by decide +kernel
theorem dX7_whatIsAgainst_27 : decode cX7_whatIsAgainst 27 = .ok (.aload_n 0, 1) := by decide +kernel
theorem dX7_whatIsAgainst_28 : decode cX7_whatIsAgainst 28 = .ok (.getfield 99, 3) := by decide +kernel
theorem dX7_whatIsAgainst_31 : decode cX7_whatIsAgainst 31 = .ok (.aload_n 1, 1) := by decide +kernel
theorem dX7_whatIsAgainst_32 : decode cX7_whatIsAgainst 32 = .ok (.getfield 215, 3) := by decide +kernel
theorem dX7_whatIsAgainst_35 : decode cX7_whatIsAgainst 35 = .ok (.isub, 1) := by decide +kernel
theorem dX7_whatIsAgainst_36 : decode cX7_whatIsAgainst 36 = .ok (.aload_n 0, 1) := by decide +kernel
theorem dX7_whatIsAgainst_37 : decode cX7_whatIsAgainst 37 = .ok (.iconst 0, 1) := by decide +kernel
theorem dX7_whatIsAgainst_38 : decode cX7_whatIsAgainst 38 = .ok (.invokevirtual 178, 3) := by decide +kernel
theorem dX7_whatIsAgainst_41 : decode cX7_whatIsAgainst 41 = .ok (.if_icmp .ge 5, 3) := by decide +kernel
theorem dX7_whatIsAgainst_44 : decode cX7_whatIsAgainst 44 = .ok (.iconst 4, 1) := by decide +kernel
theorem dX7_whatIsAgainst_45 : decode cX7_whatIsAgainst 45 = .ok (.ireturn, 1) := by decide +kernel
theorem dX7_whatIsAgainst_46 : decode cX7_whatIsAgainst 46 = .ok (.aload_n 1, 1) := by decide +kernel
theorem dX7_whatIsAgainst_47 : decode cX7_whatIsAgainst 47 = .ok (.aload_n 0, 1) := by decide +kernel
theorem dX7_whatIsAgainst_48 : decode cX7_whatIsAgainst 48 = .ok (.iconst 1, 1) := by decide +kernel
theorem dX7_whatIsAgainst_49 : decode cX7_whatIsAgainst 49 = .ok (.invokevirtual 178, 3) := by decide +kernel
theorem dX7_whatIsAgainst_52 : decode cX7_whatIsAgainst 52 = .ok (.invokevirtual 274, 3) := by decide +kernel
theorem dX7_whatIsAgainst_55 : decode cX7_whatIsAgainst 55 = .ok (.ifCond .ne 5, 3) := by decide +kernel
theorem dX7_whatIsAgainst_58 : decode cX7_whatIsAgainst 58 = .ok (.iconst 5, 1) := by decide +kernel
theorem dX7_whatIsAgainst_59 : decode cX7_whatIsAgainst 59 = .ok (.ireturn, 1) := by decide +kernel
theorem dX7_whatIsAgainst_60 : decode cX7_whatIsAgainst 60 = .ok (.aload_n 1, 1) := by decide +kernel
theorem dX7_whatIsAgainst_61 : decode cX7_whatIsAgainst 61 = .ok (.getfield 190, 3) := by decide +kernel
theorem dX7_whatIsAgainst_64 : decode cX7_whatIsAgainst 64 = .ok (.aload_n 0, 1) := by decide +kernel
theorem dX7_whatIsAgainst_65 : decode cX7_whatIsAgainst 65 = .ok (.iconst 2, 1) := by decide +kernel
theorem dX7_whatIsAgainst_66 : decode cX7_whatIsAgainst 66 = .ok (.invokevirtual 178, 3) := by decide +kernel
theorem dX7_whatIsAgainst_69 : decode cX7_whatIsAgainst 69 = .ok (.if_icmp .ge 6, 3) := by decide +kernel
theorem dX7_whatIsAgainst_72 : decode cX7_whatIsAgainst 72 = .ok (.bipush 6, 2) := by decide +kernel
theorem dX7_whatIsAgainst_74 : decode cX7_whatIsAgainst 74 = .ok (.ireturn, 1) := by decide +kernel
theorem dX7_whatIsAgainst_75 : decode cX7_whatIsAgainst 75 = .ok (.aload_n 0, 1) := by decide +kernel
theorem dX7_whatIsAgainst_76 : decode cX7_whatIsAgainst 76 = .ok (.aload_n 1, 1) := by decide +kernel
theorem dX7_whatIsAgainst_77 : decode cX7_whatIsAgainst 77 = .ok (.aload_n 0, 1) := by decide +kernel
theorem dX7_whatIsAgainst_78 : decode cX7_whatIsAgainst 78 = .ok (.iconst 3, 1) := by decide +kernel
theorem dX7_whatIsAgainst_79 : decode cX7_whatIsAgainst 79 = .ok (.invokevirtual 178, 3) := by decide +kernel
theorem dX7_whatIsAgainst_82 : decode cX7_whatIsAgainst 82 = .ok (.invokevirtual 277, 3) := by decide +kernel
theorem dX7_whatIsAgainst_85 : decode cX7_whatIsAgainst 85 = .ok (.ifCond .eq 6, 3) := by decide +kernel
theorem dX7_whatIsAgainst_88 : decode cX7_whatIsAgainst 88 = .ok (.bipush 7, 2) := by decide +kernel
theorem dX7_whatIsAgainst_90 : decode cX7_whatIsAgainst 90 = .ok (.ireturn, 1) := by decide +kernel
theorem dX7_whatIsAgainst_91 : decode cX7_whatIsAgainst 91 = .ok (.aload_n 1, 1) := by decide +kernel
theorem dX7_whatIsAgainst_92 : decode cX7_whatIsAgainst 92 = .ok (.getfield 184, 3) := by decide +kernel
theorem dX7_whatIsAgainst_95 : decode cX7_whatIsAgainst 95 = .ok (.aload_n 0, 1) := by decide +kernel
theorem dX7_whatIsAgainst_96 : decode cX7_whatIsAgainst 96 = .ok (.iconst 4, 1) := by decide +kernel
theorem dX7_whatIsAgainst_97 : decode cX7_whatIsAgainst 97 = .ok (.invokevirtual 178, 3) := by decide +kernel
theorem dX7_whatIsAgainst_100 : decode cX7_whatIsAgainst 100 = .ok (.if_icmp .ge 8, 3) := by decide +kernel
theorem dX7_whatIsAgainst_103 : decode cX7_whatIsAgainst 103 = .ok (.bipush 8, 2) := by decide +kernel
theorem dX7_whatIsAgainst_105 : decode cX7_whatIsAgainst 105 = .ok (.goto 4, 3) := by decide +kernel
theorem dX7_whatIsAgainst_108 : decode cX7_whatIsAgainst 108 = .ok (.iconst 0, 1) := by decide +kernel
theorem dX7_whatIsAgainst_109 : decode cX7_whatIsAgainst 109 = .ok (.ireturn, 1) := by decide +kernel
set_option maxRecDepth 20000 in
theorem ggX7_isFeedAgainst_X1_find : GoodIn wsX7_isFeedAgainst wsX1_find := goodIn_r _ [7, 8, 9, 10, 11, 12, 37, 38, 39, 40, 41] rfl (by decide +kernel)
set_option maxRecDepth 20000 in
theorem gX7_isFeedAgainst_X1_find : GoodIn wsX7_isFeedAgainst (wsV RX7 168 RX1 yX1_find wsX1_find) := goodIn_app (goodIn_of _ (by decide +kernel)) ggX7_isFeedAgainst_X1_find
theorem dX7_isFeedAgainst_0 : decode cX7_isFeedAgainst 0 = .ok (.aload_n 0, 1) := by decide +kernel
theorem dX7_isFeedAgainst_1 : decode cX7_isFeedAgainst 1 = .ok (.getfield 52, 3) := by decide +kernel
theorem dX7_isFeedAgainst_4 : decode cX7_isFeedAgainst 4 = .ok (.aload_n 1, 1) := by decide +kernel
theorem dX7_isFeedAgainst_5 : decode cX7_isFeedAgainst 5 = .ok (.getfield 209, 3) := by decide +kernel
theorem dX7_isFeedAgainst_8 : decode cX7_isFeedAgainst 8 = .ok (.aload_n 1, 1) := by decide +kernel
theorem dX7_isFeedAgainst_9 : decode cX7_isFeedAgainst 9 = .ok (.getfield 215, 3) := by decide +kernel
theorem dX7_isFeedAgainst_12 : decode cX7_isFeedAgainst 12 = .ok (.aload_n 0, 1) := by decide +kernel
theorem dX7_isFeedAgainst_13 : decode cX7_isFeedAgainst 13 = .ok (.getfield 99, 3) := by decide +kernel
theorem dX7_isFeedAgainst_16 : decode cX7_isFeedAgainst 16 = .ok (.invokevirtual 168, 3) := by decide +kernel
theorem dX7_isFeedAgainst_19 : decode cX7_isFeedAgainst 19 = .ok (.iload_n 2, 1) := by decide +kernel
theorem dX7_isFeedAgainst_20 : decode cX7_isFeedAgainst 20 = .ok (.if_icmp .ge 7, 3) := by decide +kernel
theorem dX7_isFeedAgainst_23 : decode cX7_isFeedAgainst 23 = .ok (.iconst 1, 1) := by decide +kernel
theorem dX7_isFeedAgainst_24 : decode cX7_isFeedAgainst 24 = .ok (.goto 4, 3) := by decide +kernel
theorem dX7_isFeedAgainst_27 : decode cX7_isFeedAgainst 27 = .ok (.iconst 0, 1) := by decide +kernel
theorem dX7_isFeedAgainst_28 : decode cX7_isFeedAgainst 28 = .ok (.ireturn, 1) := by decide +kernel
set_option maxRecDepth 20000 in
theorem ggX7_undoSeals_X7_isFeedAgainst : GoodIn wsX7_undoSeals wsX7_isFeedAgainst := goodIn_r _ [6, 7, 8, 9, 10, 11, 12, 13, 14, 15, 16, 17, 18, 19, 20, 21, 22, 23, 24, 25, 26, 27, 28, 29, 30, 31, 32, 33, 34, 35, 36, 37, 38, 39, 40, 41, 42, 43, 44, 45, 46, 47] rfl (by decide +kernel)
set_option maxRecDepth 20000 in
theorem gX7_undoSeals_X7_isFeedAgainst : GoodIn wsX7_undoSeals (wsV RX7 277 RX7 yX7_isFeedAgainst wsX7_isFeedAgainst) := goodIn_app (goodIn_of _ (by decide +kernel)) ggX7_undoSeals_X7_isFeedAgainst
theorem dX7_undoSeals_0 : decode cX7_undoSeals 0 = .ok (.iconst 0, 1) := by decide +kernel
theorem dX7_undoSeals_1 : decode cX7_undoSeals 1 = .ok (.istore_n 1, 1) := by decide +kernel
theorem dX7_undoSeals_2 : decode cX7_undoSeals 2 = .ok (.aload_n 0, 1) := by decide +kernel
theorem dX7_undoSeals_3 : decode cX7_undoSeals 3 = .ok (.getfield 11, 3) := by decide +kernel
theorem dX7_undoSeals_6 : decode cX7_undoSeals 6 = .ok (.astore_n 2, 1) := by decide +kernel
theorem dX7_undoSeals_7 : decode cX7_undoSeals 7 = .ok (.aload_n 2, 1) := by decide +kernel
theorem dX7_undoSeals_8 : decode cX7_undoSeals 8 = .ok (.arraylength, 1) := by decide +kernel
theorem dX7_undoSeals_9 : decode cX7_undoSeals 9 = .ok (.istore_n 3, 1) := by decide +kernel
theorem dX7_undoSeals_10 : decode cX7_undoSeals 10 = .ok (.iconst 0, 1) := by decide +kernel
theorem dX7_undoSeals_11 : decode cX7_undoSeals 11 = .ok (.istore 4, 2) := by decide +kernel
theorem dX7_undoSeals_13 : decode cX7_undoSeals 13 = .ok (.iload 4, 2) := by decide +kernel
theorem dX7_undoSeals_15 : decode cX7_undoSeals 15 = .ok (.iload_n 3, 1) := by decide +kernel
theorem dX7_undoSeals_16 : decode cX7_undoSeals 16 = .ok (.if_icmp .ge 59, 3) := by decide +kernel
theorem dX7_undoSeals_19 : decode cX7_undoSeals 19 = .ok (.aload_n 2, 1) := by decide +kernel
theorem dX7_undoSeals_20 : decode cX7_undoSeals 20 = .ok (.iload 4, 2) := by decide +kernel
theorem dX7_undoSeals_22 : decode cX7_undoSeals 22 = .ok (.aaload, 1) := by decide +kernel
theorem dX7_undoSeals_23 : decode cX7_undoSeals 23 = .ok (.astore 5, 2) := by decide +kernel
theorem dX7_undoSeals_25 : decode cX7_undoSeals 25 = .ok (.aload 5, 2) := by decide +kernel
theorem dX7_undoSeals_27 : decode cX7_undoSeals 27 = .ok (.ifnull 42, 3) := by decide +kernel
theorem dX7_undoSeals_30 : decode cX7_undoSeals 30 = .ok (.aload 5, 2) := by decide +kernel
theorem dX7_undoSeals_32 : decode cX7_undoSeals 32 = .ok (.getfield 175, 3) := by decide +kernel
theorem dX7_undoSeals_35 : decode cX7_undoSeals 35 = .ok (.ifCond .eq 34, 3) := by decide +kernel
theorem dX7_undoSeals_38 : decode cX7_undoSeals 38 = .ok (.aload 5, 2) := by decide +kernel
theorem dX7_undoSeals_40 : decode cX7_undoSeals 40 = .ok (.getfield 113, 3) := by decide +kernel
theorem dX7_undoSeals_43 : decode cX7_undoSeals 43 = .ok (.ifCond .ne 26, 3) := by decide +kernel
theorem dX7_undoSeals_46 : decode cX7_undoSeals 46 = .ok (.aload_n 0, 1) := by decide +kernel
theorem dX7_undoSeals_47 : decode cX7_undoSeals 47 = .ok (.aload 5, 2) := by decide +kernel
theorem dX7_undoSeals_49 : decode cX7_undoSeals 49 = .ok (.aload 5, 2) := by decide +kernel
theorem dX7_undoSeals_51 : decode cX7_undoSeals 51 = .ok (.getfield 181, 3) := by decide +kernel
theorem dX7_undoSeals_54 : decode cX7_undoSeals 54 = .ok (.invokevirtual 277, 3) := by decide +kernel
theorem dX7_undoSeals_57 : decode cX7_undoSeals 57 = .ok (.ifCond .eq 12, 3) := by decide +kernel
theorem dX7_undoSeals_60 : decode cX7_undoSeals 60 = .ok (.aload 5, 2) := by decide +kernel
theorem dX7_undoSeals_62 : decode cX7_undoSeals 62 = .ok (.iconst 0, 1) := by decide +kernel
theorem dX7_undoSeals_63 : decode cX7_undoSeals 63 = .ok (.putfield 175, 3) := by decide +kernel
theorem dX7_undoSeals_66 : decode cX7_undoSeals 66 = .ok (.iinc 1 1, 3) := by decide +kernel
theorem dX7_undoSeals_69 : decode cX7_undoSeals 69 = .ok (.iinc 4 1, 3) := by decide +kernel
theorem dX7_undoSeals_72 : decode cX7_undoSeals 72 = .ok (.goto (-59), 3) := by decide +kernel
theorem dX7_undoSeals_75 : decode cX7_undoSeals 75 = .ok (.iload_n 1, 1) := by decide +kernel
theorem dX7_undoSeals_76 : decode cX7_undoSeals 76 = .ok (.ireturn, 1) := by decide +kernel
theorem dX7_isToldForAnother_0 : decode cX7_isToldForAnother 0 = .ok (.aload_n 0, 1) := by decide +kernel
theorem dX7_isToldForAnother_1 : decode cX7_isToldForAnother 1 = .ok (.getfield 11, 3) := by decide +kernel
theorem dX7_isToldForAnother_4 : decode cX7_isToldForAnother 4 = .ok (.astore_n 3, 1) := by decide +kernel
theorem dX7_isToldForAnother_5 : decode cX7_isToldForAnother 5 = .ok (.aload_n 3, 1) := by decide +kernel
theorem dX7_isToldForAnother_6 : decode cX7_isToldForAnother 6 = .ok (.arraylength, 1) := by decide +kernel
theorem dX7_isToldForAnother_7 : decode cX7_isToldForAnother 7 = .ok (.istore 4, 2) := by decide +kernel
theorem dX7_isToldForAnother_9 : decode cX7_isToldForAnother 9 = .ok (.iconst 0, 1) := by decide +kernel
theorem dX7_isToldForAnother_10 : decode cX7_isToldForAnother 10 = .ok (.istore 5, 2) := by decide +kernel
theorem dX7_isToldForAnother_12 : decode cX7_isToldForAnother 12 = .ok (.iload 5, 2) := by decide +kernel
theorem dX7_isToldForAnother_14 : decode cX7_isToldForAnother 14 = .ok (.iload 4, 2) := by decide +kernel
theorem dX7_isToldForAnother_16 : decode cX7_isToldForAnother 16 = .ok (.if_icmp .ge 37, 3) := by decide +kernel
theorem dX7_isToldForAnother_19 : decode cX7_isToldForAnother 19 = .ok (.aload_n 3, 1) := by decide +kernel
theorem dX7_isToldForAnother_20 : decode cX7_isToldForAnother 20 = .ok (.iload 5, 2) := by decide +kernel
theorem dX7_isToldForAnother_22 : decode cX7_isToldForAnother 22 = .ok (.aaload, 1) := by decide +kernel
theorem dX7_isToldForAnother_23 : decode cX7_isToldForAnother 23 = .ok (.astore 6, 2) := by decide +kernel
theorem dX7_isToldForAnother_25 : decode cX7_isToldForAnother 25 = .ok (.aload 6, 2) := by decide +kernel
theorem dX7_isToldForAnother_27 : decode cX7_isToldForAnother 27 = .ok (.ifnull 20, 3) := by decide +kernel
theorem dX7_isToldForAnother_30 : decode cX7_isToldForAnother 30 = .ok (.aload 6, 2) := by decide +kernel
theorem dX7_isToldForAnother_32 : decode cX7_isToldForAnother 32 = .ok (.aload_n 1, 1) := by decide +kernel
theorem dX7_isToldForAnother_33 : decode cX7_isToldForAnother 33 = .ok (.if_acmp .eq 14, 3) := by decide +kernel
theorem dX7_isToldForAnother_36 : decode cX7_isToldForAnother 36 = .ok (.aload 6, 2) := by decide +kernel
theorem dX7_isToldForAnother_38 : decode cX7_isToldForAnother 38 = .ok (.getfield 231, 3) := by decide +kernel
theorem dX7_isToldForAnother_41 : decode cX7_isToldForAnother 41 = .ok (.iload_n 2, 1) := by decide +kernel
theorem dX7_isToldForAnother_42 : decode cX7_isToldForAnother 42 = .ok (.if_icmp .ne 5, 3) := by decide +kernel
theorem dX7_isToldForAnother_45 : decode cX7_isToldForAnother 45 = .ok (.iconst 1, 1) := by decide +kernel
theorem dX7_isToldForAnother_46 : decode cX7_isToldForAnother 46 = .ok (.ireturn, 1) := by decide +kernel
theorem dX7_isToldForAnother_47 : decode cX7_isToldForAnother 47 = .ok (.iinc 5 1, 3) := by decide +kernel
theorem dX7_isToldForAnother_50 : decode cX7_isToldForAnother 50 = .ok (.goto (-38), 3) := by decide +kernel
theorem dX7_isToldForAnother_53 : decode cX7_isToldForAnother 53 = .ok (.iconst 0, 1) := by decide +kernel
theorem dX7_isToldForAnother_54 : decode cX7_isToldForAnother 54 = .ok (.ireturn, 1) := by decide +kernel
set_option maxRecDepth 20000 in
theorem ggX7_sell_X0_legAt : GoodIn wsX7_sell wsX0_legAt := goodIn_r _ [7, 8, 9, 40, 41, 42, 43, 44] rfl (by decide +kernel)
set_option maxRecDepth 20000 in
theorem gX7_sell_X0_legAt : GoodIn wsX7_sell (wsV RX7 280 RX0 yX0_legAt wsX0_legAt) := goodIn_app (goodIn_of _ (by decide +kernel)) ggX7_sell_X0_legAt
set_option maxRecDepth 20000 in
theorem ggX7_sell_X2_takeOff : GoodIn wsX7_sell wsX2_takeOff := goodIn_r _ [14, 15, 26, 27, 28, 29, 30, 31, 32, 33, 34, 35, 36, 37, 38, 39, 45] rfl (by decide +kernel)
set_option maxRecDepth 20000 in
theorem gX7_sell_X2_takeOff : GoodIn wsX7_sell (wsV RX7 120 RX2 yX2_takeOff wsX2_takeOff) := goodIn_app (goodIn_of _ (by decide +kernel)) ggX7_sell_X2_takeOff
theorem dX7_sell_0 : decode cX7_sell 0 = .ok (.iconst 0, 1) := by decide +kernel
theorem dX7_sell_1 : decode cX7_sell 1 = .ok (.istore_n 2, 1) := by decide +kernel
theorem dX7_sell_2 : decode cX7_sell 2 = .ok (.iconst 0, 1) := by decide +kernel
theorem dX7_sell_3 : decode cX7_sell 3 = .ok (.istore_n 3, 1) := by decide +kernel
theorem dX7_sell_4 : decode cX7_sell 4 = .ok (.iload_n 3, 1) := by decide +kernel
theorem dX7_sell_5 : decode cX7_sell 5 = .ok (.bipush 14, 2) := by decide +kernel
theorem dX7_sell_7 : decode cX7_sell 7 = .ok (.if_icmp .ge 55, 3) := by decide +kernel
theorem dX7_sell_10 : decode cX7_sell 10 = .ok (.iload_n 1, 1) := by decide +kernel
theorem dX7_sell_11 : decode cX7_sell 11 = .ok (.iload_n 3, 1) := by decide +kernel
theorem dX7_sell_12 : decode cX7_sell 12 = .ok (.ishr, 1) := by decide +kernel
theorem dX7_sell_13 : decode cX7_sell 13 = .ok (.iconst 1, 1) := by decide +kernel
theorem dX7_sell_14 : decode cX7_sell 14 = .ok (.iand, 1) := by decide +kernel
theorem dX7_sell_15 : decode cX7_sell 15 = .ok (.iconst 1, 1) := by decide +kernel
theorem dX7_sell_16 : decode cX7_sell 16 = .ok (.if_icmp .ne 14, 3) := by decide +kernel
theorem dX7_sell_19 : decode cX7_sell 19 = .ok (.aload_n 0, 1) := by decide +kernel
theorem dX7_sell_20 : decode cX7_sell 20 = .ok (.getfield 59, 3) := by decide +kernel
theorem dX7_sell_23 : decode cX7_sell 23 = .ok (.iload_n 3, 1) := by decide +kernel
theorem dX7_sell_24 : decode cX7_sell 24 = .ok (.invokevirtual 280, 3) := by decide +kernel
theorem dX7_sell_27 : decode cX7_sell 27 = .ok (.goto 4, 3) := by decide +kernel
theorem dX7_sell_30 : decode cX7_sell 30 = .ok (.aconst_null, 1) := by decide +kernel
theorem dX7_sell_31 : decode cX7_sell 31 = .ok (.astore 4, 2) := by decide +kernel
theorem dX7_sell_33 : decode cX7_sell 33 = .ok (.aload 4, 2) := by decide +kernel
theorem dX7_sell_35 : decode cX7_sell 35 = .ok (.ifnull 21, 3) := by decide +kernel
theorem dX7_sell_38 : decode cX7_sell 38 = .ok (.aload_n 0, 1) := by decide +kernel
theorem dX7_sell_39 : decode cX7_sell 39 = .ok (.getfield 18, 3) := by decide +kernel
theorem dX7_sell_42 : decode cX7_sell 42 = .ok (.aload 4, 2) := by decide +kernel
theorem dX7_sell_44 : decode cX7_sell 44 = .ok (.invokevirtual 120, 3) := by decide +kernel
theorem dX7_sell_47 : decode cX7_sell 47 = .ok (.aload 4, 2) := by decide +kernel
theorem dX7_sell_49 : decode cX7_sell 49 = .ok (.iconst 1, 1) := by decide +kernel
theorem dX7_sell_50 : decode cX7_sell 50 = .ok (.putfield 113, 3) := by decide +kernel
theorem dX7_sell_53 : decode cX7_sell 53 = .ok (.iinc 2 1, 3) := by decide +kernel
theorem dX7_sell_56 : decode cX7_sell 56 = .ok (.iinc 3 1, 3) := by decide +kernel
theorem dX7_sell_59 : decode cX7_sell 59 = .ok (.goto (-55), 3) := by decide +kernel
theorem dX7_sell_62 : decode cX7_sell 62 = .ok (.iload_n 2, 1) := by decide +kernel
theorem dX7_sell_63 : decode cX7_sell 63 = .ok (.ireturn, 1) := by decide +kernel
set_option maxRecDepth 20000 in
theorem ggX7_sumOfLegs_X7_shareOf : GoodIn wsX7_sumOfLegs wsX7_shareOf := goodIn_r _ [5, 6, 7, 8, 9, 10, 11, 12, 13, 4, 14, 25, 26, 27, 28, 29, 30, 31, 32, 33, 34, 35, 36, 37, 38] rfl (by decide +kernel)
set_option maxRecDepth 20000 in
theorem gX7_sumOfLegs_X7_shareOf : GoodIn wsX7_sumOfLegs (va_wsS RX7 281 yX7_shareOf wsX7_shareOf) := goodIn_app (goodIn_of _ (by decide +kernel)) ggX7_sumOfLegs_X7_shareOf
theorem dX7_sumOfLegs_0 : decode cX7_sumOfLegs 0 = .ok (.iconst 0, 1) := by decide +kernel
theorem dX7_sumOfLegs_1 : decode cX7_sumOfLegs 1 = .ok (.istore_n 2, 1) := by decide +kernel
theorem dX7_sumOfLegs_2 : decode cX7_sumOfLegs 2 = .ok (.aload_n 0, 1) := by decide +kernel
theorem dX7_sumOfLegs_3 : decode cX7_sumOfLegs 3 = .ok (.getfield 11, 3) := by decide +kernel
theorem dX7_sumOfLegs_6 : decode cX7_sumOfLegs 6 = .ok (.astore_n 3, 1) := by decide +kernel
theorem dX7_sumOfLegs_7 : decode cX7_sumOfLegs 7 = .ok (.aload_n 3, 1) := by decide +kernel
theorem dX7_sumOfLegs_8 : decode cX7_sumOfLegs 8 = .ok (.arraylength, 1) := by decide +kernel
theorem dX7_sumOfLegs_9 : decode cX7_sumOfLegs 9 = .ok (.istore 4, 2) := by decide +kernel
theorem dX7_sumOfLegs_11 : decode cX7_sumOfLegs 11 = .ok (.iconst 0, 1) := by decide +kernel
theorem dX7_sumOfLegs_12 : decode cX7_sumOfLegs 12 = .ok (.istore 5, 2) := by decide +kernel
theorem dX7_sumOfLegs_14 : decode cX7_sumOfLegs 14 = .ok (.iload 5, 2) := by decide +kernel
theorem dX7_sumOfLegs_16 : decode cX7_sumOfLegs 16 = .ok (.iload 4, 2) := by decide +kernel
theorem dX7_sumOfLegs_18 : decode cX7_sumOfLegs 18 = .ok (.if_icmp .ge 29, 3) := by decide +kernel
theorem dX7_sumOfLegs_21 : decode cX7_sumOfLegs 21 = .ok (.aload_n 3, 1) := by decide +kernel
theorem dX7_sumOfLegs_22 : decode cX7_sumOfLegs 22 = .ok (.iload 5, 2) := by decide +kernel
theorem dX7_sumOfLegs_24 : decode cX7_sumOfLegs 24 = .ok (.aaload, 1) := by decide +kernel
theorem dX7_sumOfLegs_25 : decode cX7_sumOfLegs 25 = .ok (.astore 6, 2) := by decide +kernel
theorem dX7_sumOfLegs_27 : decode cX7_sumOfLegs 27 = .ok (.aload 6, 2) := by decide +kernel
theorem dX7_sumOfLegs_29 : decode cX7_sumOfLegs 29 = .ok (.ifnull 12, 3) := by decide +kernel
theorem dX7_sumOfLegs_32 : decode cX7_sumOfLegs 32 = .ok (.iload_n 2, 1) := by decide +kernel
theorem dX7_sumOfLegs_33 : decode cX7_sumOfLegs 33 = .ok (.aload 6, 2) := by decide +kernel
theorem dX7_sumOfLegs_35 : decode cX7_sumOfLegs 35 = .ok (.iload_n 1, 1) := by decide +kernel
theorem dX7_sumOfLegs_36 : decode cX7_sumOfLegs 36 = .ok (.invokestatic 281, 3) := by decide +kernel
theorem dX7_sumOfLegs_39 : decode cX7_sumOfLegs 39 = .ok (.iadd, 1) := by decide +kernel
theorem dX7_sumOfLegs_40 : decode cX7_sumOfLegs 40 = .ok (.istore_n 2, 1) := by decide +kernel
theorem dX7_sumOfLegs_41 : decode cX7_sumOfLegs 41 = .ok (.iinc 5 1, 3) := by decide +kernel
theorem dX7_sumOfLegs_44 : decode cX7_sumOfLegs 44 = .ok (.goto (-30), 3) := by decide +kernel
theorem dX7_sumOfLegs_47 : decode cX7_sumOfLegs 47 = .ok (.iload_n 2, 1) := by decide +kernel
theorem dX7_sumOfLegs_48 : decode cX7_sumOfLegs 48 = .ok (.ireturn, 1) := by decide +kernel
set_option maxRecDepth 20000 in
theorem ggX7_shareOf_X3_hangs : GoodIn wsX7_shareOf wsX3_hangs := goodIn_r _ [5, 6, 11, 12, 13, 14, 15, 16, 17, 18, 19, 20, 21, 22, 23, 24] rfl (by decide +kernel)
set_option maxRecDepth 20000 in
theorem gX7_shareOf_X3_hangs : GoodIn wsX7_shareOf (wsV RX7 128 RX3 yX3_hangs wsX3_hangs) := goodIn_app (goodIn_of _ (by decide +kernel)) ggX7_shareOf_X3_hangs
set_option maxRecDepth 20000 in
theorem ggX7_shareOf_X7_oneIf : GoodIn wsX7_shareOf wsX7_oneIf := goodIn_r _ [10] rfl (by decide +kernel)
set_option maxRecDepth 20000 in
theorem gX7_shareOf_X7_oneIf : GoodIn wsX7_shareOf (va_wsS RX7 196 yX7_oneIf wsX7_oneIf) := goodIn_app (goodIn_of _ (by decide +kernel)) ggX7_shareOf_X7_oneIf
theorem dX7_shareOf_0 : decode cX7_shareOf 0 = .ok (.iload_n 1, 1) := by decide +kernel
theorem dX7_shareOf_1 : decode cX7_shareOf 1 = .ok (.tableswitch 128 2 9 #[47, 55, 63, 71, 79, 95, 128, 111], 47) := by decide +kernel
theorem dX7_shareOf_48 : decode cX7_shareOf 48 = .ok (.aload_n 0, 1) := by decide +kernel
theorem dX7_shareOf_49 : decode cX7_shareOf 49 = .ok (.invokevirtual 128, 3) := by decide +kernel
theorem dX7_shareOf_52 : decode cX7_shareOf 52 = .ok (.invokestatic 196, 3) := by decide +kernel
theorem dX7_shareOf_55 : decode cX7_shareOf 55 = .ok (.ireturn, 1) := by decide +kernel
theorem dX7_shareOf_56 : decode cX7_shareOf 56 = .ok (.aload_n 0, 1) := by decide +kernel
theorem dX7_shareOf_57 : decode cX7_shareOf 57 = .ok (.getfield 175, 3) := by decide +kernel
theorem dX7_shareOf_60 : decode cX7_shareOf 60 = .ok (.invokestatic 196, 3) := by decide +kernel
theorem dX7_shareOf_63 : decode cX7_shareOf 63 = .ok (.ireturn, 1) := by decide +kernel
theorem dX7_shareOf_64 : decode cX7_shareOf 64 = .ok (.aload_n 0, 1) := by decide +kernel
theorem dX7_shareOf_65 : decode cX7_shareOf 65 = .ok (.getfield 206, 3) := by decide +kernel
theorem dX7_shareOf_68 : decode cX7_shareOf 68 = .ok (.invokestatic 196, 3) := by decide +kernel
theorem dX7_shareOf_71 : decode cX7_shareOf 71 = .ok (.ireturn, 1) := by decide +kernel
theorem dX7_shareOf_72 : decode cX7_shareOf 72 = .ok (.aload_n 0, 1) := by decide +kernel
theorem dX7_shareOf_73 : decode cX7_shareOf 73 = .ok (.getfield 113, 3) := by decide +kernel
theorem dX7_shareOf_76 : decode cX7_shareOf 76 = .ok (.invokestatic 196, 3) := by decide +kernel
theorem dX7_shareOf_79 : decode cX7_shareOf 79 = .ok (.ireturn, 1) := by decide +kernel
theorem dX7_shareOf_80 : decode cX7_shareOf 80 = .ok (.aload_n 0, 1) := by decide +kernel
theorem dX7_shareOf_81 : decode cX7_shareOf 81 = .ok (.getfield 113, 3) := by decide +kernel
theorem dX7_shareOf_84 : decode cX7_shareOf 84 = .ok (.ifCond .eq 7, 3) := by decide +kernel
theorem dX7_shareOf_87 : decode cX7_shareOf 87 = .ok (.iconst 0, 1) := by decide +kernel
theorem dX7_shareOf_88 : decode cX7_shareOf 88 = .ok (.goto 7, 3) := by decide +kernel
theorem dX7_shareOf_91 : decode cX7_shareOf 91 = .ok (.aload_n 0, 1) := by decide +kernel
theorem dX7_shareOf_92 : decode cX7_shareOf 92 = .ok (.getfield 184, 3) := by decide +kernel
theorem dX7_shareOf_95 : decode cX7_shareOf 95 = .ok (.ireturn, 1) := by decide +kernel
theorem dX7_shareOf_96 : decode cX7_shareOf 96 = .ok (.aload_n 0, 1) := by decide +kernel
theorem dX7_shareOf_97 : decode cX7_shareOf 97 = .ok (.getfield 113, 3) := by decide +kernel
theorem dX7_shareOf_100 : decode cX7_shareOf 100 = .ok (.ifCond .eq 10, 3) := by decide +kernel
theorem dX7_shareOf_103 : decode cX7_shareOf 103 = .ok (.aload_n 0, 1) := by decide +kernel
theorem dX7_shareOf_104 : decode cX7_shareOf 104 = .ok (.getfield 184, 3) := by decide +kernel
theorem dX7_shareOf_107 : decode cX7_shareOf 107 = .ok (.goto 4, 3) := by decide +kernel
theorem dX7_shareOf_110 : decode cX7_shareOf 110 = .ok (.iconst 0, 1) := by decide +kernel
theorem dX7_shareOf_111 : decode cX7_shareOf 111 = .ok (.ireturn, 1) := by decide +kernel
theorem dX7_shareOf_112 : decode cX7_shareOf 112 = .ok (.aload_n 0, 1) := by decide +kernel
theorem dX7_shareOf_113 : decode cX7_shareOf 113 = .ok (.getfield 231, 3) := by decide +kernel
theorem dX7_shareOf_116 : decode cX7_shareOf 116 = .ok (.iconst (-1), 1) := by decide +kernel
theorem dX7_shareOf_117 : decode cX7_shareOf 117 = .ok (.if_icmp .eq 7, 3) := by decide +kernel
theorem dX7_shareOf_120 : decode cX7_shareOf 120 = .ok (.iconst 1, 1) := by decide +kernel
theorem dX7_shareOf_121 : decode cX7_shareOf 121 = .ok (.goto 4, 3) := by decide +kernel
theorem dX7_shareOf_124 : decode cX7_shareOf 124 = .ok (.iconst 0, 1) := by decide +kernel
theorem dX7_shareOf_125 : decode cX7_shareOf 125 = .ok (.invokestatic 196, 3) := by decide +kernel
theorem dX7_shareOf_128 : decode cX7_shareOf 128 = .ok (.ireturn, 1) := by decide +kernel
theorem dX7_shareOf_129 : decode cX7_shareOf 129 = .ok (.iconst 0, 1) := by decide +kernel
theorem dX7_shareOf_130 : decode cX7_shareOf 130 = .ok (.ireturn, 1) := by decide +kernel
