theorem dX0_init_0 : decode cX0_init 0 = .ok (.aload_n 0, 1) := by decide +kernel
theorem dX0_init_1 : decode cX0_init 1 = .ok (.invokespecial 3, 3) := by decide +kernel
theorem dX0_init_4 : decode cX0_init 4 = .ok (.aload_n 0, 1) := by decide +kernel
theorem dX0_init_5 : decode cX0_init 5 = .ok (.bipush 14, 2) := by decide +kernel
theorem dX0_init_7 : decode cX0_init 7 = .ok (.anewarray 9, 3) := by decide +kernel
theorem dX0_init_10 : decode cX0_init 10 = .ok (.putfield 11, 3) := by decide +kernel
theorem dX0_init_13 : decode cX0_init 13 = .ok (.aload_n 0, 1) := by decide +kernel
theorem dX0_init_14 : decode cX0_init 14 = .ok (.bipush 14, 2) := by decide +kernel
theorem dX0_init_16 : decode cX0_init 16 = .ok (.newarray .int, 2) := by decide +kernel
theorem dX0_init_18 : decode cX0_init 18 = .ok (.putfield 17, 3) := by decide +kernel
theorem dX0_init_21 : decode cX0_init 21 = .ok (.aload_n 0, 1) := by decide +kernel
theorem dX0_init_22 : decode cX0_init 22 = .ok (.bipush 14, 2) := by decide +kernel
theorem dX0_init_24 : decode cX0_init 24 = .ok (.newarray .int, 2) := by decide +kernel
theorem dX0_init_26 : decode cX0_init 26 = .ok (.putfield 21, 3) := by decide +kernel
theorem dX0_init_29 : decode cX0_init 29 = .ok (.return_, 1) := by decide +kernel
theorem dX0_clear_0 : decode cX0_clear 0 = .ok (.aload_n 0, 1) := by decide +kernel
theorem dX0_clear_1 : decode cX0_clear 1 = .ok (.iconst 0, 1) := by decide +kernel
theorem dX0_clear_2 : decode cX0_clear 2 = .ok (.putfield 24, 3) := by decide +kernel
theorem dX0_clear_5 : decode cX0_clear 5 = .ok (.aload_n 0, 1) := by decide +kernel
theorem dX0_clear_6 : decode cX0_clear 6 = .ok (.iconst 0, 1) := by decide +kernel
theorem dX0_clear_7 : decode cX0_clear 7 = .ok (.putfield 28, 3) := by decide +kernel
theorem dX0_clear_10 : decode cX0_clear 10 = .ok (.return_, 1) := by decide +kernel
theorem dX0_offer_0 : decode cX0_offer 0 = .ok (.aload_n 0, 1) := by decide +kernel
theorem dX0_offer_1 : decode cX0_offer 1 = .ok (.getfield 24, 3) := by decide +kernel
theorem dX0_offer_4 : decode cX0_offer 4 = .ok (.ifCond .lt 71, 3) := by decide +kernel
theorem dX0_offer_7 : decode cX0_offer 7 = .ok (.aload_n 0, 1) := by decide +kernel
theorem dX0_offer_8 : decode cX0_offer 8 = .ok (.getfield 24, 3) := by decide +kernel
theorem dX0_offer_11 : decode cX0_offer 11 = .ok (.bipush 14, 2) := by decide +kernel
theorem dX0_offer_13 : decode cX0_offer 13 = .ok (.if_icmp .ge 62, 3) := by decide +kernel
theorem dX0_offer_16 : decode cX0_offer 16 = .ok (.aload_n 0, 1) := by decide +kernel
theorem dX0_offer_17 : decode cX0_offer 17 = .ok (.getfield 11, 3) := by decide +kernel
theorem dX0_offer_20 : decode cX0_offer 20 = .ok (.aload_n 0, 1) := by decide +kernel
theorem dX0_offer_21 : decode cX0_offer 21 = .ok (.getfield 24, 3) := by decide +kernel
theorem dX0_offer_24 : decode cX0_offer 24 = .ok (.aload_n 1, 1) := by decide +kernel
theorem dX0_offer_25 : decode cX0_offer 25 = .ok (.aastore, 1) := by decide +kernel
theorem dX0_offer_26 : decode cX0_offer 26 = .ok (.aload_n 0, 1) := by decide +kernel
theorem dX0_offer_27 : decode cX0_offer 27 = .ok (.getfield 17, 3) := by decide +kernel
theorem dX0_offer_30 : decode cX0_offer 30 = .ok (.aload_n 0, 1) := by decide +kernel
theorem dX0_offer_31 : decode cX0_offer 31 = .ok (.getfield 24, 3) := by decide +kernel
theorem dX0_offer_34 : decode cX0_offer 34 = .ok (.aload_n 1, 1) := by decide +kernel
theorem dX0_offer_35 : decode cX0_offer 35 = .ok (.getfield 31, 3) := by decide +kernel
theorem dX0_offer_38 : decode cX0_offer 38 = .ok (.iastore, 1) := by decide +kernel
theorem dX0_offer_39 : decode cX0_offer 39 = .ok (.aload_n 0, 1) := by decide +kernel
theorem dX0_offer_40 : decode cX0_offer 40 = .ok (.getfield 21, 3) := by decide +kernel
theorem dX0_offer_43 : decode cX0_offer 43 = .ok (.aload_n 0, 1) := by decide +kernel
theorem dX0_offer_44 : decode cX0_offer 44 = .ok (.getfield 24, 3) := by decide +kernel
theorem dX0_offer_47 : decode cX0_offer 47 = .ok (.aload_n 0, 1) := by decide +kernel
theorem dX0_offer_48 : decode cX0_offer 48 = .ok (.getfield 28, 3) := by decide +kernel
theorem dX0_offer_51 : decode cX0_offer 51 = .ok (.iastore, 1) := by decide +kernel
theorem dX0_offer_52 : decode cX0_offer 52 = .ok (.aload_n 0, 1) := by decide +kernel
theorem dX0_offer_53 : decode cX0_offer 53 = .ok (.dup, 1) := by decide +kernel
theorem dX0_offer_54 : decode cX0_offer 54 = .ok (.getfield 28, 3) := by decide +kernel
theorem dX0_offer_57 : decode cX0_offer 57 = .ok (.aload_n 1, 1) := by decide +kernel
theorem dX0_offer_58 : decode cX0_offer 58 = .ok (.getfield 31, 3) := by decide +kernel
theorem dX0_offer_61 : decode cX0_offer 61 = .ok (.iadd, 1) := by decide +kernel
theorem dX0_offer_62 : decode cX0_offer 62 = .ok (.putfield 28, 3) := by decide +kernel
theorem dX0_offer_65 : decode cX0_offer 65 = .ok (.aload_n 0, 1) := by decide +kernel
theorem dX0_offer_66 : decode cX0_offer 66 = .ok (.dup, 1) := by decide +kernel
theorem dX0_offer_67 : decode cX0_offer 67 = .ok (.getfield 24, 3) := by decide +kernel
theorem dX0_offer_70 : decode cX0_offer 70 = .ok (.iconst 1, 1) := by decide +kernel
theorem dX0_offer_71 : decode cX0_offer 71 = .ok (.iadd, 1) := by decide +kernel
theorem dX0_offer_72 : decode cX0_offer 72 = .ok (.putfield 24, 3) := by decide +kernel
theorem dX0_offer_75 : decode cX0_offer 75 = .ok (.return_, 1) := by decide +kernel
theorem dX0_legAt_0 : decode cX0_legAt 0 = .ok (.iload_n 1, 1) := by decide +kernel
theorem dX0_legAt_1 : decode cX0_legAt 1 = .ok (.ifCond .lt 26, 3) := by decide +kernel
theorem dX0_legAt_4 : decode cX0_legAt 4 = .ok (.iload_n 1, 1) := by decide +kernel
theorem dX0_legAt_5 : decode cX0_legAt 5 = .ok (.aload_n 0, 1) := by decide +kernel
theorem dX0_legAt_6 : decode cX0_legAt 6 = .ok (.getfield 24, 3) := by decide +kernel
theorem dX0_legAt_9 : decode cX0_legAt 9 = .ok (.if_icmp .ge 18, 3) := by decide +kernel
theorem dX0_legAt_12 : decode cX0_legAt 12 = .ok (.iload_n 1, 1) := by decide +kernel
theorem dX0_legAt_13 : decode cX0_legAt 13 = .ok (.bipush 14, 2) := by decide +kernel
theorem dX0_legAt_15 : decode cX0_legAt 15 = .ok (.if_icmp .ge 12, 3) := by decide +kernel
theorem dX0_legAt_18 : decode cX0_legAt 18 = .ok (.aload_n 0, 1) := by decide +kernel
theorem dX0_legAt_19 : decode cX0_legAt 19 = .ok (.getfield 11, 3) := by decide +kernel
theorem dX0_legAt_22 : decode cX0_legAt 22 = .ok (.iload_n 1, 1) := by decide +kernel
theorem dX0_legAt_23 : decode cX0_legAt 23 = .ok (.aaload, 1) := by decide +kernel
theorem dX0_legAt_24 : decode cX0_legAt 24 = .ok (.goto 4, 3) := by decide +kernel
theorem dX0_legAt_27 : decode cX0_legAt 27 = .ok (.aconst_null, 1) := by decide +kernel
theorem dX0_legAt_28 : decode cX0_legAt 28 = .ok (.areturn, 1) := by decide +kernel
set_option maxRecDepth 20000 in
theorem ggX0_leastSet_X0_changeOfWeight : GoodIn wsX0_leastSet wsX0_changeOfWeight := goodIn_r _ [7, 8, 9, 17, 18, 19, 20, 21] rfl (by decide +kernel)
set_option maxRecDepth 20000 in
theorem gX0_leastSet_X0_changeOfWeight : GoodIn wsX0_leastSet (wsV RX0 34 RX0 yX0_changeOfWeight wsX0_changeOfWeight) := goodIn_app (goodIn_of _ (by decide +kernel)) ggX0_leastSet_X0_changeOfWeight
set_option maxRecDepth 20000 in
theorem ggX0_leastSet_J6_bitCount_0f7a4 : GoodIn wsX0_leastSet wsJ6_bitCount_0f7a4 := goodIn_r _ [13, 14, 15, 16] rfl (by decide +kernel)
set_option maxRecDepth 20000 in
theorem gX0_leastSet_J6_bitCount_0f7a4 : GoodIn wsX0_leastSet (va_wsS RX0 38 yJ6_bitCount_0f7a4 wsJ6_bitCount_0f7a4) := goodIn_app (goodIn_of _ (by decide +kernel)) ggX0_leastSet_J6_bitCount_0f7a4
theorem dX0_leastSet_0 : decode cX0_leastSet 0 = .ok (.iconst 0, 1) := by decide +kernel
theorem dX0_leastSet_1 : decode cX0_leastSet 1 = .ok (.istore_n 2, 1) := by decide +kernel
theorem dX0_leastSet_2 : decode cX0_leastSet 2 = .ok (.iconst 0, 1) := by decide +kernel
theorem dX0_leastSet_3 : decode cX0_leastSet 3 = .ok (.istore_n 3, 1) := by decide +kernel
theorem dX0_leastSet_4 : decode cX0_leastSet 4 = .ok (.iconst 0, 1) := by decide +kernel
theorem dX0_leastSet_5 : decode cX0_leastSet 5 = .ok (.istore 4, 2) := by decide +kernel
theorem dX0_leastSet_7 : decode cX0_leastSet 7 = .ok (.iconst 1, 1) := by decide +kernel
theorem dX0_leastSet_8 : decode cX0_leastSet 8 = .ok (.istore 5, 2) := by decide +kernel
theorem dX0_leastSet_10 : decode cX0_leastSet 10 = .ok (.iload 5, 2) := by decide +kernel
theorem dX0_leastSet_12 : decode cX0_leastSet 12 = .ok (.iconst 1, 1) := by decide +kernel
theorem dX0_leastSet_13 : decode cX0_leastSet 13 = .ok (.aload_n 0, 1) := by decide +kernel
theorem dX0_leastSet_14 : decode cX0_leastSet 14 = .ok (.getfield 24, 3) := by decide +kernel
theorem dX0_leastSet_17 : decode cX0_leastSet 17 = .ok (.ishl, 1) := by decide +kernel
theorem dX0_leastSet_18 : decode cX0_leastSet 18 = .ok (.if_icmp .ge 80, 3) := by decide +kernel
theorem dX0_leastSet_21 : decode cX0_leastSet 21 = .ok (.aload_n 0, 1) := by decide +kernel
theorem dX0_leastSet_22 : decode cX0_leastSet 22 = .ok (.getfield 28, 3) := by decide +kernel
theorem dX0_leastSet_25 : decode cX0_leastSet 25 = .ok (.iload_n 1, 1) := by decide +kernel
theorem dX0_leastSet_26 : decode cX0_leastSet 26 = .ok (.if_icmp .lt 72, 3) := by decide +kernel
theorem dX0_leastSet_29 : decode cX0_leastSet 29 = .ok (.iload 4, 2) := by decide +kernel
theorem dX0_leastSet_31 : decode cX0_leastSet 31 = .ok (.aload_n 0, 1) := by decide +kernel
theorem dX0_leastSet_32 : decode cX0_leastSet 32 = .ok (.iload 5, 2) := by decide +kernel
theorem dX0_leastSet_34 : decode cX0_leastSet 34 = .ok (.invokevirtual 34, 3) := by decide +kernel
theorem dX0_leastSet_37 : decode cX0_leastSet 37 = .ok (.iadd, 1) := by decide +kernel
theorem dX0_leastSet_38 : decode cX0_leastSet 38 = .ok (.istore 4, 2) := by decide +kernel
theorem dX0_leastSet_40 : decode cX0_leastSet 40 = .ok (.iload_n 2, 1) := by decide +kernel
theorem dX0_leastSet_41 : decode cX0_leastSet 41 = .ok (.ifCond .eq 27, 3) := by decide +kernel
theorem dX0_leastSet_44 : decode cX0_leastSet 44 = .ok (.iload 4, 2) := by decide +kernel
theorem dX0_leastSet_46 : decode cX0_leastSet 46 = .ok (.iload_n 3, 1) := by decide +kernel
theorem dX0_leastSet_47 : decode cX0_leastSet 47 = .ok (.if_icmp .lt 21, 3) := by decide +kernel
theorem dX0_leastSet_50 : decode cX0_leastSet 50 = .ok (.iload 4, 2) := by decide +kernel
theorem dX0_leastSet_52 : decode cX0_leastSet 52 = .ok (.iload_n 3, 1) := by decide +kernel
theorem dX0_leastSet_53 : decode cX0_leastSet 53 = .ok (.if_icmp .ne 19, 3) := by decide +kernel
theorem dX0_leastSet_56 : decode cX0_leastSet 56 = .ok (.iload 5, 2) := by decide +kernel
theorem dX0_leastSet_58 : decode cX0_leastSet 58 = .ok (.invokestatic 38, 3) := by decide +kernel
theorem dX0_leastSet_61 : decode cX0_leastSet 61 = .ok (.iload_n 2, 1) := by decide +kernel
theorem dX0_leastSet_62 : decode cX0_leastSet 62 = .ok (.invokestatic 38, 3) := by decide +kernel
theorem dX0_leastSet_65 : decode cX0_leastSet 65 = .ok (.if_icmp .ge 7, 3) := by decide +kernel
theorem dX0_leastSet_68 : decode cX0_leastSet 68 = .ok (.iconst 1, 1) := by decide +kernel
theorem dX0_leastSet_69 : decode cX0_leastSet 69 = .ok (.goto 4, 3) := by decide +kernel
theorem dX0_leastSet_72 : decode cX0_leastSet 72 = .ok (.iconst 0, 1) := by decide +kernel
theorem dX0_leastSet_73 : decode cX0_leastSet 73 = .ok (.istore 6, 2) := by decide +kernel
theorem dX0_leastSet_75 : decode cX0_leastSet 75 = .ok (.iload 4, 2) := by decide +kernel
theorem dX0_leastSet_77 : decode cX0_leastSet 77 = .ok (.iload_n 1, 1) := by decide +kernel
theorem dX0_leastSet_78 : decode cX0_leastSet 78 = .ok (.if_icmp .lt 14, 3) := by decide +kernel
theorem dX0_leastSet_81 : decode cX0_leastSet 81 = .ok (.iload 6, 2) := by decide +kernel
theorem dX0_leastSet_83 : decode cX0_leastSet 83 = .ok (.ifCond .eq 9, 3) := by decide +kernel
theorem dX0_leastSet_86 : decode cX0_leastSet 86 = .ok (.iload 5, 2) := by decide +kernel
theorem dX0_leastSet_88 : decode cX0_leastSet 88 = .ok (.istore_n 2, 1) := by decide +kernel
theorem dX0_leastSet_89 : decode cX0_leastSet 89 = .ok (.iload 4, 2) := by decide +kernel
theorem dX0_leastSet_91 : decode cX0_leastSet 91 = .ok (.istore_n 3, 1) := by decide +kernel
theorem dX0_leastSet_92 : decode cX0_leastSet 92 = .ok (.iinc 5 1, 3) := by decide +kernel
theorem dX0_leastSet_95 : decode cX0_leastSet 95 = .ok (.goto (-85), 3) := by decide +kernel
theorem dX0_leastSet_98 : decode cX0_leastSet 98 = .ok (.iload_n 2, 1) := by decide +kernel
theorem dX0_leastSet_99 : decode cX0_leastSet 99 = .ok (.ireturn, 1) := by decide +kernel
theorem dX0_changeOfWeight_0 : decode cX0_changeOfWeight 0 = .ok (.iconst 0, 1) := by decide +kernel
theorem dX0_changeOfWeight_1 : decode cX0_changeOfWeight 1 = .ok (.istore_n 2, 1) := by decide +kernel
theorem dX0_changeOfWeight_2 : decode cX0_changeOfWeight 2 = .ok (.iload_n 2, 1) := by decide +kernel
theorem dX0_changeOfWeight_3 : decode cX0_changeOfWeight 3 = .ok (.bipush 13, 2) := by decide +kernel
theorem dX0_changeOfWeight_5 : decode cX0_changeOfWeight 5 = .ok (.if_icmp .ge 17, 3) := by decide +kernel
theorem dX0_changeOfWeight_8 : decode cX0_changeOfWeight 8 = .ok (.iload_n 1, 1) := by decide +kernel
theorem dX0_changeOfWeight_9 : decode cX0_changeOfWeight 9 = .ok (.iload_n 2, 1) := by decide +kernel
theorem dX0_changeOfWeight_10 : decode cX0_changeOfWeight 10 = .ok (.ishr, 1) := by decide +kernel
theorem dX0_changeOfWeight_11 : decode cX0_changeOfWeight 11 = .ok (.iconst 1, 1) := by decide +kernel
theorem dX0_changeOfWeight_12 : decode cX0_changeOfWeight 12 = .ok (.iand, 1) := by decide +kernel
theorem dX0_changeOfWeight_13 : decode cX0_changeOfWeight 13 = .ok (.ifCond .ne 9, 3) := by decide +kernel
theorem dX0_changeOfWeight_16 : decode cX0_changeOfWeight 16 = .ok (.iinc 2 1, 3) := by decide +kernel
theorem dX0_changeOfWeight_19 : decode cX0_changeOfWeight 19 = .ok (.goto (-17), 3) := by decide +kernel
theorem dX0_changeOfWeight_22 : decode cX0_changeOfWeight 22 = .ok (.aload_n 0, 1) := by decide +kernel
theorem dX0_changeOfWeight_23 : decode cX0_changeOfWeight 23 = .ok (.getfield 17, 3) := by decide +kernel
theorem dX0_changeOfWeight_26 : decode cX0_changeOfWeight 26 = .ok (.iload_n 2, 1) := by decide +kernel
theorem dX0_changeOfWeight_27 : decode cX0_changeOfWeight 27 = .ok (.iaload, 1) := by decide +kernel
theorem dX0_changeOfWeight_28 : decode cX0_changeOfWeight 28 = .ok (.aload_n 0, 1) := by decide +kernel
theorem dX0_changeOfWeight_29 : decode cX0_changeOfWeight 29 = .ok (.getfield 21, 3) := by decide +kernel
theorem dX0_changeOfWeight_32 : decode cX0_changeOfWeight 32 = .ok (.iload_n 2, 1) := by decide +kernel
theorem dX0_changeOfWeight_33 : decode cX0_changeOfWeight 33 = .ok (.iaload, 1) := by decide +kernel
theorem dX0_changeOfWeight_34 : decode cX0_changeOfWeight 34 = .ok (.isub, 1) := by decide +kernel
theorem dX0_changeOfWeight_35 : decode cX0_changeOfWeight 35 = .ok (.ireturn, 1) := by decide +kernel
theorem dX1_init_0 : decode cX1_init 0 = .ok (.aload_n 0, 1) := by decide +kernel
theorem dX1_init_1 : decode cX1_init 1 = .ok (.invokespecial 3, 3) := by decide +kernel
theorem dX1_init_4 : decode cX1_init 4 = .ok (.aload_n 0, 1) := by decide +kernel
theorem dX1_init_5 : decode cX1_init 5 = .ok (.bipush 60, 2) := by decide +kernel
theorem dX1_init_7 : decode cX1_init 7 = .ok (.newarray .int, 2) := by decide +kernel
theorem dX1_init_9 : decode cX1_init 9 = .ok (.putfield 9, 3) := by decide +kernel
theorem dX1_init_12 : decode cX1_init 12 = .ok (.aload_n 0, 1) := by decide +kernel
theorem dX1_init_13 : decode cX1_init 13 = .ok (.bipush 60, 2) := by decide +kernel
theorem dX1_init_15 : decode cX1_init 15 = .ok (.newarray .int, 2) := by decide +kernel
theorem dX1_init_17 : decode cX1_init 17 = .ok (.putfield 15, 3) := by decide +kernel
theorem dX1_init_20 : decode cX1_init 20 = .ok (.aload_n 0, 1) := by decide +kernel
theorem dX1_init_21 : decode cX1_init 21 = .ok (.bipush 60, 2) := by decide +kernel
theorem dX1_init_23 : decode cX1_init 23 = .ok (.newarray .int, 2) := by decide +kernel
theorem dX1_init_25 : decode cX1_init 25 = .ok (.putfield 18, 3) := by decide +kernel
theorem dX1_init_28 : decode cX1_init 28 = .ok (.aload_n 0, 1) := by decide +kernel
theorem dX1_init_29 : decode cX1_init 29 = .ok (.bipush 60, 2) := by decide +kernel
theorem dX1_init_31 : decode cX1_init 31 = .ok (.newarray .int, 2) := by decide +kernel
theorem dX1_init_33 : decode cX1_init 33 = .ok (.putfield 21, 3) := by decide +kernel
theorem dX1_init_36 : decode cX1_init 36 = .ok (.return_, 1) := by decide +kernel
theorem dX1_write_0 : decode cX1_write 0 = .ok (.aload_n 0, 1) := by decide +kernel
theorem dX1_write_1 : decode cX1_write 1 = .ok (.getfield 24, 3) := by decide +kernel
theorem dX1_write_4 : decode cX1_write 4 = .ok (.ifCond .lt 12, 3) := by decide +kernel
theorem dX1_write_7 : decode cX1_write 7 = .ok (.aload_n 0, 1) := by decide +kernel
theorem dX1_write_8 : decode cX1_write 8 = .ok (.getfield 24, 3) := by decide +kernel
theorem dX1_write_11 : decode cX1_write 11 = .ok (.bipush 60, 2) := by decide +kernel
theorem dX1_write_13 : decode cX1_write 13 = .ok (.if_icmp .lt 5, 3) := by decide +kernel
theorem dX1_write_16 : decode cX1_write 16 = .ok (.iconst 0, 1) := by decide +kernel
theorem dX1_write_17 : decode cX1_write 17 = .ok (.ireturn, 1) := by decide +kernel
theorem dX1_write_18 : decode cX1_write 18 = .ok (.aload_n 0, 1) := by decide +kernel
theorem dX1_write_19 : decode cX1_write 19 = .ok (.getfield 9, 3) := by decide +kernel
theorem dX1_write_22 : decode cX1_write 22 = .ok (.aload_n 0, 1) := by decide +kernel
theorem dX1_write_23 : decode cX1_write 23 = .ok (.getfield 24, 3) := by decide +kernel
theorem dX1_write_26 : decode cX1_write 26 = .ok (.iload_n 1, 1) := by decide +kernel
theorem dX1_write_27 : decode cX1_write 27 = .ok (.iastore, 1) := by decide +kernel
theorem dX1_write_28 : decode cX1_write 28 = .ok (.aload_n 0, 1) := by decide +kernel
theorem dX1_write_29 : decode cX1_write 29 = .ok (.getfield 15, 3) := by decide +kernel
theorem dX1_write_32 : decode cX1_write 32 = .ok (.aload_n 0, 1) := by decide +kernel
theorem dX1_write_33 : decode cX1_write 33 = .ok (.getfield 24, 3) := by decide +kernel
theorem dX1_write_36 : decode cX1_write 36 = .ok (.iload_n 2, 1) := by decide +kernel
theorem dX1_write_37 : decode cX1_write 37 = .ok (.iastore, 1) := by decide +kernel
theorem dX1_write_38 : decode cX1_write 38 = .ok (.aload_n 0, 1) := by decide +kernel
theorem dX1_write_39 : decode cX1_write 39 = .ok (.getfield 18, 3) := by decide +kernel
theorem dX1_write_42 : decode cX1_write 42 = .ok (.aload_n 0, 1) := by decide +kernel
theorem dX1_write_43 : decode cX1_write 43 = .ok (.getfield 24, 3) := by decide +kernel
theorem dX1_write_46 : decode cX1_write 46 = .ok (.iload_n 3, 1) := by decide +kernel
theorem dX1_write_47 : decode cX1_write 47 = .ok (.iastore, 1) := by decide +kernel
theorem dX1_write_48 : decode cX1_write 48 = .ok (.aload_n 0, 1) := by decide +kernel
theorem dX1_write_49 : decode cX1_write 49 = .ok (.getfield 21, 3) := by decide +kernel
theorem dX1_write_52 : decode cX1_write 52 = .ok (.aload_n 0, 1) := by decide +kernel
theorem dX1_write_53 : decode cX1_write 53 = .ok (.getfield 24, 3) := by decide +kernel
theorem dX1_write_56 : decode cX1_write 56 = .ok (.iload 4, 2) := by decide +kernel
theorem dX1_write_58 : decode cX1_write 58 = .ok (.iastore, 1) := by decide +kernel
theorem dX1_write_59 : decode cX1_write 59 = .ok (.aload_n 0, 1) := by decide +kernel
theorem dX1_write_60 : decode cX1_write 60 = .ok (.dup, 1) := by decide +kernel
theorem dX1_write_61 : decode cX1_write 61 = .ok (.getfield 24, 3) := by decide +kernel
theorem dX1_write_64 : decode cX1_write 64 = .ok (.iconst 1, 1) := by decide +kernel
theorem dX1_write_65 : decode cX1_write 65 = .ok (.iadd, 1) := by decide +kernel
theorem dX1_write_66 : decode cX1_write 66 = .ok (.putfield 24, 3) := by decide +kernel
theorem dX1_write_69 : decode cX1_write 69 = .ok (.iconst 1, 1) := by decide +kernel
theorem dX1_write_70 : decode cX1_write 70 = .ok (.ireturn, 1) := by decide +kernel
theorem dX1_find_0 : decode cX1_find 0 = .ok (.iconst 0, 1) := by decide +kernel
theorem dX1_find_1 : decode cX1_find 1 = .ok (.istore 4, 2) := by decide +kernel
theorem dX1_find_3 : decode cX1_find 3 = .ok (.iconst 0, 1) := by decide +kernel
theorem dX1_find_4 : decode cX1_find 4 = .ok (.istore 5, 2) := by decide +kernel
theorem dX1_find_6 : decode cX1_find 6 = .ok (.iconst 0, 1) := by decide +kernel
theorem dX1_find_7 : decode cX1_find 7 = .ok (.istore 6, 2) := by decide +kernel
theorem dX1_find_9 : decode cX1_find 9 = .ok (.iload 6, 2) := by decide +kernel
theorem dX1_find_11 : decode cX1_find 11 = .ok (.aload_n 0, 1) := by decide +kernel
theorem dX1_find_12 : decode cX1_find 12 = .ok (.getfield 24, 3) := by decide +kernel
theorem dX1_find_15 : decode cX1_find 15 = .ok (.if_icmp .ge 91, 3) := by decide +kernel
theorem dX1_find_18 : decode cX1_find 18 = .ok (.iload 6, 2) := by decide +kernel
theorem dX1_find_20 : decode cX1_find 20 = .ok (.bipush 60, 2) := by decide +kernel
theorem dX1_find_22 : decode cX1_find 22 = .ok (.if_icmp .ge 84, 3) := by decide +kernel
theorem dX1_find_25 : decode cX1_find 25 = .ok (.aload_n 0, 1) := by decide +kernel
theorem dX1_find_26 : decode cX1_find 26 = .ok (.getfield 9, 3) := by decide +kernel
theorem dX1_find_29 : decode cX1_find 29 = .ok (.iload 6, 2) := by decide +kernel
theorem dX1_find_31 : decode cX1_find 31 = .ok (.iaload, 1) := by decide +kernel
theorem dX1_find_32 : decode cX1_find 32 = .ok (.iload_n 1, 1) := by decide +kernel
theorem dX1_find_33 : decode cX1_find 33 = .ok (.if_icmp .ne 29, 3) := by decide +kernel
theorem dX1_find_36 : decode cX1_find 36 = .ok (.aload_n 0, 1) := by decide +kernel
theorem dX1_find_37 : decode cX1_find 37 = .ok (.getfield 21, 3) := by decide +kernel
theorem dX1_find_40 : decode cX1_find 40 = .ok (.iload 6, 2) := by decide +kernel
theorem dX1_find_42 : decode cX1_find 42 = .ok (.iaload, 1) := by decide +kernel
theorem dX1_find_43 : decode cX1_find 43 = .ok (.iload_n 3, 1) := by decide +kernel
theorem dX1_find_44 : decode cX1_find 44 = .ok (.if_icmp .gt 18, 3) := by decide +kernel
theorem dX1_find_47 : decode cX1_find 47 = .ok (.aload_n 0, 1) := by decide +kernel
theorem dX1_find_48 : decode cX1_find 48 = .ok (.getfield 15, 3) := by decide +kernel
theorem dX1_find_51 : decode cX1_find 51 = .ok (.iload 6, 2) := by decide +kernel
theorem dX1_find_53 : decode cX1_find 53 = .ok (.iaload, 1) := by decide +kernel
theorem dX1_find_54 : decode cX1_find 54 = .ok (.iload_n 2, 1) := by decide +kernel
theorem dX1_find_55 : decode cX1_find 55 = .ok (.if_icmp .gt 7, 3) := by decide +kernel
theorem dX1_find_58 : decode cX1_find 58 = .ok (.iconst 1, 1) := by decide +kernel
theorem dX1_find_59 : decode cX1_find 59 = .ok (.goto 4, 3) := by decide +kernel
theorem dX1_find_62 : decode cX1_find 62 = .ok (.iconst 0, 1) := by decide +kernel
theorem dX1_find_63 : decode cX1_find 63 = .ok (.istore 7, 2) := by decide +kernel
theorem dX1_find_65 : decode cX1_find 65 = .ok (.iload 7, 2) := by decide +kernel
theorem dX1_find_67 : decode cX1_find 67 = .ok (.ifCond .eq 33, 3) := by decide +kernel
theorem dX1_find_70 : decode cX1_find 70 = .ok (.aload_n 0, 1) := by decide +kernel
theorem dX1_find_71 : decode cX1_find 71 = .ok (.getfield 15, 3) := by decide +kernel
theorem dX1_find_74 : decode cX1_find 74 = .ok (.iload 6, 2) := by decide +kernel
theorem dX1_find_76 : decode cX1_find 76 = .ok (.iaload, 1) := by decide +kernel
theorem dX1_find_77 : decode cX1_find 77 = .ok (.iload 4, 2) := by decide +kernel
theorem dX1_find_79 : decode cX1_find 79 = .ok (.if_icmp .lt 21, 3) := by decide +kernel
theorem dX1_find_82 : decode cX1_find 82 = .ok (.aload_n 0, 1) := by decide +kernel
theorem dX1_find_83 : decode cX1_find 83 = .ok (.getfield 15, 3) := by decide +kernel
theorem dX1_find_86 : decode cX1_find 86 = .ok (.iload 6, 2) := by decide +kernel
theorem dX1_find_88 : decode cX1_find 88 = .ok (.iaload, 1) := by decide +kernel
theorem dX1_find_89 : decode cX1_find 89 = .ok (.istore 4, 2) := by decide +kernel
theorem dX1_find_91 : decode cX1_find 91 = .ok (.aload_n 0, 1) := by decide +kernel
theorem dX1_find_92 : decode cX1_find 92 = .ok (.getfield 18, 3) := by decide +kernel
theorem dX1_find_95 : decode cX1_find 95 = .ok (.iload 6, 2) := by decide +kernel
theorem dX1_find_97 : decode cX1_find 97 = .ok (.iaload, 1) := by decide +kernel
theorem dX1_find_98 : decode cX1_find 98 = .ok (.istore 5, 2) := by decide +kernel
theorem dX1_find_100 : decode cX1_find 100 = .ok (.iinc 6 1, 3) := by decide +kernel
theorem dX1_find_103 : decode cX1_find 103 = .ok (.goto (-94), 3) := by decide +kernel
theorem dX1_find_106 : decode cX1_find 106 = .ok (.iload 5, 2) := by decide +kernel
theorem dX1_find_108 : decode cX1_find 108 = .ok (.ireturn, 1) := by decide +kernel
theorem dX2_init_0 : decode cX2_init 0 = .ok (.aload_n 0, 1) := by decide +kernel
theorem dX2_init_1 : decode cX2_init 1 = .ok (.invokespecial 3, 3) := by decide +kernel
theorem dX2_init_4 : decode cX2_init 4 = .ok (.aload_n 0, 1) := by decide +kernel
theorem dX2_init_5 : decode cX2_init 5 = .ok (.bipush 60, 2) := by decide +kernel
theorem dX2_init_7 : decode cX2_init 7 = .ok (.anewarray 9, 3) := by decide +kernel
theorem dX2_init_10 : decode cX2_init 10 = .ok (.putfield 11, 3) := by decide +kernel
theorem dX2_init_13 : decode cX2_init 13 = .ok (.return_, 1) := by decide +kernel
theorem dX2_legAt_0 : decode cX2_legAt 0 = .ok (.iload_n 1, 1) := by decide +kernel
theorem dX2_legAt_1 : decode cX2_legAt 1 = .ok (.ifCond .lt 21, 3) := by decide +kernel
theorem dX2_legAt_4 : decode cX2_legAt 4 = .ok (.iload_n 1, 1) := by decide +kernel
theorem dX2_legAt_5 : decode cX2_legAt 5 = .ok (.aload_n 0, 1) := by decide +kernel
theorem dX2_legAt_6 : decode cX2_legAt 6 = .ok (.getfield 11, 3) := by decide +kernel
theorem dX2_legAt_9 : decode cX2_legAt 9 = .ok (.arraylength, 1) := by decide +kernel
theorem dX2_legAt_10 : decode cX2_legAt 10 = .ok (.if_icmp .ge 12, 3) := by decide +kernel
theorem dX2_legAt_13 : decode cX2_legAt 13 = .ok (.aload_n 0, 1) := by decide +kernel
theorem dX2_legAt_14 : decode cX2_legAt 14 = .ok (.getfield 11, 3) := by decide +kernel
theorem dX2_legAt_17 : decode cX2_legAt 17 = .ok (.iload_n 1, 1) := by decide +kernel
theorem dX2_legAt_18 : decode cX2_legAt 18 = .ok (.aaload, 1) := by decide +kernel
theorem dX2_legAt_19 : decode cX2_legAt 19 = .ok (.goto 4, 3) := by decide +kernel
theorem dX2_legAt_22 : decode cX2_legAt 22 = .ok (.aconst_null, 1) := by decide +kernel
theorem dX2_legAt_23 : decode cX2_legAt 23 = .ok (.areturn, 1) := by decide +kernel
theorem dX2_put_0 : decode cX2_put 0 = .ok (.iload_n 2, 1) := by decide +kernel
theorem dX2_put_1 : decode cX2_put 1 = .ok (.ifCond .lt 24, 3) := by decide +kernel
theorem dX2_put_4 : decode cX2_put 4 = .ok (.iload_n 2, 1) := by decide +kernel
theorem dX2_put_5 : decode cX2_put 5 = .ok (.aload_n 0, 1) := by decide +kernel
theorem dX2_put_6 : decode cX2_put 6 = .ok (.getfield 11, 3) := by decide +kernel
theorem dX2_put_9 : decode cX2_put 9 = .ok (.arraylength, 1) := by decide +kernel
theorem dX2_put_10 : decode cX2_put 10 = .ok (.if_icmp .ge 15, 3) := by decide +kernel
theorem dX2_put_13 : decode cX2_put 13 = .ok (.aload_n 0, 1) := by decide +kernel
theorem dX2_put_14 : decode cX2_put 14 = .ok (.getfield 11, 3) := by decide +kernel
theorem dX2_put_17 : decode cX2_put 17 = .ok (.iload_n 2, 1) := by decide +kernel
theorem dX2_put_18 : decode cX2_put 18 = .ok (.aload_n 1, 1) := by decide +kernel
theorem dX2_put_19 : decode cX2_put 19 = .ok (.aastore, 1) := by decide +kernel
theorem dX2_put_20 : decode cX2_put 20 = .ok (.aload_n 1, 1) := by decide +kernel
theorem dX2_put_21 : decode cX2_put 21 = .ok (.iload_n 2, 1) := by decide +kernel
theorem dX2_put_22 : decode cX2_put 22 = .ok (.putfield 17, 3) := by decide +kernel
theorem dX2_put_25 : decode cX2_put 25 = .ok (.return_, 1) := by decide +kernel
theorem dX2_takeOff_0 : decode cX2_takeOff 0 = .ok (.aload_n 1, 1) := by decide +kernel
theorem dX2_takeOff_1 : decode cX2_takeOff 1 = .ok (.getfield 17, 3) := by decide +kernel
theorem dX2_takeOff_4 : decode cX2_takeOff 4 = .ok (.istore_n 2, 1) := by decide +kernel
theorem dX2_takeOff_5 : decode cX2_takeOff 5 = .ok (.iload_n 2, 1) := by decide +kernel
theorem dX2_takeOff_6 : decode cX2_takeOff 6 = .ok (.ifCond .lt 19, 3) := by decide +kernel
theorem dX2_takeOff_9 : decode cX2_takeOff 9 = .ok (.iload_n 2, 1) := by decide +kernel
theorem dX2_takeOff_10 : decode cX2_takeOff 10 = .ok (.aload_n 0, 1) := by decide +kernel
theorem dX2_takeOff_11 : decode cX2_takeOff 11 = .ok (.getfield 11, 3) := by decide +kernel
theorem dX2_takeOff_14 : decode cX2_takeOff 14 = .ok (.arraylength, 1) := by decide +kernel
theorem dX2_takeOff_15 : decode cX2_takeOff 15 = .ok (.if_icmp .ge 10, 3) := by decide +kernel
theorem dX2_takeOff_18 : decode cX2_takeOff 18 = .ok (.aload_n 0, 1) := by decide +kernel
theorem dX2_takeOff_19 : decode cX2_takeOff 19 = .ok (.getfield 11, 3) := by decide +kernel
theorem dX2_takeOff_22 : decode cX2_takeOff 22 = .ok (.iload_n 2, 1) := by decide +kernel
theorem dX2_takeOff_23 : decode cX2_takeOff 23 = .ok (.aconst_null, 1) := by decide +kernel
theorem dX2_takeOff_24 : decode cX2_takeOff 24 = .ok (.aastore, 1) := by decide +kernel
theorem dX2_takeOff_25 : decode cX2_takeOff 25 = .ok (.aload_n 1, 1) := by decide +kernel
theorem dX2_takeOff_26 : decode cX2_takeOff 26 = .ok (.iconst (-1), 1) := by decide +kernel
theorem dX2_takeOff_27 : decode cX2_takeOff 27 = .ok (.putfield 17, 3) := by decide +kernel
theorem dX2_takeOff_30 : decode cX2_takeOff 30 = .ok (.return_, 1) := by decide +kernel
set_option maxRecDepth 20000 in
theorem ggX2_leastMoves_X2_isTargetKept : GoodIn wsX2_leastMoves wsX2_isTargetKept := goodIn_r _ [6, 7, 8, 9, 5, 10, 1, 16, 17, 18, 19, 20, 21, 22, 23, 24, 25, 26, 27, 28, 29, 15] rfl (by decide +kernel)
set_option maxRecDepth 20000 in
theorem gX2_leastMoves_X2_isTargetKept : GoodIn wsX2_leastMoves (wsV RX2 24 RX2 yX2_isTargetKept wsX2_isTargetKept) := goodIn_app (goodIn_of _ (by decide +kernel)) ggX2_leastMoves_X2_isTargetKept
set_option maxRecDepth 20000 in
theorem ggX2_leastMoves_X2_leadsRing : GoodIn wsX2_leastMoves wsX2_leadsRing := goodIn_r _ [14, 7, 8, 9, 5, 10, 1, 16, 17, 18, 19, 20, 21, 22, 23, 24, 25, 26, 27, 28, 29, 15] rfl (by decide +kernel)
set_option maxRecDepth 20000 in
theorem gX2_leastMoves_X2_leadsRing : GoodIn wsX2_leastMoves (wsV RX2 28 RX2 yX2_leadsRing wsX2_leadsRing) := goodIn_app (goodIn_of _ (by decide +kernel)) ggX2_leastMoves_X2_leadsRing
theorem dX2_leastMoves_0 : decode cX2_leastMoves 0 = .ok (.iconst 0, 1) := by decide +kernel
theorem dX2_leastMoves_1 : decode cX2_leastMoves 1 = .ok (.istore_n 1, 1) := by decide +kernel
theorem dX2_leastMoves_2 : decode cX2_leastMoves 2 = .ok (.iconst 0, 1) := by decide +kernel
theorem dX2_leastMoves_3 : decode cX2_leastMoves 3 = .ok (.istore_n 2, 1) := by decide +kernel
theorem dX2_leastMoves_4 : decode cX2_leastMoves 4 = .ok (.iconst 0, 1) := by decide +kernel
theorem dX2_leastMoves_5 : decode cX2_leastMoves 5 = .ok (.istore_n 3, 1) := by decide +kernel
theorem dX2_leastMoves_6 : decode cX2_leastMoves 6 = .ok (.bipush 10, 2) := by decide +kernel
theorem dX2_leastMoves_8 : decode cX2_leastMoves 8 = .ok (.istore 4, 2) := by decide +kernel
theorem dX2_leastMoves_10 : decode cX2_leastMoves 10 = .ok (.iload 4, 2) := by decide +kernel
theorem dX2_leastMoves_12 : decode cX2_leastMoves 12 = .ok (.aload_n 0, 1) := by decide +kernel
theorem dX2_leastMoves_13 : decode cX2_leastMoves 13 = .ok (.getfield 11, 3) := by decide +kernel
theorem dX2_leastMoves_16 : decode cX2_leastMoves 16 = .ok (.arraylength, 1) := by decide +kernel
theorem dX2_leastMoves_17 : decode cX2_leastMoves 17 = .ok (.if_icmp .ge 79, 3) := by decide +kernel
theorem dX2_leastMoves_20 : decode cX2_leastMoves 20 = .ok (.aload_n 0, 1) := by decide +kernel
theorem dX2_leastMoves_21 : decode cX2_leastMoves 21 = .ok (.getfield 11, 3) := by decide +kernel
theorem dX2_leastMoves_24 : decode cX2_leastMoves 24 = .ok (.iload 4, 2) := by decide +kernel
theorem dX2_leastMoves_26 : decode cX2_leastMoves 26 = .ok (.aaload, 1) := by decide +kernel
theorem dX2_leastMoves_27 : decode cX2_leastMoves 27 = .ok (.astore 5, 2) := by decide +kernel
theorem dX2_leastMoves_29 : decode cX2_leastMoves 29 = .ok (.aload 5, 2) := by decide +kernel
theorem dX2_leastMoves_31 : decode cX2_leastMoves 31 = .ok (.ifnonnull 9, 3) := by decide +kernel
theorem dX2_leastMoves_34 : decode cX2_leastMoves 34 = .ok (.iinc 3 1, 3) := by decide +kernel
theorem dX2_leastMoves_37 : decode cX2_leastMoves 37 = .ok (.goto 53, 3) := by decide +kernel
theorem dX2_leastMoves_40 : decode cX2_leastMoves 40 = .ok (.aload 5, 2) := by decide +kernel
theorem dX2_leastMoves_42 : decode cX2_leastMoves 42 = .ok (.getfield 21, 3) := by decide +kernel
theorem dX2_leastMoves_45 : decode cX2_leastMoves 45 = .ok (.iconst (-1), 1) := by decide +kernel
theorem dX2_leastMoves_46 : decode cX2_leastMoves 46 = .ok (.if_icmp .eq 44, 3) := by decide +kernel
theorem dX2_leastMoves_49 : decode cX2_leastMoves 49 = .ok (.aload 5, 2) := by decide +kernel
theorem dX2_leastMoves_51 : decode cX2_leastMoves 51 = .ok (.getfield 21, 3) := by decide +kernel
theorem dX2_leastMoves_54 : decode cX2_leastMoves 54 = .ok (.iload 4, 2) := by decide +kernel
theorem dX2_leastMoves_56 : decode cX2_leastMoves 56 = .ok (.if_icmp .eq 34, 3) := by decide +kernel
theorem dX2_leastMoves_59 : decode cX2_leastMoves 59 = .ok (.aload_n 0, 1) := by decide +kernel
theorem dX2_leastMoves_60 : decode cX2_leastMoves 60 = .ok (.aload 5, 2) := by decide +kernel
theorem dX2_leastMoves_62 : decode cX2_leastMoves 62 = .ok (.invokevirtual 24, 3) := by decide +kernel
theorem dX2_leastMoves_65 : decode cX2_leastMoves 65 = .ok (.ifCond .eq 5, 3) := by decide +kernel
theorem dX2_leastMoves_68 : decode cX2_leastMoves 68 = .ok (.iconst (-1), 1) := by decide +kernel
theorem dX2_leastMoves_69 : decode cX2_leastMoves 69 = .ok (.ireturn, 1) := by decide +kernel
theorem dX2_leastMoves_70 : decode cX2_leastMoves 70 = .ok (.iinc 1 1, 3) := by decide +kernel
theorem dX2_leastMoves_73 : decode cX2_leastMoves 73 = .ok (.iload_n 2, 1) := by decide +kernel
theorem dX2_leastMoves_74 : decode cX2_leastMoves 74 = .ok (.aload_n 0, 1) := by decide +kernel
theorem dX2_leastMoves_75 : decode cX2_leastMoves 75 = .ok (.aload 5, 2) := by decide +kernel
theorem dX2_leastMoves_77 : decode cX2_leastMoves 77 = .ok (.invokevirtual 28, 3) := by decide +kernel
theorem dX2_leastMoves_80 : decode cX2_leastMoves 80 = .ok (.ifCond .eq 7, 3) := by decide +kernel
theorem dX2_leastMoves_83 : decode cX2_leastMoves 83 = .ok (.iconst 1, 1) := by decide +kernel
theorem dX2_leastMoves_84 : decode cX2_leastMoves 84 = .ok (.goto 4, 3) := by decide +kernel
theorem dX2_leastMoves_87 : decode cX2_leastMoves 87 = .ok (.iconst 0, 1) := by decide +kernel
theorem dX2_leastMoves_88 : decode cX2_leastMoves 88 = .ok (.iadd, 1) := by decide +kernel
theorem dX2_leastMoves_89 : decode cX2_leastMoves 89 = .ok (.istore_n 2, 1) := by decide +kernel
theorem dX2_leastMoves_90 : decode cX2_leastMoves 90 = .ok (.iinc 4 1, 3) := by decide +kernel
theorem dX2_leastMoves_93 : decode cX2_leastMoves 93 = .ok (.goto (-83), 3) := by decide +kernel
theorem dX2_leastMoves_96 : decode cX2_leastMoves 96 = .ok (.iload_n 2, 1) := by decide +kernel
theorem dX2_leastMoves_97 : decode cX2_leastMoves 97 = .ok (.ifCond .le 11, 3) := by decide +kernel
theorem dX2_leastMoves_100 : decode cX2_leastMoves 100 = .ok (.iload_n 3, 1) := by decide +kernel
theorem dX2_leastMoves_101 : decode cX2_leastMoves 101 = .ok (.ifCond .ne 7, 3) := by decide +kernel
theorem dX2_leastMoves_104 : decode cX2_leastMoves 104 = .ok (.iconst (-1), 1) := by decide +kernel
theorem dX2_leastMoves_105 : decode cX2_leastMoves 105 = .ok (.goto 6, 3) := by decide +kernel
theorem dX2_leastMoves_108 : decode cX2_leastMoves 108 = .ok (.iload_n 1, 1) := by decide +kernel
theorem dX2_leastMoves_109 : decode cX2_leastMoves 109 = .ok (.iload_n 2, 1) := by decide +kernel
theorem dX2_leastMoves_110 : decode cX2_leastMoves 110 = .ok (.iadd, 1) := by decide +kernel
theorem dX2_leastMoves_111 : decode cX2_leastMoves 111 = .ok (.ireturn, 1) := by decide +kernel
set_option maxRecDepth 20000 in
theorem ggX2_isTargetKept_X2_legAt : GoodIn wsX2_isTargetKept wsX2_legAt := goodIn_r _ [5, 6, 21] rfl (by decide +kernel)
set_option maxRecDepth 20000 in
theorem gX2_isTargetKept_X2_legAt : GoodIn wsX2_isTargetKept (wsV RX2 31 RX2 yX2_legAt wsX2_legAt) := goodIn_app (goodIn_of _ (by decide +kernel)) ggX2_isTargetKept_X2_legAt
theorem dX2_isTargetKept_0 : decode cX2_isTargetKept 0 = .ok (.aload_n 0, 1) := by decide +kernel
theorem dX2_isTargetKept_1 : decode cX2_isTargetKept 1 = .ok (.aload_n 1, 1) := by decide +kernel
theorem dX2_isTargetKept_2 : decode cX2_isTargetKept 2 = .ok (.getfield 21, 3) := by decide +kernel
theorem dX2_isTargetKept_5 : decode cX2_isTargetKept 5 = .ok (.invokevirtual 31, 3) := by decide +kernel
theorem dX2_isTargetKept_8 : decode cX2_isTargetKept 8 = .ok (.astore_n 2, 1) := by decide +kernel
theorem dX2_isTargetKept_9 : decode cX2_isTargetKept 9 = .ok (.aload_n 2, 1) := by decide +kernel
theorem dX2_isTargetKept_10 : decode cX2_isTargetKept 10 = .ok (.ifnull 15, 3) := by decide +kernel
theorem dX2_isTargetKept_13 : decode cX2_isTargetKept 13 = .ok (.aload_n 2, 1) := by decide +kernel
theorem dX2_isTargetKept_14 : decode cX2_isTargetKept 14 = .ok (.getfield 21, 3) := by decide +kernel
theorem dX2_isTargetKept_17 : decode cX2_isTargetKept 17 = .ok (.iconst (-1), 1) := by decide +kernel
theorem dX2_isTargetKept_18 : decode cX2_isTargetKept 18 = .ok (.if_icmp .ne 7, 3) := by decide +kernel
theorem dX2_isTargetKept_21 : decode cX2_isTargetKept 21 = .ok (.iconst 1, 1) := by decide +kernel
theorem dX2_isTargetKept_22 : decode cX2_isTargetKept 22 = .ok (.goto 4, 3) := by decide +kernel
theorem dX2_isTargetKept_25 : decode cX2_isTargetKept 25 = .ok (.iconst 0, 1) := by decide +kernel
theorem dX2_isTargetKept_26 : decode cX2_isTargetKept 26 = .ok (.ireturn, 1) := by decide +kernel
set_option maxRecDepth 20000 in
theorem ggX2_leadsRing_X2_legAt : GoodIn wsX2_leadsRing wsX2_legAt := goodIn_r _ [5, 6, 21] rfl (by decide +kernel)
set_option maxRecDepth 20000 in
theorem gX2_leadsRing_X2_legAt : GoodIn wsX2_leadsRing (wsV RX2 31 RX2 yX2_legAt wsX2_legAt) := goodIn_app (goodIn_of _ (by decide +kernel)) ggX2_leadsRing_X2_legAt
theorem dX2_leadsRing_0 : decode cX2_leadsRing 0 = .ok (.aload_n 0, 1) := by decide +kernel
theorem dX2_leadsRing_1 : decode cX2_leadsRing 1 = .ok (.aload_n 1, 1) := by decide +kernel
theorem dX2_leadsRing_2 : decode cX2_leadsRing 2 = .ok (.getfield 21, 3) := by decide +kernel
theorem dX2_leadsRing_5 : decode cX2_leadsRing 5 = .ok (.invokevirtual 31, 3) := by decide +kernel
theorem dX2_leadsRing_8 : decode cX2_leadsRing 8 = .ok (.astore_n 2, 1) := by decide +kernel
theorem dX2_leadsRing_9 : decode cX2_leadsRing 9 = .ok (.iconst 0, 1) := by decide +kernel
theorem dX2_leadsRing_10 : decode cX2_leadsRing 10 = .ok (.istore_n 3, 1) := by decide +kernel
theorem dX2_leadsRing_11 : decode cX2_leadsRing 11 = .ok (.iload_n 3, 1) := by decide +kernel
theorem dX2_leadsRing_12 : decode cX2_leadsRing 12 = .ok (.bipush 60, 2) := by decide +kernel
theorem dX2_leadsRing_14 : decode cX2_leadsRing 14 = .ok (.if_icmp .ge 40, 3) := by decide +kernel
theorem dX2_leadsRing_17 : decode cX2_leadsRing 17 = .ok (.aload_n 2, 1) := by decide +kernel
theorem dX2_leadsRing_18 : decode cX2_leadsRing 18 = .ok (.ifnull 36, 3) := by decide +kernel
theorem dX2_leadsRing_21 : decode cX2_leadsRing 21 = .ok (.aload_n 2, 1) := by decide +kernel
theorem dX2_leadsRing_22 : decode cX2_leadsRing 22 = .ok (.aload_n 1, 1) := by decide +kernel
theorem dX2_leadsRing_23 : decode cX2_leadsRing 23 = .ok (.if_acmp .eq 31, 3) := by decide +kernel
theorem dX2_leadsRing_26 : decode cX2_leadsRing 26 = .ok (.aload_n 2, 1) := by decide +kernel
theorem dX2_leadsRing_27 : decode cX2_leadsRing 27 = .ok (.getfield 17, 3) := by decide +kernel
theorem dX2_leadsRing_30 : decode cX2_leadsRing 30 = .ok (.aload_n 1, 1) := by decide +kernel
theorem dX2_leadsRing_31 : decode cX2_leadsRing 31 = .ok (.getfield 17, 3) := by decide +kernel
theorem dX2_leadsRing_34 : decode cX2_leadsRing 34 = .ok (.if_icmp .ge 5, 3) := by decide +kernel
theorem dX2_leadsRing_37 : decode cX2_leadsRing 37 = .ok (.iconst 0, 1) := by decide +kernel
theorem dX2_leadsRing_38 : decode cX2_leadsRing 38 = .ok (.ireturn, 1) := by decide +kernel
theorem dX2_leadsRing_39 : decode cX2_leadsRing 39 = .ok (.aload_n 0, 1) := by decide +kernel
theorem dX2_leadsRing_40 : decode cX2_leadsRing 40 = .ok (.aload_n 2, 1) := by decide +kernel
theorem dX2_leadsRing_41 : decode cX2_leadsRing 41 = .ok (.getfield 21, 3) := by decide +kernel
theorem dX2_leadsRing_44 : decode cX2_leadsRing 44 = .ok (.invokevirtual 31, 3) := by decide +kernel
theorem dX2_leadsRing_47 : decode cX2_leadsRing 47 = .ok (.astore_n 2, 1) := by decide +kernel
theorem dX2_leadsRing_48 : decode cX2_leadsRing 48 = .ok (.iinc 3 1, 3) := by decide +kernel
theorem dX2_leadsRing_51 : decode cX2_leadsRing 51 = .ok (.goto (-40), 3) := by decide +kernel
theorem dX2_leadsRing_54 : decode cX2_leadsRing 54 = .ok (.aload_n 2, 1) := by decide +kernel
theorem dX2_leadsRing_55 : decode cX2_leadsRing 55 = .ok (.aload_n 1, 1) := by decide +kernel
theorem dX2_leadsRing_56 : decode cX2_leadsRing 56 = .ok (.if_acmp .ne 7, 3) := by decide +kernel
theorem dX2_leadsRing_59 : decode cX2_leadsRing 59 = .ok (.iconst 1, 1) := by decide +kernel
theorem dX2_leadsRing_60 : decode cX2_leadsRing 60 = .ok (.goto 4, 3) := by decide +kernel
theorem dX2_leadsRing_63 : decode cX2_leadsRing 63 = .ok (.iconst 0, 1) := by decide +kernel
theorem dX2_leadsRing_64 : decode cX2_leadsRing 64 = .ok (.ireturn, 1) := by decide +kernel
theorem dX3_init_0 : decode cX3_init 0 = .ok (.aload_n 0, 1) := by decide +kernel
theorem dX3_init_1 : decode cX3_init 1 = .ok (.invokespecial 3, 3) := by decide +kernel
theorem dX3_init_4 : decode cX3_init 4 = .ok (.aload_n 0, 1) := by decide +kernel
theorem dX3_init_5 : decode cX3_init 5 = .ok (.iconst (-1), 1) := by decide +kernel
theorem dX3_init_6 : decode cX3_init 6 = .ok (.putfield 9, 3) := by decide +kernel
theorem dX3_init_9 : decode cX3_init 9 = .ok (.aload_n 0, 1) := by decide +kernel
theorem dX3_init_10 : decode cX3_init 10 = .ok (.iconst (-1), 1) := by decide +kernel
theorem dX3_init_11 : decode cX3_init 11 = .ok (.putfield 15, 3) := by decide +kernel
theorem dX3_init_14 : decode cX3_init 14 = .ok (.aload_n 0, 1) := by decide +kernel
theorem dX3_init_15 : decode cX3_init 15 = .ok (.iload_n 1, 1) := by decide +kernel
theorem dX3_init_16 : decode cX3_init 16 = .ok (.putfield 18, 3) := by decide +kernel
theorem dX3_init_19 : decode cX3_init 19 = .ok (.aload_n 0, 1) := by decide +kernel
theorem dX3_init_20 : decode cX3_init 20 = .ok (.iload_n 2, 1) := by decide +kernel
theorem dX3_init_21 : decode cX3_init 21 = .ok (.putfield 21, 3) := by decide +kernel
theorem dX3_init_24 : decode cX3_init 24 = .ok (.aload_n 0, 1) := by decide +kernel
theorem dX3_init_25 : decode cX3_init 25 = .ok (.iload_n 3, 1) := by decide +kernel
theorem dX3_init_26 : decode cX3_init 26 = .ok (.putfield 24, 3) := by decide +kernel
theorem dX3_init_29 : decode cX3_init 29 = .ok (.aload_n 0, 1) := by decide +kernel
theorem dX3_init_30 : decode cX3_init 30 = .ok (.iload 4, 2) := by decide +kernel
theorem dX3_init_32 : decode cX3_init 32 = .ok (.putfield 27, 3) := by decide +kernel
theorem dX3_init_35 : decode cX3_init 35 = .ok (.aload_n 0, 1) := by decide +kernel
theorem dX3_init_36 : decode cX3_init 36 = .ok (.iload 5, 2) := by decide +kernel
theorem dX3_init_38 : decode cX3_init 38 = .ok (.putfield 30, 3) := by decide +kernel
theorem dX3_init_41 : decode cX3_init 41 = .ok (.aload_n 0, 1) := by decide +kernel
theorem dX3_init_42 : decode cX3_init 42 = .ok (.iload 4, 2) := by decide +kernel
theorem dX3_init_44 : decode cX3_init 44 = .ok (.putfield 33, 3) := by decide +kernel
theorem dX3_init_47 : decode cX3_init 47 = .ok (.return_, 1) := by decide +kernel
theorem dX3_hangs_0 : decode cX3_hangs 0 = .ok (.aload_n 0, 1) := by decide +kernel
theorem dX3_hangs_1 : decode cX3_hangs 1 = .ok (.getfield 9, 3) := by decide +kernel
theorem dX3_hangs_4 : decode cX3_hangs 4 = .ok (.iconst (-1), 1) := by decide +kernel
theorem dX3_hangs_5 : decode cX3_hangs 5 = .ok (.if_icmp .eq 7, 3) := by decide +kernel
theorem dX3_hangs_8 : decode cX3_hangs 8 = .ok (.iconst 1, 1) := by decide +kernel
theorem dX3_hangs_9 : decode cX3_hangs 9 = .ok (.goto 4, 3) := by decide +kernel
theorem dX3_hangs_12 : decode cX3_hangs 12 = .ok (.iconst 0, 1) := by decide +kernel
theorem dX3_hangs_13 : decode cX3_hangs 13 = .ok (.ireturn, 1) := by decide +kernel
theorem dX3_hangsInAir_0 : decode cX3_hangsInAir 0 = .ok (.aload_n 0, 1) := by decide +kernel
theorem dX3_hangsInAir_1 : decode cX3_hangsInAir 1 = .ok (.getfield 9, 3) := by decide +kernel
theorem dX3_hangsInAir_4 : decode cX3_hangsInAir 4 = .ok (.bipush 10, 2) := by decide +kernel
theorem dX3_hangsInAir_6 : decode cX3_hangsInAir 6 = .ok (.if_icmp .lt 7, 3) := by decide +kernel
theorem dX3_hangsInAir_9 : decode cX3_hangsInAir 9 = .ok (.iconst 1, 1) := by decide +kernel
theorem dX3_hangsInAir_10 : decode cX3_hangsInAir 10 = .ok (.goto 4, 3) := by decide +kernel
theorem dX3_hangsInAir_13 : decode cX3_hangsInAir 13 = .ok (.iconst 0, 1) := by decide +kernel
theorem dX3_hangsInAir_14 : decode cX3_hangsInAir 14 = .ok (.ireturn, 1) := by decide +kernel
theorem dX3_room_0 : decode cX3_room 0 = .ok (.aload_n 0, 1) := by decide +kernel
theorem dX3_room_1 : decode cX3_room 1 = .ok (.getfield 9, 3) := by decide +kernel
theorem dX3_room_4 : decode cX3_room 4 = .ok (.iconst (-1), 1) := by decide +kernel
theorem dX3_room_5 : decode cX3_room 5 = .ok (.if_icmp .ne 7, 3) := by decide +kernel
theorem dX3_room_8 : decode cX3_room 8 = .ok (.iconst (-1), 1) := by decide +kernel
theorem dX3_room_9 : decode cX3_room 9 = .ok (.goto 10, 3) := by decide +kernel
theorem dX3_room_12 : decode cX3_room 12 = .ok (.aload_n 0, 1) := by decide +kernel
theorem dX3_room_13 : decode cX3_room 13 = .ok (.getfield 9, 3) := by decide +kernel
theorem dX3_room_16 : decode cX3_room 16 = .ok (.bipush 10, 2) := by decide +kernel
theorem dX3_room_18 : decode cX3_room 18 = .ok (.idiv, 1) := by decide +kernel
theorem dX3_room_19 : decode cX3_room 19 = .ok (.ireturn, 1) := by decide +kernel
theorem dX3_hook_0 : decode cX3_hook 0 = .ok (.aload_n 0, 1) := by decide +kernel
theorem dX3_hook_1 : decode cX3_hook 1 = .ok (.getfield 9, 3) := by decide +kernel
theorem dX3_hook_4 : decode cX3_hook 4 = .ok (.iconst (-1), 1) := by decide +kernel
theorem dX3_hook_5 : decode cX3_hook 5 = .ok (.if_icmp .ne 7, 3) := by decide +kernel
theorem dX3_hook_8 : decode cX3_hook 8 = .ok (.iconst (-1), 1) := by decide +kernel
theorem dX3_hook_9 : decode cX3_hook 9 = .ok (.goto 10, 3) := by decide +kernel
theorem dX3_hook_12 : decode cX3_hook 12 = .ok (.aload_n 0, 1) := by decide +kernel
theorem dX3_hook_13 : decode cX3_hook 13 = .ok (.getfield 9, 3) := by decide +kernel
theorem dX3_hook_16 : decode cX3_hook 16 = .ok (.bipush 10, 2) := by decide +kernel
theorem dX3_hook_18 : decode cX3_hook 18 = .ok (.irem, 1) := by decide +kernel
theorem dX3_hook_19 : decode cX3_hook 19 = .ok (.ireturn, 1) := by decide +kernel
theorem dX3_lieInSalt_0 : decode cX3_lieInSalt 0 = .ok (.aload_n 0, 1) := by decide +kernel
theorem dX3_lieInSalt_1 : decode cX3_lieInSalt 1 = .ok (.dup, 1) := by decide +kernel
theorem dX3_lieInSalt_2 : decode cX3_lieInSalt 2 = .ok (.getfield 36, 3) := by decide +kernel
theorem dX3_lieInSalt_5 : decode cX3_lieInSalt 5 = .ok (.iconst 1, 1) := by decide +kernel
theorem dX3_lieInSalt_6 : decode cX3_lieInSalt 6 = .ok (.iadd, 1) := by decide +kernel
theorem dX3_lieInSalt_7 : decode cX3_lieInSalt 7 = .ok (.putfield 36, 3) := by decide +kernel
theorem dX3_lieInSalt_10 : decode cX3_lieInSalt 10 = .ok (.aload_n 0, 1) := by decide +kernel
theorem dX3_lieInSalt_11 : decode cX3_lieInSalt 11 = .ok (.dup, 1) := by decide +kernel
theorem dX3_lieInSalt_12 : decode cX3_lieInSalt 12 = .ok (.getfield 33, 3) := by decide +kernel
theorem dX3_lieInSalt_15 : decode cX3_lieInSalt 15 = .ok (.aload_n 0, 1) := by decide +kernel
theorem dX3_lieInSalt_16 : decode cX3_lieInSalt 16 = .ok (.getfield 33, 3) := by decide +kernel
theorem dX3_lieInSalt_19 : decode cX3_lieInSalt 19 = .ok (.sipush 1000, 3) := by decide +kernel
theorem dX3_lieInSalt_22 : decode cX3_lieInSalt 22 = .ok (.idiv, 1) := by decide +kernel
theorem dX3_lieInSalt_23 : decode cX3_lieInSalt 23 = .ok (.isub, 1) := by decide +kernel
theorem dX3_lieInSalt_24 : decode cX3_lieInSalt 24 = .ok (.putfield 33, 3) := by decide +kernel
theorem dX3_lieInSalt_27 : decode cX3_lieInSalt 27 = .ok (.return_, 1) := by decide +kernel
theorem dX3_dry_0 : decode cX3_dry 0 = .ok (.bipush 100, 2) := by decide +kernel
theorem dX3_dry_2 : decode cX3_dry 2 = .ok (.iload_n 2, 1) := by decide +kernel
theorem dX3_dry_3 : decode cX3_dry 3 = .ok (.isub, 1) := by decide +kernel
theorem dX3_dry_4 : decode cX3_dry 4 = .ok (.iconst 5, 1) := by decide +kernel
theorem dX3_dry_5 : decode cX3_dry 5 = .ok (.iload_n 1, 1) := by decide +kernel
theorem dX3_dry_6 : decode cX3_dry 6 = .ok (.iconst 0, 1) := by decide +kernel
theorem dX3_dry_7 : decode cX3_dry 7 = .ok (.invokestatic 39, 3) := by decide +kernel
theorem dX3_dry_10 : decode cX3_dry 10 = .ok (.iadd, 1) := by decide +kernel
theorem dX3_dry_11 : decode cX3_dry 11 = .ok (.imul, 1) := by decide +kernel
theorem dX3_dry_12 : decode cX3_dry 12 = .ok (.bipush 10, 2) := by decide +kernel
theorem dX3_dry_14 : decode cX3_dry 14 = .ok (.idiv, 1) := by decide +kernel
theorem dX3_dry_15 : decode cX3_dry 15 = .ok (.istore_n 3, 1) := by decide +kernel
theorem dX3_dry_16 : decode cX3_dry 16 = .ok (.aload_n 0, 1) := by decide +kernel
theorem dX3_dry_17 : decode cX3_dry 17 = .ok (.dup, 1) := by decide +kernel
theorem dX3_dry_18 : decode cX3_dry 18 = .ok (.getfield 33, 3) := by decide +kernel
theorem dX3_dry_21 : decode cX3_dry 21 = .ok (.aload_n 0, 1) := by decide +kernel
theorem dX3_dry_22 : decode cX3_dry 22 = .ok (.getfield 33, 3) := by decide +kernel
theorem dX3_dry_25 : decode cX3_dry 25 = .ok (.iload_n 3, 1) := by decide +kernel
theorem dX3_dry_26 : decode cX3_dry 26 = .ok (.imul, 1) := by decide +kernel
theorem dX3_dry_27 : decode cX3_dry 27 = .ok (.ldc 45, 2) := by decide +kernel
theorem dX3_dry_29 : decode cX3_dry 29 = .ok (.idiv, 1) := by decide +kernel
theorem dX3_dry_30 : decode cX3_dry 30 = .ok (.isub, 1) := by decide +kernel
theorem dX3_dry_31 : decode cX3_dry 31 = .ok (.putfield 33, 3) := by decide +kernel
theorem dX3_dry_34 : decode cX3_dry 34 = .ok (.return_, 1) := by decide +kernel
theorem dX3_gainHeat_0 : decode cX3_gainHeat 0 = .ok (.aload_n 0, 1) := by decide +kernel
theorem dX3_gainHeat_1 : decode cX3_gainHeat 1 = .ok (.dup, 1) := by decide +kernel
theorem dX3_gainHeat_2 : decode cX3_gainHeat 2 = .ok (.getfield 46, 3) := by decide +kernel
theorem dX3_gainHeat_5 : decode cX3_gainHeat 5 = .ok (.iload_n 1, 1) := by decide +kernel
theorem dX3_gainHeat_6 : decode cX3_gainHeat 6 = .ok (.iconst 0, 1) := by decide +kernel
theorem dX3_gainHeat_7 : decode cX3_gainHeat 7 = .ok (.invokestatic 39, 3) := by decide +kernel
theorem dX3_gainHeat_10 : decode cX3_gainHeat 10 = .ok (.iadd, 1) := by decide +kernel
theorem dX3_gainHeat_11 : decode cX3_gainHeat 11 = .ok (.putfield 46, 3) := by decide +kernel
theorem dX3_gainHeat_14 : decode cX3_gainHeat 14 = .ok (.aload_n 0, 1) := by decide +kernel
theorem dX3_gainHeat_15 : decode cX3_gainHeat 15 = .ok (.getfield 46, 3) := by decide +kernel
theorem dX3_gainHeat_18 : decode cX3_gainHeat 18 = .ok (.bipush 20, 2) := by decide +kernel
theorem dX3_gainHeat_20 : decode cX3_gainHeat 20 = .ok (.aload_n 0, 1) := by decide +kernel
theorem dX3_gainHeat_21 : decode cX3_gainHeat 21 = .ok (.getfield 36, 3) := by decide +kernel
theorem dX3_gainHeat_24 : decode cX3_gainHeat 24 = .ok (.imul, 1) := by decide +kernel
theorem dX3_gainHeat_25 : decode cX3_gainHeat 25 = .ok (.if_icmp .le 23, 3) := by decide +kernel
theorem dX3_gainHeat_28 : decode cX3_gainHeat 28 = .ok (.aload_n 0, 1) := by decide +kernel
theorem dX3_gainHeat_29 : decode cX3_gainHeat 29 = .ok (.getfield 36, 3) := by decide +kernel
theorem dX3_gainHeat_32 : decode cX3_gainHeat 32 = .ok (.aload_n 0, 1) := by decide +kernel
theorem dX3_gainHeat_33 : decode cX3_gainHeat 33 = .ok (.getfield 27, 3) := by decide +kernel
theorem dX3_gainHeat_36 : decode cX3_gainHeat 36 = .ok (.sipush 1000, 3) := by decide +kernel
theorem dX3_gainHeat_39 : decode cX3_gainHeat 39 = .ok (.idiv, 1) := by decide +kernel
theorem dX3_gainHeat_40 : decode cX3_gainHeat 40 = .ok (.if_icmp .ge 8, 3) := by decide +kernel
theorem dX3_gainHeat_43 : decode cX3_gainHeat 43 = .ok (.aload_n 0, 1) := by decide +kernel
theorem dX3_gainHeat_44 : decode cX3_gainHeat 44 = .ok (.iconst 1, 1) := by decide +kernel
theorem dX3_gainHeat_45 : decode cX3_gainHeat 45 = .ok (.putfield 49, 3) := by decide +kernel
theorem dX3_gainHeat_48 : decode cX3_gainHeat 48 = .ok (.return_, 1) := by decide +kernel
theorem dX3_hasLost_0 : decode cX3_hasLost 0 = .ok (.aload_n 0, 1) := by decide +kernel
theorem dX3_hasLost_1 : decode cX3_hasLost 1 = .ok (.getfield 27, 3) := by decide +kernel
theorem dX3_hasLost_4 : decode cX3_hasLost 4 = .ok (.aload_n 0, 1) := by decide +kernel
theorem dX3_hasLost_5 : decode cX3_hasLost 5 = .ok (.getfield 33, 3) := by decide +kernel
theorem dX3_hasLost_8 : decode cX3_hasLost 8 = .ok (.isub, 1) := by decide +kernel
theorem dX3_hasLost_9 : decode cX3_hasLost 9 = .ok (.iload_n 1, 1) := by decide +kernel
theorem dX3_hasLost_10 : decode cX3_hasLost 10 = .ok (.aload_n 0, 1) := by decide +kernel
theorem dX3_hasLost_11 : decode cX3_hasLost 11 = .ok (.getfield 27, 3) := by decide +kernel
theorem dX3_hasLost_14 : decode cX3_hasLost 14 = .ok (.bipush 100, 2) := by decide +kernel
theorem dX3_hasLost_16 : decode cX3_hasLost 16 = .ok (.idiv, 1) := by decide +kernel
theorem dX3_hasLost_17 : decode cX3_hasLost 17 = .ok (.imul, 1) := by decide +kernel
theorem dX3_hasLost_18 : decode cX3_hasLost 18 = .ok (.if_icmp .lt 7, 3) := by decide +kernel
theorem dX3_hasLost_21 : decode cX3_hasLost 21 = .ok (.iconst 1, 1) := by decide +kernel
theorem dX3_hasLost_22 : decode cX3_hasLost 22 = .ok (.goto 4, 3) := by decide +kernel
theorem dX3_hasLost_25 : decode cX3_hasLost 25 = .ok (.iconst 0, 1) := by decide +kernel
theorem dX3_hasLost_26 : decode cX3_hasLost 26 = .ok (.ireturn, 1) := by decide +kernel
set_option maxRecDepth 20000 in
theorem ggX4_init_J7_fill_53178 : GoodIn wsX4_init wsJ7_fill_53178 := goodIn_r _ [12] rfl (by decide +kernel)
set_option maxRecDepth 20000 in
theorem gX4_init_J7_fill_53178 : GoodIn wsX4_init (va_wsS RX4 22 yJ7_fill_53178 wsJ7_fill_53178) := goodIn_app (goodIn_of _ (by decide +kernel)) ggX4_init_J7_fill_53178
theorem dX4_init_0 : decode cX4_init 0 = .ok (.aload_n 0, 1) := by decide +kernel
theorem dX4_init_1 : decode cX4_init 1 = .ok (.invokespecial 3, 3) := by decide +kernel
theorem dX4_init_4 : decode cX4_init 4 = .ok (.aload_n 0, 1) := by decide +kernel
theorem dX4_init_5 : decode cX4_init 5 = .ok (.bipush 6, 2) := by decide +kernel
theorem dX4_init_7 : decode cX4_init 7 = .ok (.newarray .int, 2) := by decide +kernel
theorem dX4_init_9 : decode cX4_init 9 = .ok (.putfield 9, 3) := by decide +kernel
theorem dX4_init_12 : decode cX4_init 12 = .ok (.aload_n 0, 1) := by decide +kernel
theorem dX4_init_13 : decode cX4_init 13 = .ok (.bipush 6, 2) := by decide +kernel
theorem dX4_init_15 : decode cX4_init 15 = .ok (.newarray .int, 2) := by decide +kernel
theorem dX4_init_17 : decode cX4_init 17 = .ok (.putfield 15, 3) := by decide +kernel
theorem dX4_init_20 : decode cX4_init 20 = .ok (.aload_n 0, 1) := by decide +kernel
theorem dX4_init_21 : decode cX4_init 21 = .ok (.bipush 6, 2) := by decide +kernel
theorem dX4_init_23 : decode cX4_init 23 = .ok (.newarray .boolean, 2) := by decide +kernel
theorem dX4_init_25 : decode cX4_init 25 = .ok (.putfield 18, 3) := by decide +kernel
theorem dX4_init_28 : decode cX4_init 28 = .ok (.aload_n 0, 1) := by decide +kernel
theorem dX4_init_29 : decode cX4_init 29 = .ok (.getfield 9, 3) := by decide +kernel
theorem dX4_init_32 : decode cX4_init 32 = .ok (.bipush 15, 2) := by decide +kernel
theorem dX4_init_34 : decode cX4_init 34 = .ok (.invokestatic 22, 3) := by decide +kernel
theorem dX4_init_37 : decode cX4_init 37 = .ok (.aload_n 0, 1) := by decide +kernel
theorem dX4_init_38 : decode cX4_init 38 = .ok (.getfield 15, 3) := by decide +kernel
theorem dX4_init_41 : decode cX4_init 41 = .ok (.bipush 60, 2) := by decide +kernel
theorem dX4_init_43 : decode cX4_init 43 = .ok (.invokestatic 22, 3) := by decide +kernel
theorem dX4_init_46 : decode cX4_init 46 = .ok (.return_, 1) := by decide +kernel
theorem dX4_setAir_0 : decode cX4_setAir 0 = .ok (.iload_n 1, 1) := by decide +kernel
theorem dX4_setAir_1 : decode cX4_setAir 1 = .ok (.ifCond .lt 23, 3) := by decide +kernel
theorem dX4_setAir_4 : decode cX4_setAir 4 = .ok (.iload_n 1, 1) := by decide +kernel
theorem dX4_setAir_5 : decode cX4_setAir 5 = .ok (.bipush 6, 2) := by decide +kernel
theorem dX4_setAir_7 : decode cX4_setAir 7 = .ok (.if_icmp .ge 17, 3) := by decide +kernel
theorem dX4_setAir_10 : decode cX4_setAir 10 = .ok (.aload_n 0, 1) := by decide +kernel
theorem dX4_setAir_11 : decode cX4_setAir 11 = .ok (.getfield 9, 3) := by decide +kernel
theorem dX4_setAir_14 : decode cX4_setAir 14 = .ok (.iload_n 1, 1) := by decide +kernel
theorem dX4_setAir_15 : decode cX4_setAir 15 = .ok (.iload_n 2, 1) := by decide +kernel
theorem dX4_setAir_16 : decode cX4_setAir 16 = .ok (.iastore, 1) := by decide +kernel
theorem dX4_setAir_17 : decode cX4_setAir 17 = .ok (.aload_n 0, 1) := by decide +kernel
theorem dX4_setAir_18 : decode cX4_setAir 18 = .ok (.getfield 15, 3) := by decide +kernel
theorem dX4_setAir_21 : decode cX4_setAir 21 = .ok (.iload_n 1, 1) := by decide +kernel
theorem dX4_setAir_22 : decode cX4_setAir 22 = .ok (.iload_n 3, 1) := by decide +kernel
theorem dX4_setAir_23 : decode cX4_setAir 23 = .ok (.iastore, 1) := by decide +kernel
theorem dX4_setAir_24 : decode cX4_setAir 24 = .ok (.return_, 1) := by decide +kernel
theorem dX4_setWindows_0 : decode cX4_setWindows 0 = .ok (.iload_n 1, 1) := by decide +kernel
theorem dX4_setWindows_1 : decode cX4_setWindows 1 = .ok (.ifCond .lt 19, 3) := by decide +kernel
theorem dX4_setWindows_4 : decode cX4_setWindows 4 = .ok (.iload_n 1, 1) := by decide +kernel
theorem dX4_setWindows_5 : decode cX4_setWindows 5 = .ok (.bipush 6, 2) := by decide +kernel
theorem dX4_setWindows_7 : decode cX4_setWindows 7 = .ok (.if_icmp .ge 13, 3) := by decide +kernel
theorem dX4_setWindows_10 : decode cX4_setWindows 10 = .ok (.aload_n 0, 1) := by decide +kernel
theorem dX4_setWindows_11 : decode cX4_setWindows 11 = .ok (.getfield 18, 3) := by decide +kernel
theorem dX4_setWindows_14 : decode cX4_setWindows 14 = .ok (.iload_n 1, 1) := by decide +kernel
theorem dX4_setWindows_15 : decode cX4_setWindows 15 = .ok (.baload, 1) := by decide +kernel
theorem dX4_setWindows_16 : decode cX4_setWindows 16 = .ok (.iload_n 2, 1) := by decide +kernel
theorem dX4_setWindows_17 : decode cX4_setWindows 17 = .ok (.if_icmp .ne 5, 3) := by decide +kernel
theorem dX4_setWindows_20 : decode cX4_setWindows 20 = .ok (.iconst 0, 1) := by decide +kernel
theorem dX4_setWindows_21 : decode cX4_setWindows 21 = .ok (.ireturn, 1) := by decide +kernel
theorem dX4_setWindows_22 : decode cX4_setWindows 22 = .ok (.aload_n 0, 1) := by decide +kernel
theorem dX4_setWindows_23 : decode cX4_setWindows 23 = .ok (.getfield 18, 3) := by decide +kernel
theorem dX4_setWindows_26 : decode cX4_setWindows 26 = .ok (.iload_n 1, 1) := by decide +kernel
theorem dX4_setWindows_27 : decode cX4_setWindows 27 = .ok (.iload_n 2, 1) := by decide +kernel
theorem dX4_setWindows_28 : decode cX4_setWindows 28 = .ok (.bastore, 1) := by decide +kernel
theorem dX4_setWindows_29 : decode cX4_setWindows 29 = .ok (.iconst 1, 1) := by decide +kernel
theorem dX4_setWindows_30 : decode cX4_setWindows 30 = .ok (.ireturn, 1) := by decide +kernel
theorem dX4_letOutsideIn_0 : decode cX4_letOutsideIn 0 = .ok (.iconst 1, 1) := by decide +kernel
theorem dX4_letOutsideIn_1 : decode cX4_letOutsideIn 1 = .ok (.istore_n 1, 1) := by decide +kernel
theorem dX4_letOutsideIn_2 : decode cX4_letOutsideIn 2 = .ok (.iload_n 1, 1) := by decide +kernel
theorem dX4_letOutsideIn_3 : decode cX4_letOutsideIn 3 = .ok (.bipush 6, 2) := by decide +kernel
theorem dX4_letOutsideIn_5 : decode cX4_letOutsideIn 5 = .ok (.if_icmp .ge 42, 3) := by decide +kernel
theorem dX4_letOutsideIn_8 : decode cX4_letOutsideIn 8 = .ok (.aload_n 0, 1) := by decide +kernel
theorem dX4_letOutsideIn_9 : decode cX4_letOutsideIn 9 = .ok (.getfield 18, 3) := by decide +kernel
theorem dX4_letOutsideIn_12 : decode cX4_letOutsideIn 12 = .ok (.iload_n 1, 1) := by decide +kernel
theorem dX4_letOutsideIn_13 : decode cX4_letOutsideIn 13 = .ok (.baload, 1) := by decide +kernel
theorem dX4_letOutsideIn_14 : decode cX4_letOutsideIn 14 = .ok (.ifCond .eq 27, 3) := by decide +kernel
theorem dX4_letOutsideIn_17 : decode cX4_letOutsideIn 17 = .ok (.aload_n 0, 1) := by decide +kernel
theorem dX4_letOutsideIn_18 : decode cX4_letOutsideIn 18 = .ok (.getfield 9, 3) := by decide +kernel
theorem dX4_letOutsideIn_21 : decode cX4_letOutsideIn 21 = .ok (.iload_n 1, 1) := by decide +kernel
theorem dX4_letOutsideIn_22 : decode cX4_letOutsideIn 22 = .ok (.aload_n 0, 1) := by decide +kernel
theorem dX4_letOutsideIn_23 : decode cX4_letOutsideIn 23 = .ok (.getfield 9, 3) := by decide +kernel
theorem dX4_letOutsideIn_26 : decode cX4_letOutsideIn 26 = .ok (.iconst 0, 1) := by decide +kernel
theorem dX4_letOutsideIn_27 : decode cX4_letOutsideIn 27 = .ok (.iaload, 1) := by decide +kernel
theorem dX4_letOutsideIn_28 : decode cX4_letOutsideIn 28 = .ok (.iastore, 1) := by decide +kernel
theorem dX4_letOutsideIn_29 : decode cX4_letOutsideIn 29 = .ok (.aload_n 0, 1) := by decide +kernel
theorem dX4_letOutsideIn_30 : decode cX4_letOutsideIn 30 = .ok (.getfield 15, 3) := by decide +kernel
theorem dX4_letOutsideIn_33 : decode cX4_letOutsideIn 33 = .ok (.iload_n 1, 1) := by decide +kernel
theorem dX4_letOutsideIn_34 : decode cX4_letOutsideIn 34 = .ok (.aload_n 0, 1) := by decide +kernel
theorem dX4_letOutsideIn_35 : decode cX4_letOutsideIn 35 = .ok (.getfield 15, 3) := by decide +kernel
theorem dX4_letOutsideIn_38 : decode cX4_letOutsideIn 38 = .ok (.iconst 0, 1) := by decide +kernel
theorem dX4_letOutsideIn_39 : decode cX4_letOutsideIn 39 = .ok (.iaload, 1) := by decide +kernel
theorem dX4_letOutsideIn_40 : decode cX4_letOutsideIn 40 = .ok (.iastore, 1) := by decide +kernel
theorem dX4_letOutsideIn_41 : decode cX4_letOutsideIn 41 = .ok (.iinc 1 1, 3) := by decide +kernel
theorem dX4_letOutsideIn_44 : decode cX4_letOutsideIn 44 = .ok (.goto (-42), 3) := by decide +kernel
theorem dX4_letOutsideIn_47 : decode cX4_letOutsideIn 47 = .ok (.return_, 1) := by decide +kernel
theorem dX4_warmthOf_0 : decode cX4_warmthOf 0 = .ok (.iload_n 1, 1) := by decide +kernel
theorem dX4_warmthOf_1 : decode cX4_warmthOf 1 = .ok (.ifCond .lt 18, 3) := by decide +kernel
theorem dX4_warmthOf_4 : decode cX4_warmthOf 4 = .ok (.iload_n 1, 1) := by decide +kernel
theorem dX4_warmthOf_5 : decode cX4_warmthOf 5 = .ok (.bipush 6, 2) := by decide +kernel
theorem dX4_warmthOf_7 : decode cX4_warmthOf 7 = .ok (.if_icmp .ge 12, 3) := by decide +kernel
theorem dX4_warmthOf_10 : decode cX4_warmthOf 10 = .ok (.aload_n 0, 1) := by decide +kernel
theorem dX4_warmthOf_11 : decode cX4_warmthOf 11 = .ok (.getfield 9, 3) := by decide +kernel
theorem dX4_warmthOf_14 : decode cX4_warmthOf 14 = .ok (.iload_n 1, 1) := by decide +kernel
theorem dX4_warmthOf_15 : decode cX4_warmthOf 15 = .ok (.iaload, 1) := by decide +kernel
theorem dX4_warmthOf_16 : decode cX4_warmthOf 16 = .ok (.goto 4, 3) := by decide +kernel
theorem dX4_warmthOf_19 : decode cX4_warmthOf 19 = .ok (.iconst 0, 1) := by decide +kernel
theorem dX4_warmthOf_20 : decode cX4_warmthOf 20 = .ok (.ireturn, 1) := by decide +kernel
theorem dX4_dampOf_0 : decode cX4_dampOf 0 = .ok (.iload_n 1, 1) := by decide +kernel
theorem dX4_dampOf_1 : decode cX4_dampOf 1 = .ok (.ifCond .lt 18, 3) := by decide +kernel
theorem dX4_dampOf_4 : decode cX4_dampOf 4 = .ok (.iload_n 1, 1) := by decide +kernel
theorem dX4_dampOf_5 : decode cX4_dampOf 5 = .ok (.bipush 6, 2) := by decide +kernel
theorem dX4_dampOf_7 : decode cX4_dampOf 7 = .ok (.if_icmp .ge 12, 3) := by decide +kernel
theorem dX4_dampOf_10 : decode cX4_dampOf 10 = .ok (.aload_n 0, 1) := by decide +kernel
theorem dX4_dampOf_11 : decode cX4_dampOf 11 = .ok (.getfield 15, 3) := by decide +kernel
theorem dX4_dampOf_14 : decode cX4_dampOf 14 = .ok (.iload_n 1, 1) := by decide +kernel
theorem dX4_dampOf_15 : decode cX4_dampOf 15 = .ok (.iaload, 1) := by decide +kernel
theorem dX4_dampOf_16 : decode cX4_dampOf 16 = .ok (.goto 4, 3) := by decide +kernel
theorem dX4_dampOf_19 : decode cX4_dampOf 19 = .ok (.iconst 0, 1) := by decide +kernel
theorem dX4_dampOf_20 : decode cX4_dampOf 20 = .ok (.ireturn, 1) := by decide +kernel
theorem dX5_init_0 : decode cX5_init 0 = .ok (.aload_n 0, 1) := by decide +kernel
theorem dX5_init_1 : decode cX5_init 1 = .ok (.invokespecial 3, 3) := by decide +kernel
theorem dX5_init_4 : decode cX5_init 4 = .ok (.aload_n 0, 1) := by decide +kernel
theorem dX5_init_5 : decode cX5_init 5 = .ok (.iconst 5, 1) := by decide +kernel
theorem dX5_init_6 : decode cX5_init 6 = .ok (.newarray .int, 2) := by decide +kernel
theorem dX5_init_8 : decode cX5_init 8 = .ok (.putfield 9, 3) := by decide +kernel
theorem dX5_init_11 : decode cX5_init 11 = .ok (.aload_n 0, 1) := by decide +kernel
theorem dX5_init_12 : decode cX5_init 12 = .ok (.iconst (-1), 1) := by decide +kernel
theorem dX5_init_13 : decode cX5_init 13 = .ok (.putfield 15, 3) := by decide +kernel
theorem dX5_init_16 : decode cX5_init 16 = .ok (.aload_n 0, 1) := by decide +kernel
theorem dX5_init_17 : decode cX5_init 17 = .ok (.aload_n 1, 1) := by decide +kernel
theorem dX5_init_18 : decode cX5_init 18 = .ok (.putfield 19, 3) := by decide +kernel
theorem dX5_init_21 : decode cX5_init 21 = .ok (.return_, 1) := by decide +kernel
theorem dX5_numberOf_0 : decode cX5_numberOf 0 = .ok (.iload_n 1, 1) := by decide +kernel
theorem dX5_numberOf_1 : decode cX5_numberOf 1 = .ok (.ifCond .lt 21, 3) := by decide +kernel
theorem dX5_numberOf_4 : decode cX5_numberOf 4 = .ok (.iload_n 1, 1) := by decide +kernel
theorem dX5_numberOf_5 : decode cX5_numberOf 5 = .ok (.aload_n 0, 1) := by decide +kernel
theorem dX5_numberOf_6 : decode cX5_numberOf 6 = .ok (.getfield 9, 3) := by decide +kernel
theorem dX5_numberOf_9 : decode cX5_numberOf 9 = .ok (.arraylength, 1) := by decide +kernel
theorem dX5_numberOf_10 : decode cX5_numberOf 10 = .ok (.if_icmp .ge 12, 3) := by decide +kernel
theorem dX5_numberOf_13 : decode cX5_numberOf 13 = .ok (.aload_n 0, 1) := by decide +kernel
theorem dX5_numberOf_14 : decode cX5_numberOf 14 = .ok (.getfield 9, 3) := by decide +kernel
theorem dX5_numberOf_17 : decode cX5_numberOf 17 = .ok (.iload_n 1, 1) := by decide +kernel
theorem dX5_numberOf_18 : decode cX5_numberOf 18 = .ok (.iaload, 1) := by decide +kernel
theorem dX5_numberOf_19 : decode cX5_numberOf 19 = .ok (.goto 4, 3) := by decide +kernel
theorem dX5_numberOf_22 : decode cX5_numberOf 22 = .ok (.iconst 0, 1) := by decide +kernel
theorem dX5_numberOf_23 : decode cX5_numberOf 23 = .ok (.ireturn, 1) := by decide +kernel
set_option maxRecDepth 20000 in
theorem ggX5_read_J7_fill_53178 : GoodIn wsX5_read wsJ7_fill_53178 := goodIn_r _ [9] rfl (by decide +kernel)
set_option maxRecDepth 20000 in
theorem gX5_read_J7_fill_53178 : GoodIn wsX5_read (va_wsS RX5 29 yJ7_fill_53178 wsJ7_fill_53178) := goodIn_app (goodIn_of _ (by decide +kernel)) ggX5_read_J7_fill_53178
set_option maxRecDepth 20000 in
theorem ggX5_read_X5_readRule : GoodIn wsX5_read wsX5_readRule := goodIn_r _ [14, 1, 4, 2, 15, 16, 17, 13, 18, 5, 19, 20, 21, 22, 23, 24, 25, 26, 27, 28, 29, 30, 31, 32, 33, 34, 35, 36, 37, 38, 39, 40, 41, 42, 43, 44, 45, 46, 47, 48, 49, 50, 51, 52, 53, 54, 55, 56, 57, 58, 59, 60, 61, 62, 63, 64, 65, 66, 67, 68, 69, 70, 71, 72, 73, 74, 75, 76, 77, 78, 79, 80, 81, 82, 83, 84, 85, 86, 87, 88, 89, 90, 91, 92, 93, 94, 95, 96, 3, 97, 98, 99, 100, 101, 102, 103, 104, 105, 106, 107] rfl (by decide +kernel)
set_option maxRecDepth 20000 in
theorem gX5_read_X5_readRule : GoodIn wsX5_read (wsV RX5 35 RX5 yX5_readRule wsX5_readRule) := goodIn_app (goodIn_of _ (by decide +kernel)) ggX5_read_X5_readRule
set_option maxRecDepth 20000 in
theorem ggX5_read_X5_skipBlanks : GoodIn wsX5_read wsX5_skipBlanks := goodIn_r _ [18, 1, 5, 19, 20, 21, 22, 23, 24, 25, 26, 27, 28, 29, 101, 102, 103, 104, 105, 106, 107] rfl (by decide +kernel)
set_option maxRecDepth 20000 in
theorem gX5_read_X5_skipBlanks : GoodIn wsX5_read (wsV RX5 39 RX5 yX5_skipBlanks wsX5_skipBlanks) := goodIn_app (goodIn_of _ (by decide +kernel)) ggX5_read_X5_skipBlanks
set_option maxRecDepth 20000 in
theorem ggX5_read_X6_size : GoodIn wsX5_read wsX6_size := goodIn_r _ [23, 24, 106, 107] rfl (by decide +kernel)
set_option maxRecDepth 20000 in
theorem gX5_read_X6_size : GoodIn wsX5_read (wsV RX5 42 RX6 yX6_size wsX6_size) := goodIn_app (goodIn_of _ (by decide +kernel)) ggX5_read_X6_size
set_option maxRecDepth 20000 in
theorem ggX5_read_X6_byteAt : GoodIn wsX5_read wsX6_byteAt := goodIn_r _ [28, 24, 29, 106, 107] rfl (by decide +kernel)
set_option maxRecDepth 20000 in
theorem gX5_read_X6_byteAt : GoodIn wsX5_read (wsV RX5 48 RX6 yX6_byteAt wsX6_byteAt) := goodIn_app (goodIn_of _ (by decide +kernel)) ggX5_read_X6_byteAt
set_option maxRecDepth 20000 in
theorem ggX5_read_X5_fail : GoodIn wsX5_read wsX5_fail := goodIn_r _ [96, 3, 101, 102, 103, 104, 105] rfl (by decide +kernel)
set_option maxRecDepth 20000 in
theorem gX5_read_X5_fail : GoodIn wsX5_read (wsV RX5 52 RX5 yX5_fail wsX5_fail) := goodIn_app (goodIn_of _ (by decide +kernel)) ggX5_read_X5_fail
theorem dX5_read_0 : decode cX5_read 0 = .ok (.aload_n 0, 1) := by decide +kernel
theorem dX5_read_1 : decode cX5_read 1 = .ok (.iconst 0, 1) := by decide +kernel
theorem dX5_read_2 : decode cX5_read 2 = .ok (.putfield 23, 3) := by decide +kernel
theorem dX5_read_5 : decode cX5_read 5 = .ok (.aload_n 0, 1) := by decide +kernel
theorem dX5_read_6 : decode cX5_read 6 = .ok (.iconst 0, 1) := by decide +kernel
theorem dX5_read_7 : decode cX5_read 7 = .ok (.putfield 26, 3) := by decide +kernel
theorem dX5_read_10 : decode cX5_read 10 = .ok (.aload_n 0, 1) := by decide +kernel
theorem dX5_read_11 : decode cX5_read 11 = .ok (.iconst (-1), 1) := by decide +kernel
theorem dX5_read_12 : decode cX5_read 12 = .ok (.putfield 15, 3) := by decide +kernel
theorem dX5_read_15 : decode cX5_read 15 = .ok (.aload_n 0, 1) := by decide +kernel
theorem dX5_read_16 : decode cX5_read 16 = .ok (.getfield 9, 3) := by decide +kernel
theorem dX5_read_19 : decode cX5_read 19 = .ok (.iconst 0, 1) := by decide +kernel
theorem dX5_read_20 : decode cX5_read 20 = .ok (.invokestatic 29, 3) := by decide +kernel
theorem dX5_read_23 : decode cX5_read 23 = .ok (.iconst 0, 1) := by decide +kernel
theorem dX5_read_24 : decode cX5_read 24 = .ok (.istore_n 1, 1) := by decide +kernel
theorem dX5_read_25 : decode cX5_read 25 = .ok (.iload_n 1, 1) := by decide +kernel
theorem dX5_read_26 : decode cX5_read 26 = .ok (.sipush 400, 3) := by decide +kernel
theorem dX5_read_29 : decode cX5_read 29 = .ok (.if_icmp .gt 73, 3) := by decide +kernel
theorem dX5_read_32 : decode cX5_read 32 = .ok (.aload_n 0, 1) := by decide +kernel
theorem dX5_read_33 : decode cX5_read 33 = .ok (.invokevirtual 35, 3) := by decide +kernel
theorem dX5_read_36 : decode cX5_read 36 = .ok (.ifCond .ne 5, 3) := by decide +kernel
theorem dX5_read_39 : decode cX5_read 39 = .ok (.iconst 0, 1) := by decide +kernel
theorem dX5_read_40 : decode cX5_read 40 = .ok (.ireturn, 1) := by decide +kernel
theorem dX5_read_41 : decode cX5_read 41 = .ok (.aload_n 0, 1) := by decide +kernel
theorem dX5_read_42 : decode cX5_read 42 = .ok (.invokevirtual 39, 3) := by decide +kernel
theorem dX5_read_45 : decode cX5_read 45 = .ok (.aload_n 0, 1) := by decide +kernel
theorem dX5_read_46 : decode cX5_read 46 = .ok (.getfield 23, 3) := by decide +kernel
theorem dX5_read_49 : decode cX5_read 49 = .ok (.aload_n 0, 1) := by decide +kernel
theorem dX5_read_50 : decode cX5_read 50 = .ok (.getfield 19, 3) := by decide +kernel
theorem dX5_read_53 : decode cX5_read 53 = .ok (.invokevirtual 42, 3) := by decide +kernel
theorem dX5_read_56 : decode cX5_read 56 = .ok (.if_icmp .lt 5, 3) := by decide +kernel
theorem dX5_read_59 : decode cX5_read 59 = .ok (.iconst 1, 1) := by decide +kernel
theorem dX5_read_60 : decode cX5_read 60 = .ok (.ireturn, 1) := by decide +kernel
theorem dX5_read_61 : decode cX5_read 61 = .ok (.aload_n 0, 1) := by decide +kernel
theorem dX5_read_62 : decode cX5_read 62 = .ok (.getfield 19, 3) := by decide +kernel
theorem dX5_read_65 : decode cX5_read 65 = .ok (.aload_n 0, 1) := by decide +kernel
theorem dX5_read_66 : decode cX5_read 66 = .ok (.getfield 23, 3) := by decide +kernel
theorem dX5_read_69 : decode cX5_read 69 = .ok (.invokevirtual 48, 3) := by decide +kernel
theorem dX5_read_72 : decode cX5_read 72 = .ok (.bipush 59, 2) := by decide +kernel
theorem dX5_read_74 : decode cX5_read 74 = .ok (.if_icmp .eq 12, 3) := by decide +kernel
theorem dX5_read_77 : decode cX5_read 77 = .ok (.aload_n 0, 1) := by decide +kernel
theorem dX5_read_78 : decode cX5_read 78 = .ok (.aload_n 0, 1) := by decide +kernel
theorem dX5_read_79 : decode cX5_read 79 = .ok (.getfield 23, 3) := by decide +kernel
theorem dX5_read_82 : decode cX5_read 82 = .ok (.invokevirtual 52, 3) := by decide +kernel
theorem dX5_read_85 : decode cX5_read 85 = .ok (.ireturn, 1) := by decide +kernel
theorem dX5_read_86 : decode cX5_read 86 = .ok (.aload_n 0, 1) := by decide +kernel
theorem dX5_read_87 : decode cX5_read 87 = .ok (.dup, 1) := by decide +kernel
theorem dX5_read_88 : decode cX5_read 88 = .ok (.getfield 23, 3) := by decide +kernel
theorem dX5_read_91 : decode cX5_read 91 = .ok (.iconst 1, 1) := by decide +kernel
theorem dX5_read_92 : decode cX5_read 92 = .ok (.iadd, 1) := by decide +kernel
theorem dX5_read_93 : decode cX5_read 93 = .ok (.putfield 23, 3) := by decide +kernel
theorem dX5_read_96 : decode cX5_read 96 = .ok (.iinc 1 1, 3) := by decide +kernel
theorem dX5_read_99 : decode cX5_read 99 = .ok (.goto (-74), 3) := by decide +kernel
theorem dX5_read_102 : decode cX5_read 102 = .ok (.aload_n 0, 1) := by decide +kernel
theorem dX5_read_103 : decode cX5_read 103 = .ok (.aload_n 0, 1) := by decide +kernel
theorem dX5_read_104 : decode cX5_read 104 = .ok (.getfield 23, 3) := by decide +kernel
theorem dX5_read_107 : decode cX5_read 107 = .ok (.invokevirtual 52, 3) := by decide +kernel
theorem dX5_read_110 : decode cX5_read 110 = .ok (.ireturn, 1) := by decide +kernel
theorem dX5_fail_0 : decode cX5_fail 0 = .ok (.aload_n 0, 1) := by decide +kernel
theorem dX5_fail_1 : decode cX5_fail 1 = .ok (.iload_n 1, 1) := by decide +kernel
theorem dX5_fail_2 : decode cX5_fail 2 = .ok (.putfield 15, 3) := by decide +kernel
theorem dX5_fail_5 : decode cX5_fail 5 = .ok (.iconst 0, 1) := by decide +kernel
theorem dX5_fail_6 : decode cX5_fail 6 = .ok (.ireturn, 1) := by decide +kernel
set_option maxRecDepth 20000 in
theorem ggX5_readRule_X5_skipBlanks : GoodIn wsX5_readRule wsX5_skipBlanks := goodIn_r _ [8, 1, 9, 10, 11, 12, 13, 14, 15, 16, 17, 18, 19, 20, 93, 94, 95, 96, 97, 98, 99] rfl (by decide +kernel)
set_option maxRecDepth 20000 in
theorem gX5_readRule_X5_skipBlanks : GoodIn wsX5_readRule (wsV RX5 39 RX5 yX5_skipBlanks wsX5_skipBlanks) := goodIn_app (goodIn_of _ (by decide +kernel)) ggX5_readRule_X5_skipBlanks
set_option maxRecDepth 20000 in
theorem ggX5_readRule_X5_readKind : GoodIn wsX5_readRule wsX5_readKind := goodIn_r _ [24, 1, 9, 10, 11, 12, 13, 14, 15, 16, 17, 18, 19, 20, 25, 26, 27, 28, 29, 7, 30, 31, 32, 33, 34, 35, 36, 37, 38, 39, 40, 41, 42, 43, 44, 45, 46, 47, 48, 49, 50, 51, 52, 53, 54, 55, 56, 57, 58, 59, 60, 61, 62, 63, 64, 65, 66, 67, 68, 69, 70, 71, 72, 73, 74, 75, 76, 77, 78, 79, 80, 81, 82, 83, 93, 94, 95, 96, 97, 98, 99] rfl (by decide +kernel)
set_option maxRecDepth 20000 in
theorem gX5_readRule_X5_readKind : GoodIn wsX5_readRule (wsV RX5 56 RX5 yX5_readKind wsX5_readKind) := goodIn_app (goodIn_of _ (by decide +kernel)) ggX5_readRule_X5_readKind
set_option maxRecDepth 20000 in
theorem ggX5_readRule_X5_fail : GoodIn wsX5_readRule wsX5_fail := goodIn_r _ [87, 88, 93, 94, 95, 96, 97] rfl (by decide +kernel)
set_option maxRecDepth 20000 in
theorem gX5_readRule_X5_fail : GoodIn wsX5_readRule (wsV RX5 52 RX5 yX5_fail wsX5_fail) := goodIn_app (goodIn_of _ (by decide +kernel)) ggX5_readRule_X5_fail
set_option maxRecDepth 20000 in
theorem ggX5_readRule_X5_readNumber : GoodIn wsX5_readRule wsX5_readNumber := goodIn_r _ [92, 1, 9, 10, 11, 12, 13, 14, 15, 16, 17, 18, 19, 20, 25, 26, 27, 93, 94, 95, 96, 97, 98, 99] rfl (by decide +kernel)
set_option maxRecDepth 20000 in
theorem gX5_readRule_X5_readNumber : GoodIn wsX5_readRule (wsV RX5 59 RX5 yX5_readNumber wsX5_readNumber) := goodIn_app (goodIn_of _ (by decide +kernel)) ggX5_readRule_X5_readNumber
theorem dX5_readRule_0 : decode cX5_readRule 0 = .ok (.aload_n 0, 1) := by decide +kernel
theorem dX5_readRule_1 : decode cX5_readRule 1 = .ok (.invokevirtual 39, 3) := by decide +kernel
theorem dX5_readRule_4 : decode cX5_readRule 4 = .ok (.aload_n 0, 1) := by decide +kernel
theorem dX5_readRule_5 : decode cX5_readRule 5 = .ok (.getfield 23, 3) := by decide +kernel
theorem dX5_readRule_8 : decode cX5_readRule 8 = .ok (.istore_n 1, 1) := by decide +kernel
theorem dX5_readRule_9 : decode cX5_readRule 9 = .ok (.aload_n 0, 1) := by decide +kernel
theorem dX5_readRule_10 : decode cX5_readRule 10 = .ok (.invokevirtual 56, 3) := by decide +kernel
theorem dX5_readRule_13 : decode cX5_readRule 13 = .ok (.istore_n 2, 1) := by decide +kernel
theorem dX5_readRule_14 : decode cX5_readRule 14 = .ok (.iload_n 2, 1) := by decide +kernel
theorem dX5_readRule_15 : decode cX5_readRule 15 = .ok (.ifCond .lt 8, 3) := by decide +kernel
theorem dX5_readRule_18 : decode cX5_readRule 18 = .ok (.iload_n 2, 1) := by decide +kernel
theorem dX5_readRule_19 : decode cX5_readRule 19 = .ok (.iconst 5, 1) := by decide +kernel
theorem dX5_readRule_20 : decode cX5_readRule 20 = .ok (.if_icmp .lt 9, 3) := by decide +kernel
theorem dX5_readRule_23 : decode cX5_readRule 23 = .ok (.aload_n 0, 1) := by decide +kernel
theorem dX5_readRule_24 : decode cX5_readRule 24 = .ok (.iload_n 1, 1) := by decide +kernel
theorem dX5_readRule_25 : decode cX5_readRule 25 = .ok (.invokevirtual 52, 3) := by decide +kernel
theorem dX5_readRule_28 : decode cX5_readRule 28 = .ok (.ireturn, 1) := by decide +kernel
theorem dX5_readRule_29 : decode cX5_readRule 29 = .ok (.aload_n 0, 1) := by decide +kernel
theorem dX5_readRule_30 : decode cX5_readRule 30 = .ok (.invokevirtual 39, 3) := by decide +kernel
theorem dX5_readRule_33 : decode cX5_readRule 33 = .ok (.aload_n 0, 1) := by decide +kernel
theorem dX5_readRule_34 : decode cX5_readRule 34 = .ok (.getfield 23, 3) := by decide +kernel
theorem dX5_readRule_37 : decode cX5_readRule 37 = .ok (.istore_n 3, 1) := by decide +kernel
theorem dX5_readRule_38 : decode cX5_readRule 38 = .ok (.aload_n 0, 1) := by decide +kernel
theorem dX5_readRule_39 : decode cX5_readRule 39 = .ok (.invokevirtual 59, 3) := by decide +kernel
theorem dX5_readRule_42 : decode cX5_readRule 42 = .ok (.istore 4, 2) := by decide +kernel
theorem dX5_readRule_44 : decode cX5_readRule 44 = .ok (.iload 4, 2) := by decide +kernel
theorem dX5_readRule_46 : decode cX5_readRule 46 = .ok (.iconst (-1), 1) := by decide +kernel
theorem dX5_readRule_47 : decode cX5_readRule 47 = .ok (.if_icmp .eq 13, 3) := by decide +kernel
theorem dX5_readRule_50 : decode cX5_readRule 50 = .ok (.iload 4, 2) := by decide +kernel
theorem dX5_readRule_52 : decode cX5_readRule 52 = .ok (.getstatic 62, 3) := by decide +kernel
theorem dX5_readRule_55 : decode cX5_readRule 55 = .ok (.iload_n 2, 1) := by decide +kernel
theorem dX5_readRule_56 : decode cX5_readRule 56 = .ok (.iaload, 1) := by decide +kernel
theorem dX5_readRule_57 : decode cX5_readRule 57 = .ok (.if_icmp .le 9, 3) := by decide +kernel
theorem dX5_readRule_60 : decode cX5_readRule 60 = .ok (.aload_n 0, 1) := by decide +kernel
theorem dX5_readRule_61 : decode cX5_readRule 61 = .ok (.iload_n 3, 1) := by decide +kernel
theorem dX5_readRule_62 : decode cX5_readRule 62 = .ok (.invokevirtual 52, 3) := by decide +kernel
theorem dX5_readRule_65 : decode cX5_readRule 65 = .ok (.ireturn, 1) := by decide +kernel
theorem dX5_readRule_66 : decode cX5_readRule 66 = .ok (.aload_n 0, 1) := by decide +kernel
theorem dX5_readRule_67 : decode cX5_readRule 67 = .ok (.getfield 9, 3) := by decide +kernel
theorem dX5_readRule_70 : decode cX5_readRule 70 = .ok (.iload_n 2, 1) := by decide +kernel
theorem dX5_readRule_71 : decode cX5_readRule 71 = .ok (.iload 4, 2) := by decide +kernel
theorem dX5_readRule_73 : decode cX5_readRule 73 = .ok (.iastore, 1) := by decide +kernel
theorem dX5_readRule_74 : decode cX5_readRule 74 = .ok (.aload_n 0, 1) := by decide +kernel
theorem dX5_readRule_75 : decode cX5_readRule 75 = .ok (.dup, 1) := by decide +kernel
theorem dX5_readRule_76 : decode cX5_readRule 76 = .ok (.getfield 26, 3) := by decide +kernel
theorem dX5_readRule_79 : decode cX5_readRule 79 = .ok (.iconst 1, 1) := by decide +kernel
theorem dX5_readRule_80 : decode cX5_readRule 80 = .ok (.iadd, 1) := by decide +kernel
theorem dX5_readRule_81 : decode cX5_readRule 81 = .ok (.putfield 26, 3) := by decide +kernel
theorem dX5_readRule_84 : decode cX5_readRule 84 = .ok (.iconst 1, 1) := by decide +kernel
theorem dX5_readRule_85 : decode cX5_readRule 85 = .ok (.ireturn, 1) := by decide +kernel
set_option maxRecDepth 20000 in
theorem ggX5_skipBlanks_X6_size : GoodIn wsX5_skipBlanks wsX6_size := goodIn_r _ [7, 8, 19, 20] rfl (by decide +kernel)
set_option maxRecDepth 20000 in
theorem gX5_skipBlanks_X6_size : GoodIn wsX5_skipBlanks (wsV RX5 42 RX6 yX6_size wsX6_size) := goodIn_app (goodIn_of _ (by decide +kernel)) ggX5_skipBlanks_X6_size
set_option maxRecDepth 20000 in
theorem ggX5_skipBlanks_X6_byteAt : GoodIn wsX5_skipBlanks wsX6_byteAt := goodIn_r _ [12, 8, 13, 19, 20] rfl (by decide +kernel)
set_option maxRecDepth 20000 in
theorem gX5_skipBlanks_X6_byteAt : GoodIn wsX5_skipBlanks (wsV RX5 48 RX6 yX6_byteAt wsX6_byteAt) := goodIn_app (goodIn_of _ (by decide +kernel)) ggX5_skipBlanks_X6_byteAt
theorem dX5_skipBlanks_0 : decode cX5_skipBlanks 0 = .ok (.aload_n 0, 1) := by decide +kernel
theorem dX5_skipBlanks_1 : decode cX5_skipBlanks 1 = .ok (.getfield 23, 3) := by decide +kernel
theorem dX5_skipBlanks_4 : decode cX5_skipBlanks 4 = .ok (.aload_n 0, 1) := by decide +kernel
theorem dX5_skipBlanks_5 : decode cX5_skipBlanks 5 = .ok (.getfield 19, 3) := by decide +kernel
theorem dX5_skipBlanks_8 : decode cX5_skipBlanks 8 = .ok (.invokevirtual 42, 3) := by decide +kernel
theorem dX5_skipBlanks_11 : decode cX5_skipBlanks 11 = .ok (.if_icmp .ge 32, 3) := by decide +kernel
theorem dX5_skipBlanks_14 : decode cX5_skipBlanks 14 = .ok (.aload_n 0, 1) := by decide +kernel
theorem dX5_skipBlanks_15 : decode cX5_skipBlanks 15 = .ok (.getfield 19, 3) := by decide +kernel
theorem dX5_skipBlanks_18 : decode cX5_skipBlanks 18 = .ok (.aload_n 0, 1) := by decide +kernel
theorem dX5_skipBlanks_19 : decode cX5_skipBlanks 19 = .ok (.getfield 23, 3) := by decide +kernel
theorem dX5_skipBlanks_22 : decode cX5_skipBlanks 22 = .ok (.invokevirtual 48, 3) := by decide +kernel
theorem dX5_skipBlanks_25 : decode cX5_skipBlanks 25 = .ok (.bipush 32, 2) := by decide +kernel
theorem dX5_skipBlanks_27 : decode cX5_skipBlanks 27 = .ok (.if_icmp .ne 16, 3) := by decide +kernel
theorem dX5_skipBlanks_30 : decode cX5_skipBlanks 30 = .ok (.aload_n 0, 1) := by decide +kernel
theorem dX5_skipBlanks_31 : decode cX5_skipBlanks 31 = .ok (.dup, 1) := by decide +kernel
theorem dX5_skipBlanks_32 : decode cX5_skipBlanks 32 = .ok (.getfield 23, 3) := by decide +kernel
theorem dX5_skipBlanks_35 : decode cX5_skipBlanks 35 = .ok (.iconst 1, 1) := by decide +kernel
theorem dX5_skipBlanks_36 : decode cX5_skipBlanks 36 = .ok (.iadd, 1) := by decide +kernel
theorem dX5_skipBlanks_37 : decode cX5_skipBlanks 37 = .ok (.putfield 23, 3) := by decide +kernel
theorem dX5_skipBlanks_40 : decode cX5_skipBlanks 40 = .ok (.goto (-40), 3) := by decide +kernel
theorem dX5_skipBlanks_43 : decode cX5_skipBlanks 43 = .ok (.return_, 1) := by decide +kernel
set_option maxRecDepth 20000 in
theorem ggX5_readKind_X6_size : GoodIn wsX5_readKind wsX6_size := goodIn_r _ [7, 8, 79, 80] rfl (by decide +kernel)
set_option maxRecDepth 20000 in
theorem gX5_readKind_X6_size : GoodIn wsX5_readKind (wsV RX5 42 RX6 yX6_size wsX6_size) := goodIn_app (goodIn_of _ (by decide +kernel)) ggX5_readKind_X6_size
set_option maxRecDepth 20000 in
theorem ggX5_readKind_X6_byteAt : GoodIn wsX5_readKind wsX6_byteAt := goodIn_r _ [12, 8, 13, 79, 80] rfl (by decide +kernel)
set_option maxRecDepth 20000 in
theorem gX5_readKind_X6_byteAt : GoodIn wsX5_readKind (wsV RX5 48 RX6 yX6_byteAt wsX6_byteAt) := goodIn_app (goodIn_of _ (by decide +kernel)) ggX5_readKind_X6_byteAt
set_option maxRecDepth 20000 in
theorem ggX5_readKind_X7_isWithin : GoodIn wsX5_readKind wsX7_isWithin := goodIn_r _ [16] rfl (by decide +kernel)
set_option maxRecDepth 20000 in
theorem gX5_readKind_X7_isWithin_n65 : GoodIn wsX5_readKind (wsX7_isWithin) := ggX5_readKind_X7_isWithin
set_option maxRecDepth 20000 in
theorem ggX5_readKind_X5_wordOf : GoodIn wsX5_readKind wsX5_wordOf := goodIn_r _ [20] rfl (by decide +kernel)
set_option maxRecDepth 20000 in
theorem gX5_readKind_X5_wordOf : GoodIn wsX5_readKind (va_wsS RX5 69 yX5_wordOf wsX5_wordOf) := goodIn_app (goodIn_of _ (by decide +kernel)) ggX5_readKind_X5_wordOf
set_option maxRecDepth 20000 in
theorem ggX5_readKind_X5_isWord : GoodIn wsX5_readKind wsX5_isWord := goodIn_r _ [24, 2, 25, 26, 27, 28, 29, 30, 31, 32, 33, 34, 35, 36, 9, 10, 11, 6, 12, 8, 13, 37, 38, 39, 40, 41, 42, 43, 44, 45, 46, 47, 48, 49, 50, 51, 52, 53, 54, 55, 56, 57, 58, 59, 60, 61, 62, 63, 64, 65, 66, 67, 68, 69, 70, 71, 72, 73, 74, 75, 76, 77, 78, 79, 80] rfl (by decide +kernel)
set_option maxRecDepth 20000 in
theorem gX5_readKind_X5_isWord : GoodIn wsX5_readKind (wsV RX5 73 RX5 yX5_isWord wsX5_isWord) := goodIn_app (goodIn_of _ (by decide +kernel)) ggX5_readKind_X5_isWord
theorem dX5_readKind_0 : decode cX5_readKind 0 = .ok (.aload_n 0, 1) := by decide +kernel
theorem dX5_readKind_1 : decode cX5_readKind 1 = .ok (.getfield 23, 3) := by decide +kernel
theorem dX5_readKind_4 : decode cX5_readKind 4 = .ok (.istore_n 1, 1) := by decide +kernel
theorem dX5_readKind_5 : decode cX5_readKind 5 = .ok (.aload_n 0, 1) := by decide +kernel
theorem dX5_readKind_6 : decode cX5_readKind 6 = .ok (.getfield 23, 3) := by decide +kernel
theorem dX5_readKind_9 : decode cX5_readKind 9 = .ok (.aload_n 0, 1) := by decide +kernel
theorem dX5_readKind_10 : decode cX5_readKind 10 = .ok (.getfield 19, 3) := by decide +kernel
theorem dX5_readKind_13 : decode cX5_readKind 13 = .ok (.invokevirtual 42, 3) := by decide +kernel
theorem dX5_readKind_16 : decode cX5_readKind 16 = .ok (.if_icmp .ge 37, 3) := by decide +kernel
theorem dX5_readKind_19 : decode cX5_readKind 19 = .ok (.aload_n 0, 1) := by decide +kernel
theorem dX5_readKind_20 : decode cX5_readKind 20 = .ok (.getfield 19, 3) := by decide +kernel
theorem dX5_readKind_23 : decode cX5_readKind 23 = .ok (.aload_n 0, 1) := by decide +kernel
theorem dX5_readKind_24 : decode cX5_readKind 24 = .ok (.getfield 23, 3) := by decide +kernel
theorem dX5_readKind_27 : decode cX5_readKind 27 = .ok (.invokevirtual 48, 3) := by decide +kernel
theorem dX5_readKind_30 : decode cX5_readKind 30 = .ok (.bipush 97, 2) := by decide +kernel
theorem dX5_readKind_32 : decode cX5_readKind 32 = .ok (.bipush 122, 2) := by decide +kernel
theorem dX5_readKind_34 : decode cX5_readKind 34 = .ok (.invokestatic 65, 3) := by decide +kernel
theorem dX5_readKind_37 : decode cX5_readKind 37 = .ok (.ifCond .eq 16, 3) := by decide +kernel
theorem dX5_readKind_40 : decode cX5_readKind 40 = .ok (.aload_n 0, 1) := by decide +kernel
theorem dX5_readKind_41 : decode cX5_readKind 41 = .ok (.dup, 1) := by decide +kernel
theorem dX5_readKind_42 : decode cX5_readKind 42 = .ok (.getfield 23, 3) := by decide +kernel
theorem dX5_readKind_45 : decode cX5_readKind 45 = .ok (.iconst 1, 1) := by decide +kernel
theorem dX5_readKind_46 : decode cX5_readKind 46 = .ok (.iadd, 1) := by decide +kernel
theorem dX5_readKind_47 : decode cX5_readKind 47 = .ok (.putfield 23, 3) := by decide +kernel
theorem dX5_readKind_50 : decode cX5_readKind 50 = .ok (.goto (-45), 3) := by decide +kernel
theorem dX5_readKind_53 : decode cX5_readKind 53 = .ok (.iconst 0, 1) := by decide +kernel
theorem dX5_readKind_54 : decode cX5_readKind 54 = .ok (.istore_n 2, 1) := by decide +kernel
theorem dX5_readKind_55 : decode cX5_readKind 55 = .ok (.iload_n 2, 1) := by decide +kernel
theorem dX5_readKind_56 : decode cX5_readKind 56 = .ok (.iconst 5, 1) := by decide +kernel
theorem dX5_readKind_57 : decode cX5_readKind 57 = .ok (.if_icmp .ge 27, 3) := by decide +kernel
theorem dX5_readKind_60 : decode cX5_readKind 60 = .ok (.aload_n 0, 1) := by decide +kernel
theorem dX5_readKind_61 : decode cX5_readKind 61 = .ok (.iload_n 1, 1) := by decide +kernel
theorem dX5_readKind_62 : decode cX5_readKind 62 = .ok (.aload_n 0, 1) := by decide +kernel
theorem dX5_readKind_63 : decode cX5_readKind 63 = .ok (.getfield 23, 3) := by decide +kernel
theorem dX5_readKind_66 : decode cX5_readKind 66 = .ok (.iload_n 2, 1) := by decide +kernel
theorem dX5_readKind_67 : decode cX5_readKind 67 = .ok (.invokestatic 69, 3) := by decide +kernel
theorem dX5_readKind_70 : decode cX5_readKind 70 = .ok (.invokevirtual 73, 3) := by decide +kernel
theorem dX5_readKind_73 : decode cX5_readKind 73 = .ok (.ifCond .eq 5, 3) := by decide +kernel
theorem dX5_readKind_76 : decode cX5_readKind 76 = .ok (.iload_n 2, 1) := by decide +kernel
theorem dX5_readKind_77 : decode cX5_readKind 77 = .ok (.ireturn, 1) := by decide +kernel
theorem dX5_readKind_78 : decode cX5_readKind 78 = .ok (.iinc 2 1, 3) := by decide +kernel
theorem dX5_readKind_81 : decode cX5_readKind 81 = .ok (.goto (-26), 3) := by decide +kernel
theorem dX5_readKind_84 : decode cX5_readKind 84 = .ok (.iconst (-1), 1) := by decide +kernel
theorem dX5_readKind_85 : decode cX5_readKind 85 = .ok (.ireturn, 1) := by decide +kernel
set_option maxRecDepth 20000 in
theorem ggX5_isWord_J0_length_8abf5 : GoodIn wsX5_isWord wsJ0_length_8abf5 := goodIn_r _ [6, 7, 8, 9, 10, 5, 11, 12, 13] rfl (by decide +kernel)
set_option maxRecDepth 20000 in
theorem gX5_isWord_J0_length_8abf5 : GoodIn wsX5_isWord (wsV RX5 77 RJ0 yJ0_length_8abf5 wsJ0_length_8abf5) := goodIn_app (goodIn_of _ (by decide +kernel)) ggX5_isWord_J0_length_8abf5
set_option maxRecDepth 20000 in
theorem ggX5_isWord_X6_byteAt : GoodIn wsX5_isWord wsX6_byteAt := goodIn_r _ [18, 19, 20, 63, 64] rfl (by decide +kernel)
set_option maxRecDepth 20000 in
theorem gX5_isWord_X6_byteAt : GoodIn wsX5_isWord (wsV RX5 48 RX6 yX6_byteAt wsX6_byteAt) := goodIn_app (goodIn_of _ (by decide +kernel)) ggX5_isWord_X6_byteAt
set_option maxRecDepth 20000 in
theorem ggX5_isWord_J0_charAt_5068e : GoodIn wsX5_isWord wsJ0_charAt_5068e := goodIn_r _ [24, 7, 25, 26, 27, 5, 28, 12, 13, 29, 30, 31, 32, 33, 34, 35, 36, 37, 38, 39, 40, 41, 42, 43, 44, 45, 46, 47, 48, 49, 50, 51, 52, 53, 54, 55, 56, 57] rfl (by decide +kernel)
set_option maxRecDepth 20000 in
theorem gX5_isWord_J0_charAt_5068e : GoodIn wsX5_isWord (wsV RX5 82 RJ0 yJ0_charAt_5068e wsJ0_charAt_5068e) := goodIn_app (goodIn_of _ (by decide +kernel)) ggX5_isWord_J0_charAt_5068e
theorem dX5_isWord_0 : decode cX5_isWord 0 = .ok (.iload_n 2, 1) := by decide +kernel
theorem dX5_isWord_1 : decode cX5_isWord 1 = .ok (.iload_n 1, 1) := by decide +kernel
theorem dX5_isWord_2 : decode cX5_isWord 2 = .ok (.isub, 1) := by decide +kernel
theorem dX5_isWord_3 : decode cX5_isWord 3 = .ok (.aload_n 3, 1) := by decide +kernel
theorem dX5_isWord_4 : decode cX5_isWord 4 = .ok (.invokevirtual 77, 3) := by decide +kernel
theorem dX5_isWord_7 : decode cX5_isWord 7 = .ok (.if_icmp .eq 5, 3) := by decide +kernel
theorem dX5_isWord_10 : decode cX5_isWord 10 = .ok (.iconst 0, 1) := by decide +kernel
theorem dX5_isWord_11 : decode cX5_isWord 11 = .ok (.ireturn, 1) := by decide +kernel
theorem dX5_isWord_12 : decode cX5_isWord 12 = .ok (.iconst 0, 1) := by decide +kernel
theorem dX5_isWord_13 : decode cX5_isWord 13 = .ok (.istore 4, 2) := by decide +kernel
theorem dX5_isWord_15 : decode cX5_isWord 15 = .ok (.iload 4, 2) := by decide +kernel
theorem dX5_isWord_17 : decode cX5_isWord 17 = .ok (.aload_n 3, 1) := by decide +kernel
theorem dX5_isWord_18 : decode cX5_isWord 18 = .ok (.invokevirtual 77, 3) := by decide +kernel
theorem dX5_isWord_21 : decode cX5_isWord 21 = .ok (.if_icmp .ge 31, 3) := by decide +kernel
theorem dX5_isWord_24 : decode cX5_isWord 24 = .ok (.aload_n 0, 1) := by decide +kernel
theorem dX5_isWord_25 : decode cX5_isWord 25 = .ok (.getfield 19, 3) := by decide +kernel
theorem dX5_isWord_28 : decode cX5_isWord 28 = .ok (.iload_n 1, 1) := by decide +kernel
theorem dX5_isWord_29 : decode cX5_isWord 29 = .ok (.iload 4, 2) := by decide +kernel
theorem dX5_isWord_31 : decode cX5_isWord 31 = .ok (.iadd, 1) := by decide +kernel
theorem dX5_isWord_32 : decode cX5_isWord 32 = .ok (.invokevirtual 48, 3) := by decide +kernel
theorem dX5_isWord_35 : decode cX5_isWord 35 = .ok (.aload_n 3, 1) := by decide +kernel
theorem dX5_isWord_36 : decode cX5_isWord 36 = .ok (.iload 4, 2) := by decide +kernel
theorem dX5_isWord_38 : decode cX5_isWord 38 = .ok (.invokevirtual 82, 3) := by decide +kernel
theorem dX5_isWord_41 : decode cX5_isWord 41 = .ok (.if_icmp .eq 5, 3) := by decide +kernel
theorem dX5_isWord_44 : decode cX5_isWord 44 = .ok (.iconst 0, 1) := by decide +kernel
theorem dX5_isWord_45 : decode cX5_isWord 45 = .ok (.ireturn, 1) := by decide +kernel
theorem dX5_isWord_46 : decode cX5_isWord 46 = .ok (.iinc 4 1, 3) := by decide +kernel
theorem dX5_isWord_49 : decode cX5_isWord 49 = .ok (.goto (-34), 3) := by decide +kernel
theorem dX5_isWord_52 : decode cX5_isWord 52 = .ok (.iconst 1, 1) := by decide +kernel
theorem dX5_isWord_53 : decode cX5_isWord 53 = .ok (.ireturn, 1) := by decide +kernel
theorem dX5_wordOf_0 : decode cX5_wordOf 0 = .ok (.iload_n 0, 1) := by decide +kernel
theorem dX5_wordOf_1 : decode cX5_wordOf 1 = .ok (.tableswitch 43 0 3 #[31, 34, 37, 40], 31) := by decide +kernel
theorem dX5_wordOf_32 : decode cX5_wordOf 32 = .ok (.ldc 86, 2) := by decide +kernel
theorem dX5_wordOf_34 : decode cX5_wordOf 34 = .ok (.areturn, 1) := by decide +kernel
theorem dX5_wordOf_35 : decode cX5_wordOf 35 = .ok (.ldc 88, 2) := by decide +kernel
theorem dX5_wordOf_37 : decode cX5_wordOf 37 = .ok (.areturn, 1) := by decide +kernel
theorem dX5_wordOf_38 : decode cX5_wordOf 38 = .ok (.ldc 90, 2) := by decide +kernel
theorem dX5_wordOf_40 : decode cX5_wordOf 40 = .ok (.areturn, 1) := by decide +kernel
theorem dX5_wordOf_41 : decode cX5_wordOf 41 = .ok (.ldc 92, 2) := by decide +kernel
theorem dX5_wordOf_43 : decode cX5_wordOf 43 = .ok (.areturn, 1) := by decide +kernel
theorem dX5_wordOf_44 : decode cX5_wordOf 44 = .ok (.ldc 94, 2) := by decide +kernel
theorem dX5_wordOf_46 : decode cX5_wordOf 46 = .ok (.areturn, 1) := by decide +kernel
set_option maxRecDepth 20000 in
theorem ggX5_readNumber_X6_size : GoodIn wsX5_readNumber wsX6_size := goodIn_r _ [7, 8, 22, 23] rfl (by decide +kernel)
set_option maxRecDepth 20000 in
theorem gX5_readNumber_X6_size : GoodIn wsX5_readNumber (wsV RX5 42 RX6 yX6_size wsX6_size) := goodIn_app (goodIn_of _ (by decide +kernel)) ggX5_readNumber_X6_size
set_option maxRecDepth 20000 in
theorem ggX5_readNumber_X6_byteAt : GoodIn wsX5_readNumber wsX6_byteAt := goodIn_r _ [12, 8, 13, 22, 23] rfl (by decide +kernel)
set_option maxRecDepth 20000 in
theorem gX5_readNumber_X6_byteAt : GoodIn wsX5_readNumber (wsV RX5 48 RX6 yX6_byteAt wsX6_byteAt) := goodIn_app (goodIn_of _ (by decide +kernel)) ggX5_readNumber_X6_byteAt
set_option maxRecDepth 20000 in
theorem ggX5_readNumber_X7_isWithin : GoodIn wsX5_readNumber wsX7_isWithin := goodIn_r _ [16] rfl (by decide +kernel)
set_option maxRecDepth 20000 in
theorem gX5_readNumber_X7_isWithin_n65 : GoodIn wsX5_readNumber (wsX7_isWithin) := ggX5_readNumber_X7_isWithin
theorem dX5_readNumber_0 : decode cX5_readNumber 0 = .ok (.aload_n 0, 1) := by decide +kernel
theorem dX5_readNumber_1 : decode cX5_readNumber 1 = .ok (.getfield 23, 3) := by decide +kernel
theorem dX5_readNumber_4 : decode cX5_readNumber 4 = .ok (.istore_n 1, 1) := by decide +kernel
theorem dX5_readNumber_5 : decode cX5_readNumber 5 = .ok (.iconst 0, 1) := by decide +kernel
theorem dX5_readNumber_6 : decode cX5_readNumber 6 = .ok (.istore_n 2, 1) := by decide +kernel
theorem dX5_readNumber_7 : decode cX5_readNumber 7 = .ok (.aload_n 0, 1) := by decide +kernel
theorem dX5_readNumber_8 : decode cX5_readNumber 8 = .ok (.getfield 23, 3) := by decide +kernel
theorem dX5_readNumber_11 : decode cX5_readNumber 11 = .ok (.aload_n 0, 1) := by decide +kernel
theorem dX5_readNumber_12 : decode cX5_readNumber 12 = .ok (.getfield 19, 3) := by decide +kernel
theorem dX5_readNumber_15 : decode cX5_readNumber 15 = .ok (.invokevirtual 42, 3) := by decide +kernel
theorem dX5_readNumber_18 : decode cX5_readNumber 18 = .ok (.if_icmp .ge 67, 3) := by decide +kernel
theorem dX5_readNumber_21 : decode cX5_readNumber 21 = .ok (.aload_n 0, 1) := by decide +kernel
theorem dX5_readNumber_22 : decode cX5_readNumber 22 = .ok (.getfield 19, 3) := by decide +kernel
theorem dX5_readNumber_25 : decode cX5_readNumber 25 = .ok (.aload_n 0, 1) := by decide +kernel
theorem dX5_readNumber_26 : decode cX5_readNumber 26 = .ok (.getfield 23, 3) := by decide +kernel
theorem dX5_readNumber_29 : decode cX5_readNumber 29 = .ok (.invokevirtual 48, 3) := by decide +kernel
theorem dX5_readNumber_32 : decode cX5_readNumber 32 = .ok (.bipush 48, 2) := by decide +kernel
theorem dX5_readNumber_34 : decode cX5_readNumber 34 = .ok (.bipush 57, 2) := by decide +kernel
theorem dX5_readNumber_36 : decode cX5_readNumber 36 = .ok (.invokestatic 65, 3) := by decide +kernel
theorem dX5_readNumber_39 : decode cX5_readNumber 39 = .ok (.ifCond .eq 46, 3) := by decide +kernel
theorem dX5_readNumber_42 : decode cX5_readNumber 42 = .ok (.aload_n 0, 1) := by decide +kernel
theorem dX5_readNumber_43 : decode cX5_readNumber 43 = .ok (.getfield 23, 3) := by decide +kernel
theorem dX5_readNumber_46 : decode cX5_readNumber 46 = .ok (.iload_n 1, 1) := by decide +kernel
theorem dX5_readNumber_47 : decode cX5_readNumber 47 = .ok (.isub, 1) := by decide +kernel
theorem dX5_readNumber_48 : decode cX5_readNumber 48 = .ok (.iconst 5, 1) := by decide +kernel
theorem dX5_readNumber_49 : decode cX5_readNumber 49 = .ok (.if_icmp .ge 23, 3) := by decide +kernel
theorem dX5_readNumber_52 : decode cX5_readNumber 52 = .ok (.iload_n 2, 1) := by decide +kernel
theorem dX5_readNumber_53 : decode cX5_readNumber 53 = .ok (.bipush 10, 2) := by decide +kernel
theorem dX5_readNumber_55 : decode cX5_readNumber 55 = .ok (.imul, 1) := by decide +kernel
theorem dX5_readNumber_56 : decode cX5_readNumber 56 = .ok (.aload_n 0, 1) := by decide +kernel
theorem dX5_readNumber_57 : decode cX5_readNumber 57 = .ok (.getfield 19, 3) := by decide +kernel
theorem dX5_readNumber_60 : decode cX5_readNumber 60 = .ok (.aload_n 0, 1) := by decide +kernel
theorem dX5_readNumber_61 : decode cX5_readNumber 61 = .ok (.getfield 23, 3) := by decide +kernel
theorem dX5_readNumber_64 : decode cX5_readNumber 64 = .ok (.invokevirtual 48, 3) := by decide +kernel
theorem dX5_readNumber_67 : decode cX5_readNumber 67 = .ok (.iadd, 1) := by decide +kernel
theorem dX5_readNumber_68 : decode cX5_readNumber 68 = .ok (.bipush 48, 2) := by decide +kernel
theorem dX5_readNumber_70 : decode cX5_readNumber 70 = .ok (.isub, 1) := by decide +kernel
theorem dX5_readNumber_71 : decode cX5_readNumber 71 = .ok (.istore_n 2, 1) := by decide +kernel
theorem dX5_readNumber_72 : decode cX5_readNumber 72 = .ok (.aload_n 0, 1) := by decide +kernel
theorem dX5_readNumber_73 : decode cX5_readNumber 73 = .ok (.dup, 1) := by decide +kernel
theorem dX5_readNumber_74 : decode cX5_readNumber 74 = .ok (.getfield 23, 3) := by decide +kernel
theorem dX5_readNumber_77 : decode cX5_readNumber 77 = .ok (.iconst 1, 1) := by decide +kernel
theorem dX5_readNumber_78 : decode cX5_readNumber 78 = .ok (.iadd, 1) := by decide +kernel
theorem dX5_readNumber_79 : decode cX5_readNumber 79 = .ok (.putfield 23, 3) := by decide +kernel
theorem dX5_readNumber_82 : decode cX5_readNumber 82 = .ok (.goto (-75), 3) := by decide +kernel
theorem dX5_readNumber_85 : decode cX5_readNumber 85 = .ok (.aload_n 0, 1) := by decide +kernel
theorem dX5_readNumber_86 : decode cX5_readNumber 86 = .ok (.getfield 23, 3) := by decide +kernel
theorem dX5_readNumber_89 : decode cX5_readNumber 89 = .ok (.iload_n 1, 1) := by decide +kernel
theorem dX5_readNumber_90 : decode cX5_readNumber 90 = .ok (.isub, 1) := by decide +kernel
theorem dX5_readNumber_91 : decode cX5_readNumber 91 = .ok (.iconst 1, 1) := by decide +kernel
theorem dX5_readNumber_92 : decode cX5_readNumber 92 = .ok (.iconst 5, 1) := by decide +kernel
theorem dX5_readNumber_93 : decode cX5_readNumber 93 = .ok (.invokestatic 65, 3) := by decide +kernel
theorem dX5_readNumber_96 : decode cX5_readNumber 96 = .ok (.ifCond .eq 7, 3) := by decide +kernel
theorem dX5_readNumber_99 : decode cX5_readNumber 99 = .ok (.iload_n 2, 1) := by decide +kernel
theorem dX5_readNumber_100 : decode cX5_readNumber 100 = .ok (.goto 4, 3) := by decide +kernel
theorem dX5_readNumber_103 : decode cX5_readNumber 103 = .ok (.iconst (-1), 1) := by decide +kernel
theorem dX5_readNumber_104 : decode cX5_readNumber 104 = .ok (.ireturn, 1) := by decide +kernel
theorem dX6_init_0 : decode cX6_init 0 = .ok (.aload_n 0, 1) := by decide +kernel
theorem dX6_init_1 : decode cX6_init 1 = .ok (.invokespecial 3, 3) := by decide +kernel
theorem dX6_init_4 : decode cX6_init 4 = .ok (.aload_n 0, 1) := by decide +kernel
theorem dX6_init_5 : decode cX6_init 5 = .ok (.sipush 400, 3) := by decide +kernel
theorem dX6_init_8 : decode cX6_init 8 = .ok (.newarray .byte, 2) := by decide +kernel
theorem dX6_init_10 : decode cX6_init 10 = .ok (.putfield 9, 3) := by decide +kernel
theorem dX6_init_13 : decode cX6_init 13 = .ok (.return_, 1) := by decide +kernel
theorem dX6_size_0 : decode cX6_size 0 = .ok (.aload_n 0, 1) := by decide +kernel
theorem dX6_size_1 : decode cX6_size 1 = .ok (.getfield 15, 3) := by decide +kernel
theorem dX6_size_4 : decode cX6_size 4 = .ok (.ireturn, 1) := by decide +kernel
theorem dX6_hasSpaceFor_0 : decode cX6_hasSpaceFor 0 = .ok (.aload_n 0, 1) := by decide +kernel
theorem dX6_hasSpaceFor_1 : decode cX6_hasSpaceFor 1 = .ok (.getfield 15, 3) := by decide +kernel
theorem dX6_hasSpaceFor_4 : decode cX6_hasSpaceFor 4 = .ok (.iload_n 1, 1) := by decide +kernel
theorem dX6_hasSpaceFor_5 : decode cX6_hasSpaceFor 5 = .ok (.iadd, 1) := by decide +kernel
theorem dX6_hasSpaceFor_6 : decode cX6_hasSpaceFor 6 = .ok (.aload_n 0, 1) := by decide +kernel
theorem dX6_hasSpaceFor_7 : decode cX6_hasSpaceFor 7 = .ok (.getfield 9, 3) := by decide +kernel
theorem dX6_hasSpaceFor_10 : decode cX6_hasSpaceFor 10 = .ok (.arraylength, 1) := by decide +kernel
theorem dX6_hasSpaceFor_11 : decode cX6_hasSpaceFor 11 = .ok (.if_icmp .gt 7, 3) := by decide +kernel
theorem dX6_hasSpaceFor_14 : decode cX6_hasSpaceFor 14 = .ok (.iconst 1, 1) := by decide +kernel
theorem dX6_hasSpaceFor_15 : decode cX6_hasSpaceFor 15 = .ok (.goto 4, 3) := by decide +kernel
theorem dX6_hasSpaceFor_18 : decode cX6_hasSpaceFor 18 = .ok (.iconst 0, 1) := by decide +kernel
theorem dX6_hasSpaceFor_19 : decode cX6_hasSpaceFor 19 = .ok (.ireturn, 1) := by decide +kernel
theorem dX6_append_0 : decode cX6_append 0 = .ok (.bipush 24, 2) := by decide +kernel
theorem dX6_append_2 : decode cX6_append 2 = .ok (.istore_n 2, 1) := by decide +kernel
theorem dX6_append_3 : decode cX6_append 3 = .ok (.iload_n 2, 1) := by decide +kernel
theorem dX6_append_4 : decode cX6_append 4 = .ok (.ifCond .lt 51, 3) := by decide +kernel
theorem dX6_append_7 : decode cX6_append 7 = .ok (.aload_n 0, 1) := by decide +kernel
theorem dX6_append_8 : decode cX6_append 8 = .ok (.getfield 15, 3) := by decide +kernel
theorem dX6_append_11 : decode cX6_append 11 = .ok (.ifCond .lt 38, 3) := by decide +kernel
theorem dX6_append_14 : decode cX6_append 14 = .ok (.aload_n 0, 1) := by decide +kernel
theorem dX6_append_15 : decode cX6_append 15 = .ok (.getfield 15, 3) := by decide +kernel
theorem dX6_append_18 : decode cX6_append 18 = .ok (.aload_n 0, 1) := by decide +kernel
theorem dX6_append_19 : decode cX6_append 19 = .ok (.getfield 9, 3) := by decide +kernel
theorem dX6_append_22 : decode cX6_append 22 = .ok (.arraylength, 1) := by decide +kernel
theorem dX6_append_23 : decode cX6_append 23 = .ok (.if_icmp .ge 26, 3) := by decide +kernel
theorem dX6_append_26 : decode cX6_append 26 = .ok (.aload_n 0, 1) := by decide +kernel
theorem dX6_append_27 : decode cX6_append 27 = .ok (.getfield 9, 3) := by decide +kernel
theorem dX6_append_30 : decode cX6_append 30 = .ok (.aload_n 0, 1) := by decide +kernel
theorem dX6_append_31 : decode cX6_append 31 = .ok (.getfield 15, 3) := by decide +kernel
theorem dX6_append_34 : decode cX6_append 34 = .ok (.iload_n 1, 1) := by decide +kernel
theorem dX6_append_35 : decode cX6_append 35 = .ok (.iload_n 2, 1) := by decide +kernel
theorem dX6_append_36 : decode cX6_append 36 = .ok (.ishr, 1) := by decide +kernel
theorem dX6_append_37 : decode cX6_append 37 = .ok (.i2b, 1) := by decide +kernel
theorem dX6_append_38 : decode cX6_append 38 = .ok (.bastore, 1) := by decide +kernel
theorem dX6_append_39 : decode cX6_append 39 = .ok (.aload_n 0, 1) := by decide +kernel
theorem dX6_append_40 : decode cX6_append 40 = .ok (.dup, 1) := by decide +kernel
theorem dX6_append_41 : decode cX6_append 41 = .ok (.getfield 15, 3) := by decide +kernel
theorem dX6_append_44 : decode cX6_append 44 = .ok (.iconst 1, 1) := by decide +kernel
theorem dX6_append_45 : decode cX6_append 45 = .ok (.iadd, 1) := by decide +kernel
theorem dX6_append_46 : decode cX6_append 46 = .ok (.putfield 15, 3) := by decide +kernel
theorem dX6_append_49 : decode cX6_append 49 = .ok (.iinc 2 (-8), 3) := by decide +kernel
theorem dX6_append_52 : decode cX6_append 52 = .ok (.goto (-49), 3) := by decide +kernel
theorem dX6_append_55 : decode cX6_append 55 = .ok (.return_, 1) := by decide +kernel
theorem dX6_cutTo_0 : decode cX6_cutTo 0 = .ok (.iload_n 1, 1) := by decide +kernel
theorem dX6_cutTo_1 : decode cX6_cutTo 1 = .ok (.ifCond .lt 11, 3) := by decide +kernel
theorem dX6_cutTo_4 : decode cX6_cutTo 4 = .ok (.iload_n 1, 1) := by decide +kernel
theorem dX6_cutTo_5 : decode cX6_cutTo 5 = .ok (.aload_n 0, 1) := by decide +kernel
theorem dX6_cutTo_6 : decode cX6_cutTo 6 = .ok (.getfield 15, 3) := by decide +kernel
theorem dX6_cutTo_9 : decode cX6_cutTo 9 = .ok (.if_icmp .le 5, 3) := by decide +kernel
theorem dX6_cutTo_12 : decode cX6_cutTo 12 = .ok (.iconst 0, 1) := by decide +kernel
theorem dX6_cutTo_13 : decode cX6_cutTo 13 = .ok (.ireturn, 1) := by decide +kernel
theorem dX6_cutTo_14 : decode cX6_cutTo 14 = .ok (.aload_n 0, 1) := by decide +kernel
theorem dX6_cutTo_15 : decode cX6_cutTo 15 = .ok (.iload_n 1, 1) := by decide +kernel
theorem dX6_cutTo_16 : decode cX6_cutTo 16 = .ok (.putfield 15, 3) := by decide +kernel
theorem dX6_cutTo_19 : decode cX6_cutTo 19 = .ok (.iconst 1, 1) := by decide +kernel
theorem dX6_cutTo_20 : decode cX6_cutTo 20 = .ok (.ireturn, 1) := by decide +kernel
theorem dX6_clear_0 : decode cX6_clear 0 = .ok (.aload_n 0, 1) := by decide +kernel
theorem dX6_clear_1 : decode cX6_clear 1 = .ok (.iconst 0, 1) := by decide +kernel
theorem dX6_clear_2 : decode cX6_clear 2 = .ok (.putfield 15, 3) := by decide +kernel
theorem dX6_clear_5 : decode cX6_clear 5 = .ok (.return_, 1) := by decide +kernel
theorem dX6_byteAt_0 : decode cX6_byteAt 0 = .ok (.iload_n 1, 1) := by decide +kernel
theorem dX6_byteAt_1 : decode cX6_byteAt 1 = .ok (.ifCond .lt 33, 3) := by decide +kernel
theorem dX6_byteAt_4 : decode cX6_byteAt 4 = .ok (.iload_n 1, 1) := by decide +kernel
theorem dX6_byteAt_5 : decode cX6_byteAt 5 = .ok (.aload_n 0, 1) := by decide +kernel
theorem dX6_byteAt_6 : decode cX6_byteAt 6 = .ok (.getfield 15, 3) := by decide +kernel
theorem dX6_byteAt_9 : decode cX6_byteAt 9 = .ok (.if_icmp .ge 25, 3) := by decide +kernel
theorem dX6_byteAt_12 : decode cX6_byteAt 12 = .ok (.iload_n 1, 1) := by decide +kernel
theorem dX6_byteAt_13 : decode cX6_byteAt 13 = .ok (.aload_n 0, 1) := by decide +kernel
theorem dX6_byteAt_14 : decode cX6_byteAt 14 = .ok (.getfield 9, 3) := by decide +kernel
theorem dX6_byteAt_17 : decode cX6_byteAt 17 = .ok (.arraylength, 1) := by decide +kernel
theorem dX6_byteAt_18 : decode cX6_byteAt 18 = .ok (.if_icmp .ge 16, 3) := by decide +kernel
theorem dX6_byteAt_21 : decode cX6_byteAt 21 = .ok (.aload_n 0, 1) := by decide +kernel
theorem dX6_byteAt_22 : decode cX6_byteAt 22 = .ok (.getfield 9, 3) := by decide +kernel
theorem dX6_byteAt_25 : decode cX6_byteAt 25 = .ok (.iload_n 1, 1) := by decide +kernel
theorem dX6_byteAt_26 : decode cX6_byteAt 26 = .ok (.baload, 1) := by decide +kernel
theorem dX6_byteAt_27 : decode cX6_byteAt 27 = .ok (.sipush 255, 3) := by decide +kernel
theorem dX6_byteAt_30 : decode cX6_byteAt 30 = .ok (.iand, 1) := by decide +kernel
theorem dX6_byteAt_31 : decode cX6_byteAt 31 = .ok (.goto 4, 3) := by decide +kernel
theorem dX6_byteAt_34 : decode cX6_byteAt 34 = .ok (.iconst (-1), 1) := by decide +kernel
theorem dX6_byteAt_35 : decode cX6_byteAt 35 = .ok (.ireturn, 1) := by decide +kernel
theorem dJ6_bitCount_0f7a4_0 : decode cJ6_bitCount_0f7a4 0 = .ok (.iload_n 0, 1) := by decide +kernel
theorem dJ6_bitCount_0f7a4_1 : decode cJ6_bitCount_0f7a4 1 = .ok (.iload_n 0, 1) := by decide +kernel
theorem dJ6_bitCount_0f7a4_2 : decode cJ6_bitCount_0f7a4 2 = .ok (.iconst 1, 1) := by decide +kernel
theorem dJ6_bitCount_0f7a4_3 : decode cJ6_bitCount_0f7a4 3 = .ok (.iushr, 1) := by decide +kernel
theorem dJ6_bitCount_0f7a4_4 : decode cJ6_bitCount_0f7a4 4 = .ok (.ldc_w 265, 3) := by decide +kernel
theorem dJ6_bitCount_0f7a4_7 : decode cJ6_bitCount_0f7a4 7 = .ok (.iand, 1) := by decide +kernel
theorem dJ6_bitCount_0f7a4_8 : decode cJ6_bitCount_0f7a4 8 = .ok (.isub, 1) := by decide +kernel
theorem dJ6_bitCount_0f7a4_9 : decode cJ6_bitCount_0f7a4 9 = .ok (.istore_n 0, 1) := by decide +kernel
theorem dJ6_bitCount_0f7a4_10 : decode cJ6_bitCount_0f7a4 10 = .ok (.iload_n 0, 1) := by decide +kernel
theorem dJ6_bitCount_0f7a4_11 : decode cJ6_bitCount_0f7a4 11 = .ok (.ldc_w 266, 3) := by decide +kernel
theorem dJ6_bitCount_0f7a4_14 : decode cJ6_bitCount_0f7a4 14 = .ok (.iand, 1) := by decide +kernel
theorem dJ6_bitCount_0f7a4_15 : decode cJ6_bitCount_0f7a4 15 = .ok (.iload_n 0, 1) := by decide +kernel
theorem dJ6_bitCount_0f7a4_16 : decode cJ6_bitCount_0f7a4 16 = .ok (.iconst 2, 1) := by decide +kernel
theorem dJ6_bitCount_0f7a4_17 : decode cJ6_bitCount_0f7a4 17 = .ok (.iushr, 1) := by decide +kernel
theorem dJ6_bitCount_0f7a4_18 : decode cJ6_bitCount_0f7a4 18 = .ok (.ldc_w 266, 3) := by decide +kernel
theorem dJ6_bitCount_0f7a4_21 : decode cJ6_bitCount_0f7a4 21 = .ok (.iand, 1) := by decide +kernel
theorem dJ6_bitCount_0f7a4_22 : decode cJ6_bitCount_0f7a4 22 = .ok (.iadd, 1) := by decide +kernel
theorem dJ6_bitCount_0f7a4_23 : decode cJ6_bitCount_0f7a4 23 = .ok (.istore_n 0, 1) := by decide +kernel
theorem dJ6_bitCount_0f7a4_24 : decode cJ6_bitCount_0f7a4 24 = .ok (.iload_n 0, 1) := by decide +kernel
theorem dJ6_bitCount_0f7a4_25 : decode cJ6_bitCount_0f7a4 25 = .ok (.iload_n 0, 1) := by decide +kernel
theorem dJ6_bitCount_0f7a4_26 : decode cJ6_bitCount_0f7a4 26 = .ok (.iconst 4, 1) := by decide +kernel
theorem dJ6_bitCount_0f7a4_27 : decode cJ6_bitCount_0f7a4 27 = .ok (.iushr, 1) := by decide +kernel
theorem dJ6_bitCount_0f7a4_28 : decode cJ6_bitCount_0f7a4 28 = .ok (.iadd, 1) := by decide +kernel
theorem dJ6_bitCount_0f7a4_29 : decode cJ6_bitCount_0f7a4 29 = .ok (.ldc_w 267, 3) := by decide +kernel
theorem dJ6_bitCount_0f7a4_32 : decode cJ6_bitCount_0f7a4 32 = .ok (.iand, 1) := by decide +kernel
theorem dJ6_bitCount_0f7a4_33 : decode cJ6_bitCount_0f7a4 33 = .ok (.istore_n 0, 1) := by decide +kernel
theorem dJ6_bitCount_0f7a4_34 : decode cJ6_bitCount_0f7a4 34 = .ok (.iload_n 0, 1) := by decide +kernel
theorem dJ6_bitCount_0f7a4_35 : decode cJ6_bitCount_0f7a4 35 = .ok (.iload_n 0, 1) := by decide +kernel
theorem dJ6_bitCount_0f7a4_36 : decode cJ6_bitCount_0f7a4 36 = .ok (.bipush 8, 2) := by decide +kernel
theorem dJ6_bitCount_0f7a4_38 : decode cJ6_bitCount_0f7a4 38 = .ok (.iushr, 1) := by decide +kernel
theorem dJ6_bitCount_0f7a4_39 : decode cJ6_bitCount_0f7a4 39 = .ok (.iadd, 1) := by decide +kernel
theorem dJ6_bitCount_0f7a4_40 : decode cJ6_bitCount_0f7a4 40 = .ok (.istore_n 0, 1) := by decide +kernel
theorem dJ6_bitCount_0f7a4_41 : decode cJ6_bitCount_0f7a4 41 = .ok (.iload_n 0, 1) := by decide +kernel
theorem dJ6_bitCount_0f7a4_42 : decode cJ6_bitCount_0f7a4 42 = .ok (.iload_n 0, 1) := by decide +kernel
theorem dJ6_bitCount_0f7a4_43 : decode cJ6_bitCount_0f7a4 43 = .ok (.bipush 16, 2) := by decide +kernel
theorem dJ6_bitCount_0f7a4_45 : decode cJ6_bitCount_0f7a4 45 = .ok (.iushr, 1) := by decide +kernel
theorem dJ6_bitCount_0f7a4_46 : decode cJ6_bitCount_0f7a4 46 = .ok (.iadd, 1) := by decide +kernel
theorem dJ6_bitCount_0f7a4_47 : decode cJ6_bitCount_0f7a4 47 = .ok (.istore_n 0, 1) := by decide +kernel
theorem dJ6_bitCount_0f7a4_48 : decode cJ6_bitCount_0f7a4 48 = .ok (.iload_n 0, 1) := by decide +kernel
theorem dJ6_bitCount_0f7a4_49 : decode cJ6_bitCount_0f7a4 49 = .ok (.bipush 63, 2) := by decide +kernel
theorem dJ6_bitCount_0f7a4_51 : decode cJ6_bitCount_0f7a4 51 = .ok (.iand, 1) := by decide +kernel
theorem dJ6_bitCount_0f7a4_52 : decode cJ6_bitCount_0f7a4 52 = .ok (.ireturn, 1) := by decide +kernel
theorem dJ9_max_7cf53_0 : decode cJ9_max_7cf53 0 = .ok (.iload_n 0, 1) := by decide +kernel
theorem dJ9_max_7cf53_1 : decode cJ9_max_7cf53 1 = .ok (.iload_n 1, 1) := by decide +kernel
theorem dJ9_max_7cf53_2 : decode cJ9_max_7cf53 2 = .ok (.if_icmp .lt 7, 3) := by decide +kernel
theorem dJ9_max_7cf53_5 : decode cJ9_max_7cf53 5 = .ok (.iload_n 0, 1) := by decide +kernel
theorem dJ9_max_7cf53_6 : decode cJ9_max_7cf53 6 = .ok (.goto 4, 3) := by decide +kernel
theorem dJ9_max_7cf53_9 : decode cJ9_max_7cf53 9 = .ok (.iload_n 1, 1) := by decide +kernel
theorem dJ9_max_7cf53_10 : decode cJ9_max_7cf53 10 = .ok (.ireturn, 1) := by decide +kernel
theorem dJ9_min_7cf53_0 : decode cJ9_min_7cf53 0 = .ok (.iload_n 0, 1) := by decide +kernel
theorem dJ9_min_7cf53_1 : decode cJ9_min_7cf53 1 = .ok (.iload_n 1, 1) := by decide +kernel
theorem dJ9_min_7cf53_2 : decode cJ9_min_7cf53 2 = .ok (.if_icmp .gt 7, 3) := by decide +kernel
theorem dJ9_min_7cf53_5 : decode cJ9_min_7cf53 5 = .ok (.iload_n 0, 1) := by decide +kernel
theorem dJ9_min_7cf53_6 : decode cJ9_min_7cf53 6 = .ok (.goto 4, 3) := by decide +kernel
theorem dJ9_min_7cf53_9 : decode cJ9_min_7cf53 9 = .ok (.iload_n 1, 1) := by decide +kernel
theorem dJ9_min_7cf53_10 : decode cJ9_min_7cf53 10 = .ok (.ireturn, 1) := by decide +kernel
set_option maxRecDepth 20000 in
theorem ggJ0_length_8abf5_J0_coder_7d493 : GoodIn wsJ0_length_8abf5 wsJ0_coder_7d493 := goodIn_r _ [6, 7, 8] rfl (by decide +kernel)
set_option maxRecDepth 20000 in
theorem gJ0_length_8abf5_J0_coder_7d493 : GoodIn wsJ0_length_8abf5 (wsV RJ0 335 RJ0 yJ0_coder_7d493 wsJ0_coder_7d493) := goodIn_app (goodIn_of _ (by decide +kernel)) ggJ0_length_8abf5_J0_coder_7d493
theorem dJ0_length_8abf5_0 : decode cJ0_length_8abf5 0 = .ok (.aload_n 0, 1) := by decide +kernel
theorem dJ0_length_8abf5_1 : decode cJ0_length_8abf5 1 = .ok (.getfield 9, 3) := by decide +kernel
theorem dJ0_length_8abf5_4 : decode cJ0_length_8abf5 4 = .ok (.arraylength, 1) := by decide +kernel
theorem dJ0_length_8abf5_5 : decode cJ0_length_8abf5 5 = .ok (.aload_n 0, 1) := by decide +kernel
theorem dJ0_length_8abf5_6 : decode cJ0_length_8abf5 6 = .ok (.invokevirtual 335, 3) := by decide +kernel
theorem dJ0_length_8abf5_9 : decode cJ0_length_8abf5 9 = .ok (.ishr, 1) := by decide +kernel
theorem dJ0_length_8abf5_10 : decode cJ0_length_8abf5 10 = .ok (.ireturn, 1) := by decide +kernel
set_option maxRecDepth 20000 in
theorem ggJ0_charAt_5068e_J0_isLatin1_aae02 : GoodIn wsJ0_charAt_5068e wsJ0_isLatin1_aae02 := goodIn_r _ [6, 7, 8] rfl (by decide +kernel)
set_option maxRecDepth 20000 in
theorem gJ0_charAt_5068e_J0_isLatin1_aae02 : GoodIn wsJ0_charAt_5068e (wsV RJ0 492 RJ0 yJ0_isLatin1_aae02 wsJ0_isLatin1_aae02) := goodIn_app (goodIn_of _ (by decide +kernel)) ggJ0_charAt_5068e_J0_isLatin1_aae02
set_option maxRecDepth 20000 in
theorem ggJ0_charAt_5068e_J1_charAt_3b067 : GoodIn wsJ0_charAt_5068e wsJ1_charAt_3b067 := goodIn_r _ [12, 13, 14, 5, 15, 16, 17, 18, 19, 20] rfl (by decide +kernel)
set_option maxRecDepth 20000 in
theorem gJ0_charAt_5068e_J1_charAt_3b067 : GoodIn wsJ0_charAt_5068e (va_wsS RJ0 495 yJ1_charAt_3b067 wsJ1_charAt_3b067) := goodIn_app (goodIn_of _ (by decide +kernel)) ggJ0_charAt_5068e_J1_charAt_3b067
set_option maxRecDepth 20000 in
theorem ggJ0_charAt_5068e_J2_charAt_3b067 : GoodIn wsJ0_charAt_5068e wsJ2_charAt_3b067 := goodIn_r _ [24, 25, 26, 23, 27, 28, 29, 30, 31, 14, 5, 15, 16, 17, 18, 19, 20, 32, 33, 34, 35, 36, 37] rfl (by decide +kernel)
set_option maxRecDepth 20000 in
theorem gJ0_charAt_5068e_J2_charAt_3b067 : GoodIn wsJ0_charAt_5068e (va_wsS RJ0 498 yJ2_charAt_3b067 wsJ2_charAt_3b067) := goodIn_app (goodIn_of _ (by decide +kernel)) ggJ0_charAt_5068e_J2_charAt_3b067
theorem dJ0_charAt_5068e_0 : decode cJ0_charAt_5068e 0 = .ok (.aload_n 0, 1) := by decide +kernel
theorem dJ0_charAt_5068e_1 : decode cJ0_charAt_5068e 1 = .ok (.invokevirtual 492, 3) := by decide +kernel
theorem dJ0_charAt_5068e_4 : decode cJ0_charAt_5068e 4 = .ok (.ifCond .eq 12, 3) := by decide +kernel
theorem dJ0_charAt_5068e_7 : decode cJ0_charAt_5068e 7 = .ok (.aload_n 0, 1) := by decide +kernel
theorem dJ0_charAt_5068e_8 : decode cJ0_charAt_5068e 8 = .ok (.getfield 9, 3) := by decide +kernel
theorem dJ0_charAt_5068e_11 : decode cJ0_charAt_5068e 11 = .ok (.iload_n 1, 1) := by decide +kernel
theorem dJ0_charAt_5068e_12 : decode cJ0_charAt_5068e 12 = .ok (.invokestatic 495, 3) := by decide +kernel
theorem dJ0_charAt_5068e_15 : decode cJ0_charAt_5068e 15 = .ok (.ireturn, 1) := by decide +kernel
theorem dJ0_charAt_5068e_16 : decode cJ0_charAt_5068e 16 = .ok (.aload_n 0, 1) := by decide +kernel
theorem dJ0_charAt_5068e_17 : decode cJ0_charAt_5068e 17 = .ok (.getfield 9, 3) := by decide +kernel
theorem dJ0_charAt_5068e_20 : decode cJ0_charAt_5068e 20 = .ok (.iload_n 1, 1) := by decide +kernel
theorem dJ0_charAt_5068e_21 : decode cJ0_charAt_5068e 21 = .ok (.invokestatic 498, 3) := by decide +kernel
theorem dJ0_charAt_5068e_24 : decode cJ0_charAt_5068e 24 = .ok (.ireturn, 1) := by decide +kernel
theorem dJ0_coder_7d493_0 : decode cJ0_coder_7d493 0 = .ok (.getstatic 38, 3) := by decide +kernel
theorem dJ0_coder_7d493_3 : decode cJ0_coder_7d493 3 = .ok (.ifCond .eq 10, 3) := by decide +kernel
theorem dJ0_coder_7d493_6 : decode cJ0_coder_7d493 6 = .ok (.aload_n 0, 1) := by decide +kernel
theorem dJ0_coder_7d493_7 : decode cJ0_coder_7d493 7 = .ok (.getfield 15, 3) := by decide +kernel
theorem dJ0_coder_7d493_10 : decode cJ0_coder_7d493 10 = .ok (.goto 4, 3) := by decide +kernel
theorem dJ0_coder_7d493_13 : decode cJ0_coder_7d493 13 = .ok (.iconst 1, 1) := by decide +kernel
theorem dJ0_coder_7d493_14 : decode cJ0_coder_7d493 14 = .ok (.ireturn, 1) := by decide +kernel
theorem dJ0_isLatin1_aae02_0 : decode cJ0_isLatin1_aae02 0 = .ok (.getstatic 38, 3) := by decide +kernel
theorem dJ0_isLatin1_aae02_3 : decode cJ0_isLatin1_aae02 3 = .ok (.ifCond .eq 14, 3) := by decide +kernel
theorem dJ0_isLatin1_aae02_6 : decode cJ0_isLatin1_aae02 6 = .ok (.aload_n 0, 1) := by decide +kernel
theorem dJ0_isLatin1_aae02_7 : decode cJ0_isLatin1_aae02 7 = .ok (.getfield 15, 3) := by decide +kernel
theorem dJ0_isLatin1_aae02_10 : decode cJ0_isLatin1_aae02 10 = .ok (.ifCond .ne 7, 3) := by decide +kernel
theorem dJ0_isLatin1_aae02_13 : decode cJ0_isLatin1_aae02 13 = .ok (.iconst 1, 1) := by decide +kernel
theorem dJ0_isLatin1_aae02_14 : decode cJ0_isLatin1_aae02 14 = .ok (.goto 4, 3) := by decide +kernel
theorem dJ0_isLatin1_aae02_17 : decode cJ0_isLatin1_aae02 17 = .ok (.iconst 0, 1) := by decide +kernel
theorem dJ0_isLatin1_aae02_18 : decode cJ0_isLatin1_aae02 18 = .ok (.ireturn, 1) := by decide +kernel
set_option maxRecDepth 20000 in
theorem ggJ0_checkIndex_df160_J3_checkIndex_8e157 : GoodIn wsJ0_checkIndex_df160 wsJ3_checkIndex_8e157 := goodIn_r _ [5] rfl (by decide +kernel)
set_option maxRecDepth 20000 in
theorem gJ0_checkIndex_df160_J3_checkIndex_8e157 : GoodIn wsJ0_checkIndex_df160 (va_wsS RJ0 1059 yJ3_checkIndex_8e157 wsJ3_checkIndex_8e157) := goodIn_app (goodIn_of _ (by decide +kernel)) ggJ0_checkIndex_df160_J3_checkIndex_8e157
theorem dJ0_checkIndex_df160_0 : decode cJ0_checkIndex_df160 0 = .ok (.iload_n 0, 1) := by decide +kernel
theorem dJ0_checkIndex_df160_1 : decode cJ0_checkIndex_df160 1 = .ok (.iload_n 1, 1) := by decide +kernel
theorem dJ0_checkIndex_df160_2 : decode cJ0_checkIndex_df160 2 = .ok (.getstatic 1053, 3) := by decide +kernel
theorem dJ0_checkIndex_df160_5 : decode cJ0_checkIndex_df160 5 = .ok (.invokestatic 1059, 3) := by decide +kernel
theorem dJ0_checkIndex_df160_8 : decode cJ0_checkIndex_df160 8 = .ok (.pop, 1) := by decide +kernel
theorem dJ0_checkIndex_df160_9 : decode cJ0_checkIndex_df160 9 = .ok (.return_, 1) := by decide +kernel
set_option maxRecDepth 20000 in
theorem ggJ1_charAt_3b067_J0_checkIndex_df160 : GoodIn wsJ1_charAt_3b067 wsJ0_checkIndex_df160 := goodIn_r _ [4, 5, 6, 7, 8, 9] rfl (by decide +kernel)
set_option maxRecDepth 20000 in
theorem gJ1_charAt_3b067_J0_checkIndex_df160 : GoodIn wsJ1_charAt_3b067 (va_wsS RJ1 9 yJ0_checkIndex_df160 wsJ0_checkIndex_df160) := goodIn_app (goodIn_of _ (by decide +kernel)) ggJ1_charAt_3b067_J0_checkIndex_df160
theorem dJ1_charAt_3b067_0 : decode cJ1_charAt_3b067 0 = .ok (.iload_n 1, 1) := by decide +kernel
theorem dJ1_charAt_3b067_1 : decode cJ1_charAt_3b067 1 = .ok (.aload_n 0, 1) := by decide +kernel
theorem dJ1_charAt_3b067_2 : decode cJ1_charAt_3b067 2 = .ok (.arraylength, 1) := by decide +kernel
theorem dJ1_charAt_3b067_3 : decode cJ1_charAt_3b067 3 = .ok (.invokestatic 9, 3) := by decide +kernel
theorem dJ1_charAt_3b067_6 : decode cJ1_charAt_3b067 6 = .ok (.aload_n 0, 1) := by decide +kernel
theorem dJ1_charAt_3b067_7 : decode cJ1_charAt_3b067 7 = .ok (.iload_n 1, 1) := by decide +kernel
theorem dJ1_charAt_3b067_8 : decode cJ1_charAt_3b067 8 = .ok (.baload, 1) := by decide +kernel
theorem dJ1_charAt_3b067_9 : decode cJ1_charAt_3b067 9 = .ok (.sipush 255, 3) := by decide +kernel
theorem dJ1_charAt_3b067_12 : decode cJ1_charAt_3b067 12 = .ok (.iand, 1) := by decide +kernel
theorem dJ1_charAt_3b067_13 : decode cJ1_charAt_3b067 13 = .ok (.i2c, 1) := by decide +kernel
theorem dJ1_charAt_3b067_14 : decode cJ1_charAt_3b067 14 = .ok (.ireturn, 1) := by decide +kernel
set_option maxRecDepth 20000 in
theorem ggJ2_getChar_3b067_J2_length_9d52b : GoodIn wsJ2_getChar_3b067 wsJ2_length_9d52b := goodIn_r _ [7] rfl (by decide +kernel)
set_option maxRecDepth 20000 in
theorem gJ2_getChar_3b067_J2_length_9d52b : GoodIn wsJ2_getChar_3b067 (va_wsS RJ2 48 yJ2_length_9d52b wsJ2_length_9d52b) := goodIn_app (goodIn_of _ (by decide +kernel)) ggJ2_getChar_3b067_J2_length_9d52b
theorem dJ2_getChar_3b067_0 : decode cJ2_getChar_3b067 0 = .ok (.getstatic 44, 3) := by decide +kernel
theorem dJ2_getChar_3b067_3 : decode cJ2_getChar_3b067 3 = .ok (.ifCond .ne 25, 3) := by decide +kernel
theorem dJ2_getChar_3b067_6 : decode cJ2_getChar_3b067 6 = .ok (.iload_n 1, 1) := by decide +kernel
theorem dJ2_getChar_3b067_7 : decode cJ2_getChar_3b067 7 = .ok (.ifCond .lt 11, 3) := by decide +kernel
theorem dJ2_getChar_3b067_10 : decode cJ2_getChar_3b067 10 = .ok (.iload_n 1, 1) := by decide +kernel
theorem dJ2_getChar_3b067_11 : decode cJ2_getChar_3b067 11 = .ok (.aload_n 0, 1) := by decide +kernel
theorem dJ2_getChar_3b067_12 : decode cJ2_getChar_3b067 12 = .ok (.invokestatic 48, 3) := by decide +kernel
theorem dJ2_getChar_3b067_15 : decode cJ2_getChar_3b067 15 = .ok (.if_icmp .lt 13, 3) := by decide +kernel
theorem dJ2_getChar_3b067_18 : decode cJ2_getChar_3b067 18 = .ok (.new 52, 3) := by decide +kernel
theorem dJ2_getChar_3b067_21 : decode cJ2_getChar_3b067 21 = .ok (.dup, 1) := by decide +kernel
theorem dJ2_getChar_3b067_22 : decode cJ2_getChar_3b067 22 = .ok (.ldc 54, 2) := by decide +kernel
theorem dJ2_getChar_3b067_24 : decode cJ2_getChar_3b067 24 = .ok (.invokespecial 56, 3) := by decide +kernel
theorem dJ2_getChar_3b067_27 : decode cJ2_getChar_3b067 27 = .ok (.athrow, 1) := by decide +kernel
theorem dJ2_getChar_3b067_28 : decode cJ2_getChar_3b067 28 = .ok (.iload_n 1, 1) := by decide +kernel
theorem dJ2_getChar_3b067_29 : decode cJ2_getChar_3b067 29 = .ok (.iconst 1, 1) := by decide +kernel
theorem dJ2_getChar_3b067_30 : decode cJ2_getChar_3b067 30 = .ok (.ishl, 1) := by decide +kernel
theorem dJ2_getChar_3b067_31 : decode cJ2_getChar_3b067 31 = .ok (.istore_n 1, 1) := by decide +kernel
theorem dJ2_getChar_3b067_32 : decode cJ2_getChar_3b067 32 = .ok (.aload_n 0, 1) := by decide +kernel
theorem dJ2_getChar_3b067_33 : decode cJ2_getChar_3b067 33 = .ok (.iload_n 1, 1) := by decide +kernel
theorem dJ2_getChar_3b067_34 : decode cJ2_getChar_3b067 34 = .ok (.iinc 1 1, 3) := by decide +kernel
theorem dJ2_getChar_3b067_37 : decode cJ2_getChar_3b067 37 = .ok (.baload, 1) := by decide +kernel
theorem dJ2_getChar_3b067_38 : decode cJ2_getChar_3b067 38 = .ok (.sipush 255, 3) := by decide +kernel
theorem dJ2_getChar_3b067_41 : decode cJ2_getChar_3b067 41 = .ok (.iand, 1) := by decide +kernel
theorem dJ2_getChar_3b067_42 : decode cJ2_getChar_3b067 42 = .ok (.getstatic 59, 3) := by decide +kernel
theorem dJ2_getChar_3b067_45 : decode cJ2_getChar_3b067 45 = .ok (.ishl, 1) := by decide +kernel
theorem dJ2_getChar_3b067_46 : decode cJ2_getChar_3b067 46 = .ok (.aload_n 0, 1) := by decide +kernel
theorem dJ2_getChar_3b067_47 : decode cJ2_getChar_3b067 47 = .ok (.iload_n 1, 1) := by decide +kernel
theorem dJ2_getChar_3b067_48 : decode cJ2_getChar_3b067 48 = .ok (.baload, 1) := by decide +kernel
theorem dJ2_getChar_3b067_49 : decode cJ2_getChar_3b067 49 = .ok (.sipush 255, 3) := by decide +kernel
theorem dJ2_getChar_3b067_52 : decode cJ2_getChar_3b067 52 = .ok (.iand, 1) := by decide +kernel
theorem dJ2_getChar_3b067_53 : decode cJ2_getChar_3b067 53 = .ok (.getstatic 63, 3) := by decide +kernel
theorem dJ2_getChar_3b067_56 : decode cJ2_getChar_3b067 56 = .ok (.ishl, 1) := by decide +kernel
theorem dJ2_getChar_3b067_57 : decode cJ2_getChar_3b067 57 = .ok (.ior, 1) := by decide +kernel
theorem dJ2_getChar_3b067_58 : decode cJ2_getChar_3b067 58 = .ok (.i2c, 1) := by decide +kernel
theorem dJ2_getChar_3b067_59 : decode cJ2_getChar_3b067 59 = .ok (.ireturn, 1) := by decide +kernel
theorem dJ2_length_9d52b_0 : decode cJ2_length_9d52b 0 = .ok (.aload_n 0, 1) := by decide +kernel
theorem dJ2_length_9d52b_1 : decode cJ2_length_9d52b 1 = .ok (.arraylength, 1) := by decide +kernel
theorem dJ2_length_9d52b_2 : decode cJ2_length_9d52b 2 = .ok (.iconst 1, 1) := by decide +kernel
theorem dJ2_length_9d52b_3 : decode cJ2_length_9d52b 3 = .ok (.ishr, 1) := by decide +kernel
theorem dJ2_length_9d52b_4 : decode cJ2_length_9d52b 4 = .ok (.ireturn, 1) := by decide +kernel
set_option maxRecDepth 20000 in
theorem ggJ2_charAt_3b067_J2_checkIndex_2214a : GoodIn wsJ2_charAt_3b067 wsJ2_checkIndex_2214a := goodIn_r _ [4, 5, 6, 3, 7, 8, 9, 10, 11, 12, 13, 14, 15, 16] rfl (by decide +kernel)
set_option maxRecDepth 20000 in
theorem gJ2_charAt_3b067_J2_checkIndex_2214a : GoodIn wsJ2_charAt_3b067 (va_wsS RJ2 67 yJ2_checkIndex_2214a wsJ2_checkIndex_2214a) := goodIn_app (goodIn_of _ (by decide +kernel)) ggJ2_charAt_3b067_J2_checkIndex_2214a
set_option maxRecDepth 20000 in
theorem ggJ2_charAt_3b067_J2_getChar_3b067 : GoodIn wsJ2_charAt_3b067 wsJ2_getChar_3b067 := goodIn_r _ [19, 20, 21, 22, 5, 6, 3, 7] rfl (by decide +kernel)
set_option maxRecDepth 20000 in
theorem gJ2_charAt_3b067_J2_getChar_3b067 : GoodIn wsJ2_charAt_3b067 (va_wsS RJ2 71 yJ2_getChar_3b067 wsJ2_getChar_3b067) := goodIn_app (goodIn_of _ (by decide +kernel)) ggJ2_charAt_3b067_J2_getChar_3b067
theorem dJ2_charAt_3b067_0 : decode cJ2_charAt_3b067 0 = .ok (.iload_n 1, 1) := by decide +kernel
theorem dJ2_charAt_3b067_1 : decode cJ2_charAt_3b067 1 = .ok (.aload_n 0, 1) := by decide +kernel
theorem dJ2_charAt_3b067_2 : decode cJ2_charAt_3b067 2 = .ok (.invokestatic 67, 3) := by decide +kernel
theorem dJ2_charAt_3b067_5 : decode cJ2_charAt_3b067 5 = .ok (.aload_n 0, 1) := by decide +kernel
theorem dJ2_charAt_3b067_6 : decode cJ2_charAt_3b067 6 = .ok (.iload_n 1, 1) := by decide +kernel
theorem dJ2_charAt_3b067_7 : decode cJ2_charAt_3b067 7 = .ok (.invokestatic 71, 3) := by decide +kernel
theorem dJ2_charAt_3b067_10 : decode cJ2_charAt_3b067 10 = .ok (.ireturn, 1) := by decide +kernel
set_option maxRecDepth 20000 in
theorem ggJ2_checkIndex_2214a_J2_length_9d52b : GoodIn wsJ2_checkIndex_2214a wsJ2_length_9d52b := goodIn_r _ [4] rfl (by decide +kernel)
set_option maxRecDepth 20000 in
theorem gJ2_checkIndex_2214a_J2_length_9d52b : GoodIn wsJ2_checkIndex_2214a (va_wsS RJ2 48 yJ2_length_9d52b wsJ2_length_9d52b) := goodIn_app (goodIn_of _ (by decide +kernel)) ggJ2_checkIndex_2214a_J2_length_9d52b
set_option maxRecDepth 20000 in
theorem ggJ2_checkIndex_2214a_J0_checkIndex_df160 : GoodIn wsJ2_checkIndex_2214a wsJ0_checkIndex_df160 := goodIn_r _ [8, 9, 10, 11, 12, 13] rfl (by decide +kernel)
set_option maxRecDepth 20000 in
theorem gJ2_checkIndex_2214a_J0_checkIndex_df160 : GoodIn wsJ2_checkIndex_2214a (va_wsS RJ2 414 yJ0_checkIndex_df160 wsJ0_checkIndex_df160) := goodIn_app (goodIn_of _ (by decide +kernel)) ggJ2_checkIndex_2214a_J0_checkIndex_df160
theorem dJ2_checkIndex_2214a_0 : decode cJ2_checkIndex_2214a 0 = .ok (.iload_n 0, 1) := by decide +kernel
theorem dJ2_checkIndex_2214a_1 : decode cJ2_checkIndex_2214a 1 = .ok (.aload_n 1, 1) := by decide +kernel
theorem dJ2_checkIndex_2214a_2 : decode cJ2_checkIndex_2214a 2 = .ok (.invokestatic 48, 3) := by decide +kernel
theorem dJ2_checkIndex_2214a_5 : decode cJ2_checkIndex_2214a 5 = .ok (.invokestatic 414, 3) := by decide +kernel
theorem dJ2_checkIndex_2214a_8 : decode cJ2_checkIndex_2214a 8 = .ok (.return_, 1) := by decide +kernel
theorem dJ7_fill_53178_0 : decode cJ7_fill_53178 0 = .ok (.iconst 0, 1) := by decide +kernel
theorem dJ7_fill_53178_1 : decode cJ7_fill_53178 1 = .ok (.istore_n 2, 1) := by decide +kernel
theorem dJ7_fill_53178_2 : decode cJ7_fill_53178 2 = .ok (.aload_n 0, 1) := by decide +kernel
theorem dJ7_fill_53178_3 : decode cJ7_fill_53178 3 = .ok (.arraylength, 1) := by decide +kernel
theorem dJ7_fill_53178_4 : decode cJ7_fill_53178 4 = .ok (.istore_n 3, 1) := by decide +kernel
theorem dJ7_fill_53178_5 : decode cJ7_fill_53178 5 = .ok (.iload_n 2, 1) := by decide +kernel
theorem dJ7_fill_53178_6 : decode cJ7_fill_53178 6 = .ok (.iload_n 3, 1) := by decide +kernel
theorem dJ7_fill_53178_7 : decode cJ7_fill_53178 7 = .ok (.if_icmp .ge 13, 3) := by decide +kernel
theorem dJ7_fill_53178_10 : decode cJ7_fill_53178 10 = .ok (.aload_n 0, 1) := by decide +kernel
theorem dJ7_fill_53178_11 : decode cJ7_fill_53178 11 = .ok (.iload_n 2, 1) := by decide +kernel
theorem dJ7_fill_53178_12 : decode cJ7_fill_53178 12 = .ok (.iload_n 1, 1) := by decide +kernel
theorem dJ7_fill_53178_13 : decode cJ7_fill_53178 13 = .ok (.iastore, 1) := by decide +kernel
theorem dJ7_fill_53178_14 : decode cJ7_fill_53178 14 = .ok (.iinc 2 1, 3) := by decide +kernel
theorem dJ7_fill_53178_17 : decode cJ7_fill_53178 17 = .ok (.goto (-12), 3) := by decide +kernel
theorem dJ7_fill_53178_20 : decode cJ7_fill_53178 20 = .ok (.return_, 1) := by decide +kernel
theorem dJ3_checkIndex_8e157_0 : decode cJ3_checkIndex_8e157 0 = .ok (.iload_n 0, 1) := by decide +kernel
theorem dJ3_checkIndex_8e157_1 : decode cJ3_checkIndex_8e157 1 = .ok (.ifCond .lt 8, 3) := by decide +kernel
theorem dJ3_checkIndex_8e157_4 : decode cJ3_checkIndex_8e157 4 = .ok (.iload_n 0, 1) := by decide +kernel
theorem dJ3_checkIndex_8e157_5 : decode cJ3_checkIndex_8e157 5 = .ok (.iload_n 1, 1) := by decide +kernel
theorem dJ3_checkIndex_8e157_6 : decode cJ3_checkIndex_8e157 6 = .ok (.if_icmp .lt 10, 3) := by decide +kernel
theorem dJ3_checkIndex_8e157_9 : decode cJ3_checkIndex_8e157 9 = .ok (.aload_n 2, 1) := by decide +kernel
theorem dJ3_checkIndex_8e157_10 : decode cJ3_checkIndex_8e157 10 = .ok (.iload_n 0, 1) := by decide +kernel
theorem dJ3_checkIndex_8e157_11 : decode cJ3_checkIndex_8e157 11 = .ok (.iload_n 1, 1) := by decide +kernel
theorem dJ3_checkIndex_8e157_12 : decode cJ3_checkIndex_8e157 12 = .ok (.invokestatic 95, 3) := by decide +kernel
theorem dJ3_checkIndex_8e157_15 : decode cJ3_checkIndex_8e157 15 = .ok (.athrow, 1) := by decide +kernel
theorem dJ3_checkIndex_8e157_16 : decode cJ3_checkIndex_8e157 16 = .ok (.iload_n 0, 1) := by decide +kernel
theorem dJ3_checkIndex_8e157_17 : decode cJ3_checkIndex_8e157 17 = .ok (.ireturn, 1) := by decide +kernel
