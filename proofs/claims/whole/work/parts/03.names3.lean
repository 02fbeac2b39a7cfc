theorem dX2_told_11 : decode cX2_told 11 = .ok (.iload_n 2, 1) := by decide +kernel
theorem dX2_told_12 : decode cX2_told 12 = .ok (.iconst 0, 1) := by decide +kernel
theorem dX2_told_13 : decode cX2_told 13 = .ok (.bipush 8, 2) := by decide +kernel
theorem dX2_told_15 : decode cX2_told 15 = .ok (.invokestatic 19, 3) := by decide +kernel
theorem dX2_told_18 : decode cX2_told 18 = .ok (.ifCond .eq 13, 3) := by decide +kernel
theorem dX2_told_21 : decode cX2_told 21 = .ok (.new 53, 3) := by decide +kernel
theorem dX2_told_24 : decode cX2_told 24 = .ok (.dup, 1) := by decide +kernel
theorem dX2_told_25 : decode cX2_told 25 = .ok (.ldc 90, 2) := by decide +kernel
theorem dX2_told_27 : decode cX2_told 27 = .ok (.invokespecial 57, 3) := by decide +kernel
theorem dX2_told_30 : decode cX2_told 30 = .ok (.athrow, 1) := by decide +kernel
theorem dX2_told_31 : decode cX2_told 31 = .ok (.aload_n 0, 1) := by decide +kernel
theorem dX2_told_32 : decode cX2_told 32 = .ok (.getfield 10, 3) := by decide +kernel
theorem dX2_told_35 : decode cX2_told 35 = .ok (.getfield 39, 3) := by decide +kernel
theorem dX2_told_38 : decode cX2_told 38 = .ok (.iload_n 1, 1) := by decide +kernel
theorem dX2_told_39 : decode cX2_told 39 = .ok (.aaload, 1) := by decide +kernel
theorem dX2_told_40 : decode cX2_told 40 = .ok (.iload_n 2, 1) := by decide +kernel
theorem dX2_told_41 : decode cX2_told 41 = .ok (.invokevirtual 92, 3) := by decide +kernel
theorem dX2_told_44 : decode cX2_told 44 = .ok (.ireturn, 1) := by decide +kernel
theorem dX2_owes_0 : decode cX2_owes 0 = .ok (.iconst 0, 1) := by decide +kernel
theorem dX2_owes_1 : decode cX2_owes 1 = .ok (.istore_n 1, 1) := by decide +kernel
theorem dX2_owes_2 : decode cX2_owes 2 = .ok (.iconst (-1), 1) := by decide +kernel
theorem dX2_owes_3 : decode cX2_owes 3 = .ok (.istore_n 2, 1) := by decide +kernel
theorem dX2_owes_4 : decode cX2_owes 4 = .ok (.iconst 0, 1) := by decide +kernel
theorem dX2_owes_5 : decode cX2_owes 5 = .ok (.istore_n 3, 1) := by decide +kernel
theorem dX2_owes_6 : decode cX2_owes 6 = .ok (.iload_n 3, 1) := by decide +kernel
theorem dX2_owes_7 : decode cX2_owes 7 = .ok (.aload_n 0, 1) := by decide +kernel
theorem dX2_owes_8 : decode cX2_owes 8 = .ok (.getfield 10, 3) := by decide +kernel
theorem dX2_owes_11 : decode cX2_owes 11 = .ok (.getfield 39, 3) := by decide +kernel
theorem dX2_owes_14 : decode cX2_owes 14 = .ok (.arraylength, 1) := by decide +kernel
theorem dX2_owes_15 : decode cX2_owes 15 = .ok (.if_icmp .ge 40, 3) := by decide +kernel
theorem dX2_owes_18 : decode cX2_owes 18 = .ok (.aload_n 0, 1) := by decide +kernel
theorem dX2_owes_19 : decode cX2_owes 19 = .ok (.getfield 10, 3) := by decide +kernel
theorem dX2_owes_22 : decode cX2_owes 22 = .ok (.getfield 39, 3) := by decide +kernel
theorem dX2_owes_25 : decode cX2_owes 25 = .ok (.iload_n 3, 1) := by decide +kernel
theorem dX2_owes_26 : decode cX2_owes 26 = .ok (.aaload, 1) := by decide +kernel
theorem dX2_owes_27 : decode cX2_owes 27 = .ok (.getfield 87, 3) := by decide +kernel
theorem dX2_owes_30 : decode cX2_owes 30 = .ok (.iload_n 1, 1) := by decide +kernel
theorem dX2_owes_31 : decode cX2_owes 31 = .ok (.if_icmp .le 18, 3) := by decide +kernel
theorem dX2_owes_34 : decode cX2_owes 34 = .ok (.aload_n 0, 1) := by decide +kernel
theorem dX2_owes_35 : decode cX2_owes 35 = .ok (.getfield 10, 3) := by decide +kernel
theorem dX2_owes_38 : decode cX2_owes 38 = .ok (.getfield 39, 3) := by decide +kernel
theorem dX2_owes_41 : decode cX2_owes 41 = .ok (.iload_n 3, 1) := by decide +kernel
theorem dX2_owes_42 : decode cX2_owes 42 = .ok (.aaload, 1) := by decide +kernel
theorem dX2_owes_43 : decode cX2_owes 43 = .ok (.getfield 87, 3) := by decide +kernel
theorem dX2_owes_46 : decode cX2_owes 46 = .ok (.istore_n 1, 1) := by decide +kernel
theorem dX2_owes_47 : decode cX2_owes 47 = .ok (.iload_n 3, 1) := by decide +kernel
theorem dX2_owes_48 : decode cX2_owes 48 = .ok (.istore_n 2, 1) := by decide +kernel
theorem dX2_owes_49 : decode cX2_owes 49 = .ok (.iinc 3 1, 3) := by decide +kernel
theorem dX2_owes_52 : decode cX2_owes 52 = .ok (.goto (-46), 3) := by decide +kernel
theorem dX2_owes_55 : decode cX2_owes 55 = .ok (.iload_n 2, 1) := by decide +kernel
theorem dX2_owes_56 : decode cX2_owes 56 = .ok (.ireturn, 1) := by decide +kernel
set_option maxRecDepth 20000 in
theorem ggX2_setFever_X2_isOutside : GoodIn wsX2_setFever wsX2_isOutside := goodIn_r _ [10] (by decide +kernel) (by decide +kernel)
set_option maxRecDepth 20000 in
theorem gX2_setFever_X2_isOutside : GoodIn wsX2_setFever (va_wsS RX2 19 yX2_isOutside wsX2_isOutside) := goodIn_app (goodIn_of _ (by decide +kernel)) ggX2_setFever_X2_isOutside
theorem dX2_setFever_0 : decode cX2_setFever 0 = .ok (.iload_n 1, 1) := by decide +kernel
theorem dX2_setFever_1 : decode cX2_setFever 1 = .ok (.iconst 0, 1) := by decide +kernel
theorem dX2_setFever_2 : decode cX2_setFever 2 = .ok (.bipush 7, 2) := by decide +kernel
theorem dX2_setFever_4 : decode cX2_setFever 4 = .ok (.invokestatic 19, 3) := by decide +kernel
theorem dX2_setFever_7 : decode cX2_setFever 7 = .ok (.ifCond .eq 13, 3) := by decide +kernel
theorem dX2_setFever_10 : decode cX2_setFever 10 = .ok (.new 53, 3) := by decide +kernel
theorem dX2_setFever_13 : decode cX2_setFever 13 = .ok (.dup, 1) := by decide +kernel
theorem dX2_setFever_14 : decode cX2_setFever 14 = .ok (.ldc 96, 2) := by decide +kernel
theorem dX2_setFever_16 : decode cX2_setFever 16 = .ok (.invokespecial 57, 3) := by decide +kernel
theorem dX2_setFever_19 : decode cX2_setFever 19 = .ok (.athrow, 1) := by decide +kernel
theorem dX2_setFever_20 : decode cX2_setFever 20 = .ok (.iload_n 2, 1) := by decide +kernel
theorem dX2_setFever_21 : decode cX2_setFever 21 = .ok (.iconst (-1), 1) := by decide +kernel
theorem dX2_setFever_22 : decode cX2_setFever 22 = .ok (.iconst 2, 1) := by decide +kernel
theorem dX2_setFever_23 : decode cX2_setFever 23 = .ok (.invokestatic 19, 3) := by decide +kernel
theorem dX2_setFever_26 : decode cX2_setFever 26 = .ok (.ifCond .eq 13, 3) := by decide +kernel
theorem dX2_setFever_29 : decode cX2_setFever 29 = .ok (.new 23, 3) := by decide +kernel
theorem dX2_setFever_32 : decode cX2_setFever 32 = .ok (.dup, 1) := by decide +kernel
theorem dX2_setFever_33 : decode cX2_setFever 33 = .ok (.ldc 98, 2) := by decide +kernel
theorem dX2_setFever_35 : decode cX2_setFever 35 = .ok (.invokespecial 27, 3) := by decide +kernel
theorem dX2_setFever_38 : decode cX2_setFever 38 = .ok (.athrow, 1) := by decide +kernel
theorem dX2_setFever_39 : decode cX2_setFever 39 = .ok (.aload_n 0, 1) := by decide +kernel
theorem dX2_setFever_40 : decode cX2_setFever 40 = .ok (.getfield 10, 3) := by decide +kernel
theorem dX2_setFever_43 : decode cX2_setFever 43 = .ok (.getfield 99, 3) := by decide +kernel
theorem dX2_setFever_46 : decode cX2_setFever 46 = .ok (.iload_n 1, 1) := by decide +kernel
theorem dX2_setFever_47 : decode cX2_setFever 47 = .ok (.iaload, 1) := by decide +kernel
theorem dX2_setFever_48 : decode cX2_setFever 48 = .ok (.istore_n 3, 1) := by decide +kernel
theorem dX2_setFever_49 : decode cX2_setFever 49 = .ok (.aload_n 0, 1) := by decide +kernel
theorem dX2_setFever_50 : decode cX2_setFever 50 = .ok (.getfield 10, 3) := by decide +kernel
theorem dX2_setFever_53 : decode cX2_setFever 53 = .ok (.getfield 99, 3) := by decide +kernel
theorem dX2_setFever_56 : decode cX2_setFever 56 = .ok (.iload_n 1, 1) := by decide +kernel
theorem dX2_setFever_57 : decode cX2_setFever 57 = .ok (.iload_n 2, 1) := by decide +kernel
theorem dX2_setFever_58 : decode cX2_setFever 58 = .ok (.iastore, 1) := by decide +kernel
theorem dX2_setFever_59 : decode cX2_setFever 59 = .ok (.iload_n 3, 1) := by decide +kernel
theorem dX2_setFever_60 : decode cX2_setFever 60 = .ok (.ireturn, 1) := by decide +kernel
set_option maxRecDepth 20000 in
theorem ggX2_setDues_X2_isOutside : GoodIn wsX2_setDues wsX2_isOutside := goodIn_r _ [8] (by decide +kernel) (by decide +kernel)
set_option maxRecDepth 20000 in
theorem gX2_setDues_X2_isOutside : GoodIn wsX2_setDues (va_wsS RX2 19 yX2_isOutside wsX2_isOutside) := goodIn_app (goodIn_of _ (by decide +kernel)) ggX2_setDues_X2_isOutside
theorem dX2_setDues_0 : decode cX2_setDues 0 = .ok (.iload_n 1, 1) := by decide +kernel
theorem dX2_setDues_1 : decode cX2_setDues 1 = .ok (.iconst 0, 1) := by decide +kernel
theorem dX2_setDues_2 : decode cX2_setDues 2 = .ok (.iconst 3, 1) := by decide +kernel
theorem dX2_setDues_3 : decode cX2_setDues 3 = .ok (.invokestatic 19, 3) := by decide +kernel
theorem dX2_setDues_6 : decode cX2_setDues 6 = .ok (.ifCond .eq 13, 3) := by decide +kernel
theorem dX2_setDues_9 : decode cX2_setDues 9 = .ok (.new 23, 3) := by decide +kernel
theorem dX2_setDues_12 : decode cX2_setDues 12 = .ok (.dup, 1) := by decide +kernel
theorem dX2_setDues_13 : decode cX2_setDues 13 = .ok (.ldc 103, 2) := by decide +kernel
theorem dX2_setDues_15 : decode cX2_setDues 15 = .ok (.invokespecial 27, 3) := by decide +kernel
theorem dX2_setDues_18 : decode cX2_setDues 18 = .ok (.athrow, 1) := by decide +kernel
theorem dX2_setDues_19 : decode cX2_setDues 19 = .ok (.aload_n 0, 1) := by decide +kernel
theorem dX2_setDues_20 : decode cX2_setDues 20 = .ok (.getfield 10, 3) := by decide +kernel
theorem dX2_setDues_23 : decode cX2_setDues 23 = .ok (.getfield 105, 3) := by decide +kernel
theorem dX2_setDues_26 : decode cX2_setDues 26 = .ok (.istore_n 2, 1) := by decide +kernel
theorem dX2_setDues_27 : decode cX2_setDues 27 = .ok (.aload_n 0, 1) := by decide +kernel
theorem dX2_setDues_28 : decode cX2_setDues 28 = .ok (.getfield 10, 3) := by decide +kernel
theorem dX2_setDues_31 : decode cX2_setDues 31 = .ok (.iload_n 1, 1) := by decide +kernel
theorem dX2_setDues_32 : decode cX2_setDues 32 = .ok (.putfield 105, 3) := by decide +kernel
theorem dX2_setDues_35 : decode cX2_setDues 35 = .ok (.iload_n 2, 1) := by decide +kernel
theorem dX2_setDues_36 : decode cX2_setDues 36 = .ok (.ireturn, 1) := by decide +kernel
set_option maxRecDepth 20000 in
theorem ggX2_buy_X2_isOutside : GoodIn wsX2_buy wsX2_isOutside := goodIn_r _ [14] (by decide +kernel) (by decide +kernel)
set_option maxRecDepth 20000 in
theorem gX2_buy_X2_isOutside : GoodIn wsX2_buy (va_wsS RX2 19 yX2_isOutside wsX2_isOutside) := goodIn_app (goodIn_of _ (by decide +kernel)) ggX2_buy_X2_isOutside
theorem dX2_buy_0 : decode cX2_buy 0 = .ok (.iload_n 1, 1) := by decide +kernel
theorem dX2_buy_1 : decode cX2_buy 1 = .ok (.iconst 0, 1) := by decide +kernel
theorem dX2_buy_2 : decode cX2_buy 2 = .ok (.iconst 1, 1) := by decide +kernel
theorem dX2_buy_3 : decode cX2_buy 3 = .ok (.invokestatic 19, 3) := by decide +kernel
theorem dX2_buy_6 : decode cX2_buy 6 = .ok (.ifCond .eq 13, 3) := by decide +kernel
theorem dX2_buy_9 : decode cX2_buy 9 = .ok (.new 53, 3) := by decide +kernel
theorem dX2_buy_12 : decode cX2_buy 12 = .ok (.dup, 1) := by decide +kernel
theorem dX2_buy_13 : decode cX2_buy 13 = .ok (.ldc 107, 2) := by decide +kernel
theorem dX2_buy_15 : decode cX2_buy 15 = .ok (.invokespecial 57, 3) := by decide +kernel
theorem dX2_buy_18 : decode cX2_buy 18 = .ok (.athrow, 1) := by decide +kernel
theorem dX2_buy_19 : decode cX2_buy 19 = .ok (.iload_n 2, 1) := by decide +kernel
theorem dX2_buy_20 : decode cX2_buy 20 = .ok (.iconst 1, 1) := by decide +kernel
theorem dX2_buy_21 : decode cX2_buy 21 = .ok (.sipush 200, 3) := by decide +kernel
theorem dX2_buy_24 : decode cX2_buy 24 = .ok (.invokestatic 19, 3) := by decide +kernel
theorem dX2_buy_27 : decode cX2_buy 27 = .ok (.ifCond .eq 13, 3) := by decide +kernel
theorem dX2_buy_30 : decode cX2_buy 30 = .ok (.new 23, 3) := by decide +kernel
theorem dX2_buy_33 : decode cX2_buy 33 = .ok (.dup, 1) := by decide +kernel
theorem dX2_buy_34 : decode cX2_buy 34 = .ok (.ldc 109, 2) := by decide +kernel
theorem dX2_buy_36 : decode cX2_buy 36 = .ok (.invokespecial 27, 3) := by decide +kernel
theorem dX2_buy_39 : decode cX2_buy 39 = .ok (.athrow, 1) := by decide +kernel
theorem dX2_buy_40 : decode cX2_buy 40 = .ok (.iload_n 1, 1) := by decide +kernel
theorem dX2_buy_41 : decode cX2_buy 41 = .ok (.ifCond .ne 7, 3) := by decide +kernel
theorem dX2_buy_44 : decode cX2_buy 44 = .ok (.iload_n 2, 1) := by decide +kernel
theorem dX2_buy_45 : decode cX2_buy 45 = .ok (.goto 8, 3) := by decide +kernel
theorem dX2_buy_48 : decode cX2_buy 48 = .ok (.iload_n 2, 1) := by decide +kernel
theorem dX2_buy_49 : decode cX2_buy 49 = .ok (.iconst 2, 1) := by decide +kernel
theorem dX2_buy_50 : decode cX2_buy 50 = .ok (.iadd, 1) := by decide +kernel
theorem dX2_buy_51 : decode cX2_buy 51 = .ok (.iconst 3, 1) := by decide +kernel
theorem dX2_buy_52 : decode cX2_buy 52 = .ok (.idiv, 1) := by decide +kernel
theorem dX2_buy_53 : decode cX2_buy 53 = .ok (.istore_n 3, 1) := by decide +kernel
theorem dX2_buy_54 : decode cX2_buy 54 = .ok (.aload_n 0, 1) := by decide +kernel
theorem dX2_buy_55 : decode cX2_buy 55 = .ok (.getfield 10, 3) := by decide +kernel
theorem dX2_buy_58 : decode cX2_buy 58 = .ok (.getfield 80, 3) := by decide +kernel
theorem dX2_buy_61 : decode cX2_buy 61 = .ok (.iload_n 3, 1) := by decide +kernel
theorem dX2_buy_62 : decode cX2_buy 62 = .ok (.if_icmp .ge 13, 3) := by decide +kernel
theorem dX2_buy_65 : decode cX2_buy 65 = .ok (.new 34, 3) := by decide +kernel
theorem dX2_buy_68 : decode cX2_buy 68 = .ok (.dup, 1) := by decide +kernel
theorem dX2_buy_69 : decode cX2_buy 69 = .ok (.ldc 111, 2) := by decide +kernel
theorem dX2_buy_71 : decode cX2_buy 71 = .ok (.invokespecial 38, 3) := by decide +kernel
theorem dX2_buy_74 : decode cX2_buy 74 = .ok (.athrow, 1) := by decide +kernel
theorem dX2_buy_75 : decode cX2_buy 75 = .ok (.aload_n 0, 1) := by decide +kernel
theorem dX2_buy_76 : decode cX2_buy 76 = .ok (.getfield 10, 3) := by decide +kernel
theorem dX2_buy_79 : decode cX2_buy 79 = .ok (.dup, 1) := by decide +kernel
theorem dX2_buy_80 : decode cX2_buy 80 = .ok (.getfield 80, 3) := by decide +kernel
theorem dX2_buy_83 : decode cX2_buy 83 = .ok (.iload_n 3, 1) := by decide +kernel
theorem dX2_buy_84 : decode cX2_buy 84 = .ok (.isub, 1) := by decide +kernel
theorem dX2_buy_85 : decode cX2_buy 85 = .ok (.putfield 80, 3) := by decide +kernel
theorem dX2_buy_88 : decode cX2_buy 88 = .ok (.iload_n 1, 1) := by decide +kernel
theorem dX2_buy_89 : decode cX2_buy 89 = .ok (.ifCond .ne 24, 3) := by decide +kernel
theorem dX2_buy_92 : decode cX2_buy 92 = .ok (.aload_n 0, 1) := by decide +kernel
theorem dX2_buy_93 : decode cX2_buy 93 = .ok (.getfield 10, 3) := by decide +kernel
theorem dX2_buy_96 : decode cX2_buy 96 = .ok (.dup, 1) := by decide +kernel
theorem dX2_buy_97 : decode cX2_buy 97 = .ok (.getfield 113, 3) := by decide +kernel
theorem dX2_buy_100 : decode cX2_buy 100 = .ok (.iload_n 2, 1) := by decide +kernel
theorem dX2_buy_101 : decode cX2_buy 101 = .ok (.iadd, 1) := by decide +kernel
theorem dX2_buy_102 : decode cX2_buy 102 = .ok (.putfield 113, 3) := by decide +kernel
theorem dX2_buy_105 : decode cX2_buy 105 = .ok (.aload_n 0, 1) := by decide +kernel
theorem dX2_buy_106 : decode cX2_buy 106 = .ok (.getfield 10, 3) := by decide +kernel
theorem dX2_buy_109 : decode cX2_buy 109 = .ok (.getfield 113, 3) := by decide +kernel
theorem dX2_buy_112 : decode cX2_buy 112 = .ok (.ireturn, 1) := by decide +kernel
theorem dX2_buy_113 : decode cX2_buy 113 = .ok (.aload_n 0, 1) := by decide +kernel
theorem dX2_buy_114 : decode cX2_buy 114 = .ok (.getfield 10, 3) := by decide +kernel
theorem dX2_buy_117 : decode cX2_buy 117 = .ok (.dup, 1) := by decide +kernel
theorem dX2_buy_118 : decode cX2_buy 118 = .ok (.getfield 116, 3) := by decide +kernel
theorem dX2_buy_121 : decode cX2_buy 121 = .ok (.iload_n 2, 1) := by decide +kernel
theorem dX2_buy_122 : decode cX2_buy 122 = .ok (.iadd, 1) := by decide +kernel
theorem dX2_buy_123 : decode cX2_buy 123 = .ok (.putfield 116, 3) := by decide +kernel
theorem dX2_buy_126 : decode cX2_buy 126 = .ok (.aload_n 0, 1) := by decide +kernel
theorem dX2_buy_127 : decode cX2_buy 127 = .ok (.getfield 10, 3) := by decide +kernel
theorem dX2_buy_130 : decode cX2_buy 130 = .ok (.getfield 116, 3) := by decide +kernel
theorem dX2_buy_133 : decode cX2_buy 133 = .ok (.ireturn, 1) := by decide +kernel
set_option maxRecDepth 20000 in
theorem ggX2_sell_X2_isOutside : GoodIn wsX2_sell wsX2_isOutside := goodIn_r _ [11] (by decide +kernel) (by decide +kernel)
set_option maxRecDepth 20000 in
theorem gX2_sell_X2_isOutside : GoodIn wsX2_sell (va_wsS RX2 19 yX2_isOutside wsX2_isOutside) := goodIn_app (goodIn_of _ (by decide +kernel)) ggX2_sell_X2_isOutside
theorem dX2_sell_0 : decode cX2_sell 0 = .ok (.iload_n 1, 1) := by decide +kernel
theorem dX2_sell_1 : decode cX2_sell 1 = .ok (.iconst 1, 1) := by decide +kernel
theorem dX2_sell_2 : decode cX2_sell 2 = .ok (.sipush 500, 3) := by decide +kernel
theorem dX2_sell_5 : decode cX2_sell 5 = .ok (.invokestatic 19, 3) := by decide +kernel
theorem dX2_sell_8 : decode cX2_sell 8 = .ok (.ifCond .eq 13, 3) := by decide +kernel
theorem dX2_sell_11 : decode cX2_sell 11 = .ok (.new 23, 3) := by decide +kernel
theorem dX2_sell_14 : decode cX2_sell 14 = .ok (.dup, 1) := by decide +kernel
theorem dX2_sell_15 : decode cX2_sell 15 = .ok (.ldc 119, 2) := by decide +kernel
theorem dX2_sell_17 : decode cX2_sell 17 = .ok (.invokespecial 27, 3) := by decide +kernel
theorem dX2_sell_20 : decode cX2_sell 20 = .ok (.athrow, 1) := by decide +kernel
theorem dX2_sell_21 : decode cX2_sell 21 = .ok (.aload_n 0, 1) := by decide +kernel
theorem dX2_sell_22 : decode cX2_sell 22 = .ok (.getfield 10, 3) := by decide +kernel
theorem dX2_sell_25 : decode cX2_sell 25 = .ok (.getfield 121, 3) := by decide +kernel
theorem dX2_sell_28 : decode cX2_sell 28 = .ok (.iload_n 1, 1) := by decide +kernel
theorem dX2_sell_29 : decode cX2_sell 29 = .ok (.if_icmp .ge 13, 3) := by decide +kernel
theorem dX2_sell_32 : decode cX2_sell 32 = .ok (.new 34, 3) := by decide +kernel
theorem dX2_sell_35 : decode cX2_sell 35 = .ok (.dup, 1) := by decide +kernel
theorem dX2_sell_36 : decode cX2_sell 36 = .ok (.ldc 124, 2) := by decide +kernel
theorem dX2_sell_38 : decode cX2_sell 38 = .ok (.invokespecial 38, 3) := by decide +kernel
theorem dX2_sell_41 : decode cX2_sell 41 = .ok (.athrow, 1) := by decide +kernel
theorem dX2_sell_42 : decode cX2_sell 42 = .ok (.aload_n 0, 1) := by decide +kernel
theorem dX2_sell_43 : decode cX2_sell 43 = .ok (.getfield 10, 3) := by decide +kernel
theorem dX2_sell_46 : decode cX2_sell 46 = .ok (.dup, 1) := by decide +kernel
theorem dX2_sell_47 : decode cX2_sell 47 = .ok (.getfield 121, 3) := by decide +kernel
theorem dX2_sell_50 : decode cX2_sell 50 = .ok (.iload_n 1, 1) := by decide +kernel
theorem dX2_sell_51 : decode cX2_sell 51 = .ok (.isub, 1) := by decide +kernel
theorem dX2_sell_52 : decode cX2_sell 52 = .ok (.putfield 121, 3) := by decide +kernel
theorem dX2_sell_55 : decode cX2_sell 55 = .ok (.aload_n 0, 1) := by decide +kernel
theorem dX2_sell_56 : decode cX2_sell 56 = .ok (.getfield 10, 3) := by decide +kernel
theorem dX2_sell_59 : decode cX2_sell 59 = .ok (.dup, 1) := by decide +kernel
theorem dX2_sell_60 : decode cX2_sell 60 = .ok (.getfield 80, 3) := by decide +kernel
theorem dX2_sell_63 : decode cX2_sell 63 = .ok (.iload_n 1, 1) := by decide +kernel
theorem dX2_sell_64 : decode cX2_sell 64 = .ok (.iconst 2, 1) := by decide +kernel
theorem dX2_sell_65 : decode cX2_sell 65 = .ok (.idiv, 1) := by decide +kernel
theorem dX2_sell_66 : decode cX2_sell 66 = .ok (.iadd, 1) := by decide +kernel
theorem dX2_sell_67 : decode cX2_sell 67 = .ok (.putfield 80, 3) := by decide +kernel
theorem dX2_sell_70 : decode cX2_sell 70 = .ok (.aload_n 0, 1) := by decide +kernel
theorem dX2_sell_71 : decode cX2_sell 71 = .ok (.getfield 10, 3) := by decide +kernel
theorem dX2_sell_74 : decode cX2_sell 74 = .ok (.getfield 80, 3) := by decide +kernel
theorem dX2_sell_77 : decode cX2_sell 77 = .ok (.ireturn, 1) := by decide +kernel
set_option maxRecDepth 20000 in
theorem ggX2_pot_X2_isOutside : GoodIn wsX2_pot wsX2_isOutside := goodIn_r _ [6] (by decide +kernel) (by decide +kernel)
set_option maxRecDepth 20000 in
theorem gX2_pot_X2_isOutside : GoodIn wsX2_pot (va_wsS RX2 19 yX2_isOutside wsX2_isOutside) := goodIn_app (goodIn_of _ (by decide +kernel)) ggX2_pot_X2_isOutside
set_option maxRecDepth 20000 in
theorem ggX2_pot_X2_potFact : GoodIn wsX2_pot wsX2_potFact := goodIn_r _ [10, 11, 12, 13, 14, 15, 16, 17, 18, 19, 20, 21, 22, 23, 24, 25, 26, 27, 28, 29, 30, 31, 32, 33, 34, 35, 36, 37, 38, 39, 40, 41, 42, 43, 44, 45, 46, 47, 48, 49, 50, 51, 52, 53, 54, 55, 56, 57, 58, 59, 60, 61, 62, 63, 64, 65, 66, 67, 68, 69, 70, 71, 72, 73, 74, 75, 76, 77, 78, 79, 80, 81, 82, 83, 84, 85, 86, 87, 88, 89, 90, 91, 92, 93, 94, 95, 96, 97, 98, 99, 100, 101, 102, 103, 104, 105, 106, 107, 108, 109, 110, 111, 112, 113, 114, 115, 116] (by decide +kernel) (by decide +kernel)
set_option maxRecDepth 20000 in
theorem gX2_pot_X2_potFact : GoodIn wsX2_pot (wsV RX2 128 RX2 yX2_potFact wsX2_potFact) := goodIn_app (goodIn_of _ (by decide +kernel)) ggX2_pot_X2_potFact
theorem dX2_pot_0 : decode cX2_pot 0 = .ok (.iload_n 1, 1) := by decide +kernel
theorem dX2_pot_1 : decode cX2_pot 1 = .ok (.iconst 0, 1) := by decide +kernel
theorem dX2_pot_2 : decode cX2_pot 2 = .ok (.iconst 2, 1) := by decide +kernel
theorem dX2_pot_3 : decode cX2_pot 3 = .ok (.invokestatic 19, 3) := by decide +kernel
theorem dX2_pot_6 : decode cX2_pot 6 = .ok (.ifCond .ne 12, 3) := by decide +kernel
theorem dX2_pot_9 : decode cX2_pot 9 = .ok (.iload_n 2, 1) := by decide +kernel
theorem dX2_pot_10 : decode cX2_pot 10 = .ok (.iconst 0, 1) := by decide +kernel
theorem dX2_pot_11 : decode cX2_pot 11 = .ok (.iconst 3, 1) := by decide +kernel
theorem dX2_pot_12 : decode cX2_pot 12 = .ok (.invokestatic 19, 3) := by decide +kernel
theorem dX2_pot_15 : decode cX2_pot 15 = .ok (.ifCond .eq 13, 3) := by decide +kernel
theorem dX2_pot_18 : decode cX2_pot 18 = .ok (.new 53, 3) := by decide +kernel
theorem dX2_pot_21 : decode cX2_pot 21 = .ok (.dup, 1) := by decide +kernel
theorem dX2_pot_22 : decode cX2_pot 22 = .ok (.ldc 126, 2) := by decide +kernel
theorem dX2_pot_24 : decode cX2_pot 24 = .ok (.invokespecial 57, 3) := by decide +kernel
theorem dX2_pot_27 : decode cX2_pot 27 = .ok (.athrow, 1) := by decide +kernel
theorem dX2_pot_28 : decode cX2_pot 28 = .ok (.aload_n 0, 1) := by decide +kernel
theorem dX2_pot_29 : decode cX2_pot 29 = .ok (.iload_n 1, 1) := by decide +kernel
theorem dX2_pot_30 : decode cX2_pot 30 = .ok (.iload_n 2, 1) := by decide +kernel
theorem dX2_pot_31 : decode cX2_pot 31 = .ok (.invokevirtual 128, 3) := by decide +kernel
theorem dX2_pot_34 : decode cX2_pot 34 = .ok (.ireturn, 1) := by decide +kernel
set_option maxRecDepth 20000 in
theorem ggX2_count_X2_isOutside : GoodIn wsX2_count wsX2_isOutside := goodIn_r _ [7] (by decide +kernel) (by decide +kernel)
set_option maxRecDepth 20000 in
theorem gX2_count_X2_isOutside : GoodIn wsX2_count (va_wsS RX2 19 yX2_isOutside wsX2_isOutside) := goodIn_app (goodIn_of _ (by decide +kernel)) ggX2_count_X2_isOutside
set_option maxRecDepth 20000 in
theorem ggX2_count_X1_tally : GoodIn wsX2_count wsX1_tally := goodIn_r _ [12, 13, 14, 15, 16, 17, 18, 19, 20, 21, 22, 23, 11, 24, 25, 26, 27, 28, 29, 30, 31, 32, 33, 34, 35, 36, 39, 40, 41, 42, 43, 44, 45, 46, 47, 48, 49, 50, 51, 52, 53, 54, 55, 56, 57, 58, 59, 60, 61, 62] (by decide +kernel) (by decide +kernel)
set_option maxRecDepth 20000 in
theorem gX2_count_X1_tally : GoodIn wsX2_count (wsV RX2 132 RX1 yX1_tally wsX1_tally) := goodIn_app (goodIn_of _ (by decide +kernel)) ggX2_count_X1_tally
theorem dX2_count_0 : decode cX2_count 0 = .ok (.iload_n 1, 1) := by decide +kernel
theorem dX2_count_1 : decode cX2_count 1 = .ok (.iconst 0, 1) := by decide +kernel
theorem dX2_count_2 : decode cX2_count 2 = .ok (.bipush 12, 2) := by decide +kernel
theorem dX2_count_4 : decode cX2_count 4 = .ok (.invokestatic 19, 3) := by decide +kernel
theorem dX2_count_7 : decode cX2_count 7 = .ok (.ifCond .eq 13, 3) := by decide +kernel
theorem dX2_count_10 : decode cX2_count 10 = .ok (.new 53, 3) := by decide +kernel
theorem dX2_count_13 : decode cX2_count 13 = .ok (.dup, 1) := by decide +kernel
theorem dX2_count_14 : decode cX2_count 14 = .ok (.ldc 107, 2) := by decide +kernel
theorem dX2_count_16 : decode cX2_count 16 = .ok (.invokespecial 57, 3) := by decide +kernel
theorem dX2_count_19 : decode cX2_count 19 = .ok (.athrow, 1) := by decide +kernel
theorem dX2_count_20 : decode cX2_count 20 = .ok (.aload_n 0, 1) := by decide +kernel
theorem dX2_count_21 : decode cX2_count 21 = .ok (.getfield 10, 3) := by decide +kernel
theorem dX2_count_24 : decode cX2_count 24 = .ok (.iload_n 1, 1) := by decide +kernel
theorem dX2_count_25 : decode cX2_count 25 = .ok (.invokevirtual 132, 3) := by decide +kernel
theorem dX2_count_28 : decode cX2_count 28 = .ok (.ireturn, 1) := by decide +kernel
set_option maxRecDepth 20000 in
theorem ggX2_pass_X2_isOutside : GoodIn wsX2_pass wsX2_isOutside := goodIn_r _ [8] (by decide +kernel) (by decide +kernel)
set_option maxRecDepth 20000 in
theorem gX2_pass_X2_isOutside : GoodIn wsX2_pass (va_wsS RX2 19 yX2_isOutside wsX2_isOutside) := goodIn_app (goodIn_of _ (by decide +kernel)) ggX2_pass_X2_isOutside
set_option maxRecDepth 20000 in
theorem ggX2_pass_X1_liveWeeks : GoodIn wsX2_pass wsX1_liveWeeks := goodIn_r _ [13, 14, 15, 16, 12, 17, 18, 19, 20, 21, 22, 23, 24, 25, 26, 27, 28, 29, 30, 31, 32, 33, 34, 35, 36, 37, 38, 39, 40, 41, 42, 43, 44, 45, 46, 47, 48, 49, 50, 51, 52, 53, 54, 55, 56, 57, 58, 59, 60, 61, 62, 63, 64, 65, 66, 67, 68, 69, 70, 71, 72, 73, 74, 75, 76, 77, 78, 79, 80, 81, 82, 83, 84, 85, 86, 87, 88, 89, 90, 91, 92, 93, 94, 95, 96, 97, 98, 99, 100, 101, 102, 103, 104, 105, 106, 107, 108, 109, 110, 111, 112, 113, 114, 115, 116, 117, 118, 119, 120, 121, 122, 123, 124, 125, 126, 127, 128, 129, 130, 131, 132, 133, 134, 135, 136, 137, 138, 139, 140, 141, 144, 145, 146, 147, 148, 149, 150, 151, 152, 153, 154, 155, 156, 157, 158, 159, 160, 161, 162, 163, 164, 165, 166, 167] (by decide +kernel) (by decide +kernel)
set_option maxRecDepth 20000 in
theorem gX2_pass_X1_liveWeeks : GoodIn wsX2_pass (wsV RX2 137 RX1 yX1_liveWeeks wsX1_liveWeeks) := goodIn_app (goodIn_of _ (by decide +kernel)) ggX2_pass_X1_liveWeeks
theorem dX2_pass_0 : decode cX2_pass 0 = .ok (.iload_n 1, 1) := by decide +kernel
theorem dX2_pass_1 : decode cX2_pass 1 = .ok (.iconst 1, 1) := by decide +kernel
theorem dX2_pass_2 : decode cX2_pass 2 = .ok (.bipush 60, 2) := by decide +kernel
theorem dX2_pass_4 : decode cX2_pass 4 = .ok (.invokestatic 19, 3) := by decide +kernel
theorem dX2_pass_7 : decode cX2_pass 7 = .ok (.ifCond .eq 13, 3) := by decide +kernel
theorem dX2_pass_10 : decode cX2_pass 10 = .ok (.new 23, 3) := by decide +kernel
theorem dX2_pass_13 : decode cX2_pass 13 = .ok (.dup, 1) := by decide +kernel
theorem dX2_pass_14 : decode cX2_pass 14 = .ok (.ldc 135, 2) := by decide +kernel
theorem dX2_pass_16 : decode cX2_pass 16 = .ok (.invokespecial 27, 3) := by decide +kernel
theorem dX2_pass_19 : decode cX2_pass 19 = .ok (.athrow, 1) := by decide +kernel
theorem dX2_pass_20 : decode cX2_pass 20 = .ok (.aload_n 0, 1) := by decide +kernel
theorem dX2_pass_21 : decode cX2_pass 21 = .ok (.getfield 10, 3) := by decide +kernel
theorem dX2_pass_24 : decode cX2_pass 24 = .ok (.getfield 80, 3) := by decide +kernel
theorem dX2_pass_27 : decode cX2_pass 27 = .ok (.istore_n 2, 1) := by decide +kernel
theorem dX2_pass_28 : decode cX2_pass 28 = .ok (.aload_n 0, 1) := by decide +kernel
theorem dX2_pass_29 : decode cX2_pass 29 = .ok (.getfield 10, 3) := by decide +kernel
theorem dX2_pass_32 : decode cX2_pass 32 = .ok (.iload_n 1, 1) := by decide +kernel
theorem dX2_pass_33 : decode cX2_pass 33 = .ok (.invokevirtual 137, 3) := by decide +kernel
theorem dX2_pass_36 : decode cX2_pass 36 = .ok (.aload_n 0, 1) := by decide +kernel
theorem dX2_pass_37 : decode cX2_pass 37 = .ok (.getfield 10, 3) := by decide +kernel
theorem dX2_pass_40 : decode cX2_pass 40 = .ok (.getfield 80, 3) := by decide +kernel
theorem dX2_pass_43 : decode cX2_pass 43 = .ok (.iload_n 2, 1) := by decide +kernel
theorem dX2_pass_44 : decode cX2_pass 44 = .ok (.isub, 1) := by decide +kernel
theorem dX2_pass_45 : decode cX2_pass 45 = .ok (.ireturn, 1) := by decide +kernel
set_option maxRecDepth 20000 in
theorem ggX2_foresee_X2_isOutside : GoodIn wsX2_foresee wsX2_isOutside := goodIn_r _ [10] (by decide +kernel) (by decide +kernel)
set_option maxRecDepth 20000 in
theorem gX2_foresee_X2_isOutside : GoodIn wsX2_foresee (va_wsS RX2 19 yX2_isOutside wsX2_isOutside) := goodIn_app (goodIn_of _ (by decide +kernel)) ggX2_foresee_X2_isOutside
set_option maxRecDepth 20000 in
theorem ggX2_foresee_X1_copyFrom : GoodIn wsX2_foresee wsX1_copyFrom := goodIn_r _ [15, 16, 17, 18, 19, 20, 21, 22, 23, 24, 25, 26, 27, 28, 29, 30, 31, 32, 33, 34, 35, 36, 37, 38, 39, 40, 41, 42, 173, 174, 175, 176, 177, 178, 179, 180, 181, 182, 183, 184, 185, 186, 187, 188, 189, 190, 191, 192, 193, 194, 195, 196] (by decide +kernel) (by decide +kernel)
set_option maxRecDepth 20000 in
theorem gX2_foresee_X1_copyFrom : GoodIn wsX2_foresee (wsV RX2 141 RX1 yX1_copyFrom wsX1_copyFrom) := goodIn_app (goodIn_of _ (by decide +kernel)) ggX2_foresee_X1_copyFrom
set_option maxRecDepth 20000 in
theorem ggX2_foresee_X1_liveWeeks : GoodIn wsX2_foresee wsX1_liveWeeks := goodIn_r _ [46, 47, 48, 49, 14, 50, 51, 16, 52, 53, 54, 55, 56, 19, 26, 57, 58, 59, 60, 61, 62, 63, 64, 65, 66, 67, 27, 68, 69, 70, 71, 31, 72, 39, 38, 73, 74, 75, 76, 20, 21, 77, 78, 79, 80, 81, 82, 83, 84, 85, 86, 25, 87, 88, 89, 90, 91, 92, 93, 94, 34, 40, 41, 95, 96, 97, 98, 99, 100, 101, 102, 103, 104, 105, 106, 107, 23, 108, 109, 110, 111, 36, 37, 42, 112, 113, 114, 115, 18, 116, 117, 118, 119, 120, 121, 122, 123, 22, 124, 125, 126, 127, 35, 128, 129, 130, 131, 132, 133, 134, 135, 136, 137, 138, 139, 140, 141, 142, 143, 144, 145, 146, 147, 148, 149, 24, 150, 151, 152, 153, 173, 174, 175, 176, 177, 178, 179, 180, 181, 182, 183, 184, 185, 186, 187, 188, 189, 190, 191, 192, 193, 194, 195, 196] (by decide +kernel) (by decide +kernel)
set_option maxRecDepth 20000 in
theorem gX2_foresee_X1_liveWeeks : GoodIn wsX2_foresee (wsV RX2 137 RX1 yX1_liveWeeks wsX1_liveWeeks) := goodIn_app (goodIn_of _ (by decide +kernel)) ggX2_foresee_X1_liveWeeks
set_option maxRecDepth 20000 in
theorem ggX2_foresee_X1_tally : GoodIn wsX2_foresee wsX1_tally := goodIn_r _ [157, 16, 17, 18, 19, 20, 21, 23, 24, 158, 159, 160, 14, 161, 27, 99, 162, 163, 164, 165, 77, 166, 167, 168, 169, 170, 173, 174, 175, 176, 177, 178, 179, 180, 181, 182, 183, 184, 185, 186, 187, 188, 189, 190, 191, 192, 193, 194, 195, 196] (by decide +kernel) (by decide +kernel)
set_option maxRecDepth 20000 in
theorem gX2_foresee_X1_tally : GoodIn wsX2_foresee (wsV RX2 132 RX1 yX1_tally wsX1_tally) := goodIn_app (goodIn_of _ (by decide +kernel)) ggX2_foresee_X1_tally
theorem dX2_foresee_0 : decode cX2_foresee 0 = .ok (.iload_n 1, 1) := by decide +kernel
theorem dX2_foresee_1 : decode cX2_foresee 1 = .ok (.iconst 1, 1) := by decide +kernel
theorem dX2_foresee_2 : decode cX2_foresee 2 = .ok (.bipush 60, 2) := by decide +kernel
theorem dX2_foresee_4 : decode cX2_foresee 4 = .ok (.invokestatic 19, 3) := by decide +kernel
theorem dX2_foresee_7 : decode cX2_foresee 7 = .ok (.ifCond .eq 13, 3) := by decide +kernel
theorem dX2_foresee_10 : decode cX2_foresee 10 = .ok (.new 23, 3) := by decide +kernel
theorem dX2_foresee_13 : decode cX2_foresee 13 = .ok (.dup, 1) := by decide +kernel
theorem dX2_foresee_14 : decode cX2_foresee 14 = .ok (.ldc 135, 2) := by decide +kernel
theorem dX2_foresee_16 : decode cX2_foresee 16 = .ok (.invokespecial 27, 3) := by decide +kernel
theorem dX2_foresee_19 : decode cX2_foresee 19 = .ok (.athrow, 1) := by decide +kernel
theorem dX2_foresee_20 : decode cX2_foresee 20 = .ok (.iload_n 2, 1) := by decide +kernel
theorem dX2_foresee_21 : decode cX2_foresee 21 = .ok (.iconst 2, 1) := by decide +kernel
theorem dX2_foresee_22 : decode cX2_foresee 22 = .ok (.bipush 8, 2) := by decide +kernel
theorem dX2_foresee_24 : decode cX2_foresee 24 = .ok (.invokestatic 19, 3) := by decide +kernel
theorem dX2_foresee_27 : decode cX2_foresee 27 = .ok (.ifCond .eq 13, 3) := by decide +kernel
theorem dX2_foresee_30 : decode cX2_foresee 30 = .ok (.new 53, 3) := by decide +kernel
theorem dX2_foresee_33 : decode cX2_foresee 33 = .ok (.dup, 1) := by decide +kernel
theorem dX2_foresee_34 : decode cX2_foresee 34 = .ok (.ldc 107, 2) := by decide +kernel
theorem dX2_foresee_36 : decode cX2_foresee 36 = .ok (.invokespecial 57, 3) := by decide +kernel
theorem dX2_foresee_39 : decode cX2_foresee 39 = .ok (.athrow, 1) := by decide +kernel
theorem dX2_foresee_40 : decode cX2_foresee 40 = .ok (.aload_n 0, 1) := by decide +kernel
theorem dX2_foresee_41 : decode cX2_foresee 41 = .ok (.getfield 16, 3) := by decide +kernel
theorem dX2_foresee_44 : decode cX2_foresee 44 = .ok (.aload_n 0, 1) := by decide +kernel
theorem dX2_foresee_45 : decode cX2_foresee 45 = .ok (.getfield 10, 3) := by decide +kernel
theorem dX2_foresee_48 : decode cX2_foresee 48 = .ok (.invokevirtual 141, 3) := by decide +kernel
theorem dX2_foresee_51 : decode cX2_foresee 51 = .ok (.aload_n 0, 1) := by decide +kernel
theorem dX2_foresee_52 : decode cX2_foresee 52 = .ok (.getfield 16, 3) := by decide +kernel
theorem dX2_foresee_55 : decode cX2_foresee 55 = .ok (.iload_n 1, 1) := by decide +kernel
theorem dX2_foresee_56 : decode cX2_foresee 56 = .ok (.invokevirtual 137, 3) := by decide +kernel
theorem dX2_foresee_59 : decode cX2_foresee 59 = .ok (.aload_n 0, 1) := by decide +kernel
theorem dX2_foresee_60 : decode cX2_foresee 60 = .ok (.getfield 16, 3) := by decide +kernel
theorem dX2_foresee_63 : decode cX2_foresee 63 = .ok (.iload_n 2, 1) := by decide +kernel
theorem dX2_foresee_64 : decode cX2_foresee 64 = .ok (.invokevirtual 132, 3) := by decide +kernel
theorem dX2_foresee_67 : decode cX2_foresee 67 = .ok (.ireturn, 1) := by decide +kernel
set_option maxRecDepth 20000 in
theorem ggX2_earns_X1_hasMember : GoodIn wsX2_earns wsX1_hasMember := goodIn_r _ [11, 12, 13, 77, 78, 79, 80, 81, 82, 83, 84, 85, 86, 87, 88, 89, 90, 91, 92, 93, 94, 95, 96, 97, 98, 99, 100] (by decide +kernel) (by decide +kernel)
set_option maxRecDepth 20000 in
theorem gX2_earns_X1_hasMember : GoodIn wsX2_earns (wsV RX2 49 RX1 yX1_hasMember wsX1_hasMember) := goodIn_app (goodIn_of _ (by decide +kernel)) ggX2_earns_X1_hasMember
set_option maxRecDepth 20000 in
theorem ggX2_earns_X1_copyFrom : GoodIn wsX2_earns wsX1_copyFrom := goodIn_r _ [17, 18, 19, 20, 21, 22, 23, 24, 25, 26, 27, 28, 12, 29, 30, 31, 32, 33, 34, 35, 36, 37, 38, 39, 40, 41, 42, 43, 77, 78, 79, 80, 81, 82, 83, 84, 85, 86, 87, 88, 89, 90, 91, 92, 93, 94, 95, 96, 97, 98, 99, 100] (by decide +kernel) (by decide +kernel)
set_option maxRecDepth 20000 in
theorem gX2_earns_X1_copyFrom : GoodIn wsX2_earns (wsV RX2 141 RX1 yX1_copyFrom wsX1_copyFrom) := goodIn_app (goodIn_of _ (by decide +kernel)) ggX2_earns_X1_copyFrom
set_option maxRecDepth 20000 in
theorem ggX2_earns_X1_lightFires : GoodIn wsX2_earns wsX1_lightFires := goodIn_r _ [47, 48, 21, 28, 49, 50, 51, 52, 53, 54, 55, 56, 57, 58, 10, 59, 12, 60, 61, 62, 63, 32, 64, 40, 39, 77, 78, 79, 80, 81, 82, 83, 84, 85, 86, 87, 88, 89, 90, 91, 92, 93, 94, 95, 96, 97, 98, 99, 100] (by decide +kernel) (by decide +kernel)
set_option maxRecDepth 20000 in
theorem gX2_earns_X1_lightFires : GoodIn wsX2_earns (wsV RX2 145 RX1 yX1_lightFires wsX1_lightFires) := goodIn_app (goodIn_of _ (by decide +kernel)) ggX2_earns_X1_lightFires
set_option maxRecDepth 20000 in
theorem ggX2_earns_X1_combWool : GoodIn wsX2_earns wsX1_combWool := goodIn_r _ [68, 12, 22, 49, 50, 51, 52, 23, 69, 70, 71, 72, 10, 73, 48, 60, 53, 54, 55, 74, 28, 61, 62, 63, 32, 64, 40, 39, 77, 78, 79, 80, 81, 82, 83, 84, 85, 86, 87, 88, 89, 90, 91, 92, 93, 94, 95, 96, 97, 98, 99, 100] (by decide +kernel) (by decide +kernel)
set_option maxRecDepth 20000 in
theorem gX2_earns_X1_combWool : GoodIn wsX2_earns (wsV RX2 148 RX1 yX1_combWool wsX1_combWool) := goodIn_app (goodIn_of _ (by decide +kernel)) ggX2_earns_X1_combWool
theorem dX2_earns_0 : decode cX2_earns 0 = .ok (.aload_n 0, 1) := by decide +kernel
theorem dX2_earns_1 : decode cX2_earns 1 = .ok (.getfield 10, 3) := by decide +kernel
theorem dX2_earns_4 : decode cX2_earns 4 = .ok (.iload_n 1, 1) := by decide +kernel
theorem dX2_earns_5 : decode cX2_earns 5 = .ok (.invokevirtual 49, 3) := by decide +kernel
theorem dX2_earns_8 : decode cX2_earns 8 = .ok (.ifCond .ne 13, 3) := by decide +kernel
theorem dX2_earns_11 : decode cX2_earns 11 = .ok (.new 53, 3) := by decide +kernel
theorem dX2_earns_14 : decode cX2_earns 14 = .ok (.dup, 1) := by decide +kernel
theorem dX2_earns_15 : decode cX2_earns 15 = .ok (.ldc 70, 2) := by decide +kernel
theorem dX2_earns_17 : decode cX2_earns 17 = .ok (.invokespecial 57, 3) := by decide +kernel
theorem dX2_earns_20 : decode cX2_earns 20 = .ok (.athrow, 1) := by decide +kernel
theorem dX2_earns_21 : decode cX2_earns 21 = .ok (.aload_n 0, 1) := by decide +kernel
theorem dX2_earns_22 : decode cX2_earns 22 = .ok (.getfield 16, 3) := by decide +kernel
theorem dX2_earns_25 : decode cX2_earns 25 = .ok (.aload_n 0, 1) := by decide +kernel
theorem dX2_earns_26 : decode cX2_earns 26 = .ok (.getfield 10, 3) := by decide +kernel
theorem dX2_earns_29 : decode cX2_earns 29 = .ok (.invokevirtual 141, 3) := by decide +kernel
theorem dX2_earns_32 : decode cX2_earns 32 = .ok (.aload_n 0, 1) := by decide +kernel
theorem dX2_earns_33 : decode cX2_earns 33 = .ok (.getfield 16, 3) := by decide +kernel
theorem dX2_earns_36 : decode cX2_earns 36 = .ok (.invokevirtual 145, 3) := by decide +kernel
theorem dX2_earns_39 : decode cX2_earns 39 = .ok (.aload_n 0, 1) := by decide +kernel
theorem dX2_earns_40 : decode cX2_earns 40 = .ok (.getfield 16, 3) := by decide +kernel
theorem dX2_earns_43 : decode cX2_earns 43 = .ok (.invokevirtual 148, 3) := by decide +kernel
theorem dX2_earns_46 : decode cX2_earns 46 = .ok (.aload_n 0, 1) := by decide +kernel
theorem dX2_earns_47 : decode cX2_earns 47 = .ok (.getfield 16, 3) := by decide +kernel
theorem dX2_earns_50 : decode cX2_earns 50 = .ok (.getfield 39, 3) := by decide +kernel
theorem dX2_earns_53 : decode cX2_earns 53 = .ok (.iload_n 1, 1) := by decide +kernel
theorem dX2_earns_54 : decode cX2_earns 54 = .ok (.aaload, 1) := by decide +kernel
theorem dX2_earns_55 : decode cX2_earns 55 = .ok (.getfield 74, 3) := by decide +kernel
theorem dX2_earns_58 : decode cX2_earns 58 = .ok (.aload_n 0, 1) := by decide +kernel
theorem dX2_earns_59 : decode cX2_earns 59 = .ok (.getfield 10, 3) := by decide +kernel
theorem dX2_earns_62 : decode cX2_earns 62 = .ok (.getfield 39, 3) := by decide +kernel
theorem dX2_earns_65 : decode cX2_earns 65 = .ok (.iload_n 1, 1) := by decide +kernel
theorem dX2_earns_66 : decode cX2_earns 66 = .ok (.aaload, 1) := by decide +kernel
theorem dX2_earns_67 : decode cX2_earns 67 = .ok (.getfield 74, 3) := by decide +kernel
theorem dX2_earns_70 : decode cX2_earns 70 = .ok (.isub, 1) := by decide +kernel
theorem dX2_earns_71 : decode cX2_earns 71 = .ok (.ireturn, 1) := by decide +kernel
set_option maxRecDepth 20000 in
theorem ggX2_dies_X1_hasMember : GoodIn wsX2_dies wsX1_hasMember := goodIn_r _ [11, 12, 13, 152, 153, 154, 155, 156, 157, 158, 159, 160, 161, 162, 163, 164, 165, 166, 167, 168, 169, 170, 171, 172, 173, 174, 175] (by decide +kernel) (by decide +kernel)
set_option maxRecDepth 20000 in
theorem gX2_dies_X1_hasMember : GoodIn wsX2_dies (wsV RX2 49 RX1 yX1_hasMember wsX1_hasMember) := goodIn_app (goodIn_of _ (by decide +kernel)) ggX2_dies_X1_hasMember
set_option maxRecDepth 20000 in
theorem ggX2_dies_X1_copyFrom : GoodIn wsX2_dies wsX1_copyFrom := goodIn_r _ [17, 18, 19, 20, 21, 22, 23, 24, 25, 26, 27, 28, 12, 29, 30, 31, 32, 33, 34, 35, 36, 37, 38, 39, 40, 41, 42, 43, 152, 153, 154, 155, 156, 157, 158, 159, 160, 161, 162, 163, 164, 165, 166, 167, 168, 169, 170, 171, 172, 173, 174, 175] (by decide +kernel) (by decide +kernel)
set_option maxRecDepth 20000 in
theorem gX2_dies_X1_copyFrom : GoodIn wsX2_dies (wsV RX2 141 RX1 yX1_copyFrom wsX1_copyFrom) := goodIn_app (goodIn_of _ (by decide +kernel)) ggX2_dies_X1_copyFrom
set_option maxRecDepth 20000 in
theorem ggX2_dies_X1_liveWeek : GoodIn wsX2_dies wsX1_liveWeek := goodIn_r _ [47, 48, 18, 49, 50, 51, 10, 52, 53, 21, 28, 54, 55, 56, 57, 58, 59, 60, 61, 62, 63, 64, 12, 65, 66, 67, 68, 32, 69, 40, 39, 70, 71, 72, 73, 22, 23, 74, 75, 76, 77, 78, 79, 80, 81, 82, 83, 27, 84, 85, 86, 87, 88, 89, 90, 91, 35, 41, 42, 92, 93, 94, 95, 13, 96, 97, 98, 99, 100, 101, 102, 103, 25, 104, 105, 106, 107, 37, 38, 43, 108, 109, 110, 111, 20, 112, 113, 114, 115, 116, 117, 118, 119, 24, 120, 121, 122, 123, 36, 124, 125, 126, 127, 128, 129, 130, 131, 132, 133, 134, 135, 136, 137, 138, 139, 140, 141, 142, 143, 144, 145, 26, 146, 147, 148, 149, 152, 153, 154, 155, 156, 157, 158, 159, 160, 161, 162, 163, 164, 165, 166, 167, 168, 169, 170, 171, 172, 173, 174, 175] (by decide +kernel) (by decide +kernel)
set_option maxRecDepth 20000 in
theorem gX2_dies_X1_liveWeek : GoodIn wsX2_dies (wsV RX2 151 RX1 yX1_liveWeek wsX1_liveWeek) := goodIn_app (goodIn_of _ (by decide +kernel)) ggX2_dies_X1_liveWeek
theorem dX2_dies_0 : decode cX2_dies 0 = .ok (.aload_n 0, 1) := by decide +kernel
theorem dX2_dies_1 : decode cX2_dies 1 = .ok (.getfield 10, 3) := by decide +kernel
theorem dX2_dies_4 : decode cX2_dies 4 = .ok (.iload_n 1, 1) := by decide +kernel
theorem dX2_dies_5 : decode cX2_dies 5 = .ok (.invokevirtual 49, 3) := by decide +kernel
theorem dX2_dies_8 : decode cX2_dies 8 = .ok (.ifCond .ne 13, 3) := by decide +kernel
theorem dX2_dies_11 : decode cX2_dies 11 = .ok (.new 53, 3) := by decide +kernel
theorem dX2_dies_14 : decode cX2_dies 14 = .ok (.dup, 1) := by decide +kernel
theorem dX2_dies_15 : decode cX2_dies 15 = .ok (.ldc 70, 2) := by decide +kernel
theorem dX2_dies_17 : decode cX2_dies 17 = .ok (.invokespecial 57, 3) := by decide +kernel
theorem dX2_dies_20 : decode cX2_dies 20 = .ok (.athrow, 1) := by decide +kernel
theorem dX2_dies_21 : decode cX2_dies 21 = .ok (.aload_n 0, 1) := by decide +kernel
theorem dX2_dies_22 : decode cX2_dies 22 = .ok (.getfield 16, 3) := by decide +kernel
theorem dX2_dies_25 : decode cX2_dies 25 = .ok (.aload_n 0, 1) := by decide +kernel
theorem dX2_dies_26 : decode cX2_dies 26 = .ok (.getfield 10, 3) := by decide +kernel
theorem dX2_dies_29 : decode cX2_dies 29 = .ok (.invokevirtual 141, 3) := by decide +kernel
theorem dX2_dies_32 : decode cX2_dies 32 = .ok (.aload_n 0, 1) := by decide +kernel
theorem dX2_dies_33 : decode cX2_dies 33 = .ok (.getfield 16, 3) := by decide +kernel
theorem dX2_dies_36 : decode cX2_dies 36 = .ok (.getfield 39, 3) := by decide +kernel
theorem dX2_dies_39 : decode cX2_dies 39 = .ok (.iload_n 1, 1) := by decide +kernel
theorem dX2_dies_40 : decode cX2_dies 40 = .ok (.aaload, 1) := by decide +kernel
theorem dX2_dies_41 : decode cX2_dies 41 = .ok (.astore_n 2, 1) := by decide +kernel
theorem dX2_dies_42 : decode cX2_dies 42 = .ok (.iconst 0, 1) := by decide +kernel
theorem dX2_dies_43 : decode cX2_dies 43 = .ok (.istore_n 3, 1) := by decide +kernel
theorem dX2_dies_44 : decode cX2_dies 44 = .ok (.iload_n 3, 1) := by decide +kernel
theorem dX2_dies_45 : decode cX2_dies 45 = .ok (.bipush 100, 2) := by decide +kernel
theorem dX2_dies_47 : decode cX2_dies 47 = .ok (.if_icmp .ge 26, 3) := by decide +kernel
theorem dX2_dies_50 : decode cX2_dies 50 = .ok (.aload_n 2, 1) := by decide +kernel
theorem dX2_dies_51 : decode cX2_dies 51 = .ok (.getfield 58, 3) := by decide +kernel
theorem dX2_dies_54 : decode cX2_dies 54 = .ok (.iconst 2, 1) := by decide +kernel
theorem dX2_dies_55 : decode cX2_dies 55 = .ok (.if_icmp .ne 5, 3) := by decide +kernel
theorem dX2_dies_58 : decode cX2_dies 58 = .ok (.iload_n 3, 1) := by decide +kernel
theorem dX2_dies_59 : decode cX2_dies 59 = .ok (.ireturn, 1) := by decide +kernel
theorem dX2_dies_60 : decode cX2_dies 60 = .ok (.aload_n 0, 1) := by decide +kernel
theorem dX2_dies_61 : decode cX2_dies 61 = .ok (.getfield 16, 3) := by decide +kernel
theorem dX2_dies_64 : decode cX2_dies 64 = .ok (.invokevirtual 151, 3) := by decide +kernel
theorem dX2_dies_67 : decode cX2_dies 67 = .ok (.iinc 3 1, 3) := by decide +kernel
theorem dX2_dies_70 : decode cX2_dies 70 = .ok (.goto (-26), 3) := by decide +kernel
theorem dX2_dies_73 : decode cX2_dies 73 = .ok (.aload_n 2, 1) := by decide +kernel
theorem dX2_dies_74 : decode cX2_dies 74 = .ok (.getfield 58, 3) := by decide +kernel
theorem dX2_dies_77 : decode cX2_dies 77 = .ok (.iconst 2, 1) := by decide +kernel
theorem dX2_dies_78 : decode cX2_dies 78 = .ok (.if_icmp .ne 8, 3) := by decide +kernel
theorem dX2_dies_81 : decode cX2_dies 81 = .ok (.bipush 100, 2) := by decide +kernel
theorem dX2_dies_83 : decode cX2_dies 83 = .ok (.goto 4, 3) := by decide +kernel
theorem dX2_dies_86 : decode cX2_dies 86 = .ok (.iconst (-1), 1) := by decide +kernel
theorem dX2_dies_87 : decode cX2_dies 87 = .ok (.ireturn, 1) := by decide +kernel
set_option maxRecDepth 20000 in
theorem ggX2_lasts_X1_copyFrom : GoodIn wsX2_lasts wsX1_copyFrom := goodIn_r _ [8, 9, 10, 11, 12, 13, 14, 15, 16, 17, 18, 19, 20, 21, 22, 23, 24, 25, 26, 27, 28, 29, 30, 31, 32, 33, 34, 35, 145, 146, 147, 148, 149, 150, 151, 152, 153, 154, 155, 156, 157, 158, 159, 160, 161, 162, 163, 164, 165, 166, 167, 168] (by decide +kernel) (by decide +kernel)
set_option maxRecDepth 20000 in
theorem gX2_lasts_X1_copyFrom : GoodIn wsX2_lasts (wsV RX2 141 RX1 yX1_copyFrom wsX1_copyFrom) := goodIn_app (goodIn_of _ (by decide +kernel)) ggX2_lasts_X1_copyFrom
set_option maxRecDepth 20000 in
theorem ggX2_lasts_X1_liveWeek : GoodIn wsX2_lasts wsX1_liveWeek := goodIn_r _ [39, 40, 9, 41, 42, 43, 7, 44, 45, 12, 19, 46, 47, 48, 49, 50, 51, 52, 53, 54, 55, 56, 20, 57, 58, 59, 60, 24, 61, 32, 31, 62, 63, 64, 65, 13, 14, 66, 67, 68, 69, 70, 71, 72, 73, 74, 75, 18, 76, 77, 78, 79, 80, 81, 82, 83, 27, 33, 34, 84, 85, 86, 87, 88, 89, 90, 91, 92, 93, 94, 95, 96, 16, 97, 98, 99, 100, 29, 30, 35, 101, 102, 103, 104, 11, 105, 106, 107, 108, 109, 110, 111, 112, 15, 113, 114, 115, 116, 28, 117, 118, 119, 120, 121, 122, 123, 124, 125, 126, 127, 128, 129, 130, 131, 132, 133, 134, 135, 136, 137, 138, 17, 139, 140, 141, 142, 145, 146, 147, 148, 149, 150, 151, 152, 153, 154, 155, 156, 157, 158, 159, 160, 161, 162, 163, 164, 165, 166, 167, 168] (by decide +kernel) (by decide +kernel)
set_option maxRecDepth 20000 in
theorem gX2_lasts_X1_liveWeek : GoodIn wsX2_lasts (wsV RX2 151 RX1 yX1_liveWeek wsX1_liveWeek) := goodIn_app (goodIn_of _ (by decide +kernel)) ggX2_lasts_X1_liveWeek
theorem dX2_lasts_0 : decode cX2_lasts 0 = .ok (.aload_n 0, 1) := by decide +kernel
theorem dX2_lasts_1 : decode cX2_lasts 1 = .ok (.getfield 16, 3) := by decide +kernel
theorem dX2_lasts_4 : decode cX2_lasts 4 = .ok (.aload_n 0, 1) := by decide +kernel
theorem dX2_lasts_5 : decode cX2_lasts 5 = .ok (.getfield 10, 3) := by decide +kernel
theorem dX2_lasts_8 : decode cX2_lasts 8 = .ok (.invokevirtual 141, 3) := by decide +kernel
theorem dX2_lasts_11 : decode cX2_lasts 11 = .ok (.iconst 1, 1) := by decide +kernel
theorem dX2_lasts_12 : decode cX2_lasts 12 = .ok (.istore_n 1, 1) := by decide +kernel
theorem dX2_lasts_13 : decode cX2_lasts 13 = .ok (.iload_n 1, 1) := by decide +kernel
theorem dX2_lasts_14 : decode cX2_lasts 14 = .ok (.bipush 100, 2) := by decide +kernel
theorem dX2_lasts_16 : decode cX2_lasts 16 = .ok (.if_icmp .gt 28, 3) := by decide +kernel
theorem dX2_lasts_19 : decode cX2_lasts 19 = .ok (.aload_n 0, 1) := by decide +kernel
theorem dX2_lasts_20 : decode cX2_lasts 20 = .ok (.getfield 16, 3) := by decide +kernel
theorem dX2_lasts_23 : decode cX2_lasts 23 = .ok (.invokevirtual 151, 3) := by decide +kernel
theorem dX2_lasts_26 : decode cX2_lasts 26 = .ok (.aload_n 0, 1) := by decide +kernel
theorem dX2_lasts_27 : decode cX2_lasts 27 = .ok (.getfield 16, 3) := by decide +kernel
theorem dX2_lasts_30 : decode cX2_lasts 30 = .ok (.getfield 154, 3) := by decide +kernel
theorem dX2_lasts_33 : decode cX2_lasts 33 = .ok (.ifCond .eq 5, 3) := by decide +kernel
theorem dX2_lasts_36 : decode cX2_lasts 36 = .ok (.iload_n 1, 1) := by decide +kernel
theorem dX2_lasts_37 : decode cX2_lasts 37 = .ok (.ireturn, 1) := by decide +kernel
theorem dX2_lasts_38 : decode cX2_lasts 38 = .ok (.iinc 1 1, 3) := by decide +kernel
theorem dX2_lasts_41 : decode cX2_lasts 41 = .ok (.goto (-28), 3) := by decide +kernel
theorem dX2_lasts_44 : decode cX2_lasts 44 = .ok (.iconst (-1), 1) := by decide +kernel
theorem dX2_lasts_45 : decode cX2_lasts 45 = .ok (.ireturn, 1) := by decide +kernel
set_option maxRecDepth 20000 in
theorem ggX2_advise_X1_hasMember : GoodIn wsX2_advise wsX1_hasMember := goodIn_r _ [15, 16, 17, 168, 169, 170, 171, 172, 173, 174, 175, 176, 177, 178, 179, 180, 181, 182, 183, 184, 185, 186, 187, 188, 189, 190, 191] (by decide +kernel) (by decide +kernel)
set_option maxRecDepth 20000 in
theorem gX2_advise_X1_hasMember : GoodIn wsX2_advise (wsV RX2 49 RX1 yX1_hasMember wsX1_hasMember) := goodIn_app (goodIn_of _ (by decide +kernel)) ggX2_advise_X1_hasMember
set_option maxRecDepth 20000 in
theorem ggX2_advise_X1_hasRoom : GoodIn wsX2_advise wsX1_hasRoom := goodIn_r _ [21, 22, 23, 24, 25, 14, 26, 16, 27, 28, 29, 30, 31, 32, 182, 183, 184, 185, 186, 187, 188, 189, 190, 191, 168, 169, 170, 171, 172, 173, 174, 175, 176, 177, 178, 179, 180, 181] (by decide +kernel) (by decide +kernel)
set_option maxRecDepth 20000 in
theorem gX2_advise_X1_hasRoom : GoodIn wsX2_advise (wsV RX2 61 RX1 yX1_hasRoom wsX1_hasRoom) := goodIn_app (goodIn_of _ (by decide +kernel)) ggX2_advise_X1_hasRoom
set_option maxRecDepth 20000 in
theorem ggX2_advise_X1_copyFrom : GoodIn wsX2_advise wsX1_copyFrom := goodIn_r _ [36, 37, 38, 39, 40, 41, 42, 43, 44, 45, 46, 47, 16, 48, 49, 50, 30, 51, 52, 53, 54, 55, 56, 57, 32, 58, 59, 60, 168, 169, 170, 171, 172, 173, 174, 175, 176, 177, 178, 179, 180, 181, 182, 183, 184, 185, 186, 187, 188, 189, 190, 191] (by decide +kernel) (by decide +kernel)
set_option maxRecDepth 20000 in
theorem gX2_advise_X1_copyFrom : GoodIn wsX2_advise (wsV RX2 141 RX1 yX1_copyFrom wsX1_copyFrom) := goodIn_app (goodIn_of _ (by decide +kernel)) ggX2_advise_X1_copyFrom
set_option maxRecDepth 20000 in
theorem ggX2_advise_X1_liveWeeks : GoodIn wsX2_advise wsX1_liveWeeks := goodIn_r _ [64, 65, 66, 67, 14, 68, 69, 37, 70, 71, 72, 73, 74, 40, 47, 75, 76, 77, 78, 79, 80, 81, 82, 83, 84, 85, 16, 22, 86, 87, 88, 30, 89, 32, 57, 90, 91, 92, 93, 41, 42, 94, 95, 96, 97, 98, 99, 100, 101, 102, 103, 46, 104, 105, 106, 107, 108, 109, 110, 111, 53, 58, 59, 112, 113, 114, 115, 17, 116, 117, 118, 119, 120, 121, 122, 123, 44, 124, 125, 126, 127, 55, 56, 60, 128, 129, 130, 131, 39, 132, 133, 134, 135, 136, 137, 138, 139, 43, 140, 141, 142, 143, 54, 144, 145, 146, 147, 148, 149, 150, 151, 152, 153, 154, 155, 156, 157, 158, 159, 160, 161, 162, 163, 164, 165, 45, 27, 28, 29, 31, 168, 169, 170, 171, 172, 173, 174, 175, 176, 177, 178, 179, 180, 181, 182, 183, 184, 185, 186, 187, 188, 189, 190, 191] (by decide +kernel) (by decide +kernel)
set_option maxRecDepth 20000 in
theorem gX2_advise_X1_liveWeeks : GoodIn wsX2_advise (wsV RX2 137 RX1 yX1_liveWeeks wsX1_liveWeeks) := goodIn_app (goodIn_of _ (by decide +kernel)) ggX2_advise_X1_liveWeeks
theorem dX2_advise_0 : decode cX2_advise 0 = .ok (.aload_n 0, 1) := by decide +kernel
theorem dX2_advise_1 : decode cX2_advise 1 = .ok (.getfield 10, 3) := by decide +kernel
theorem dX2_advise_4 : decode cX2_advise 4 = .ok (.iload_n 1, 1) := by decide +kernel
theorem dX2_advise_5 : decode cX2_advise 5 = .ok (.invokevirtual 49, 3) := by decide +kernel
theorem dX2_advise_8 : decode cX2_advise 8 = .ok (.ifCond .ne 13, 3) := by decide +kernel
theorem dX2_advise_11 : decode cX2_advise 11 = .ok (.new 53, 3) := by decide +kernel
theorem dX2_advise_14 : decode cX2_advise 14 = .ok (.dup, 1) := by decide +kernel
theorem dX2_advise_15 : decode cX2_advise 15 = .ok (.ldc 70, 2) := by decide +kernel
theorem dX2_advise_17 : decode cX2_advise 17 = .ok (.invokespecial 57, 3) := by decide +kernel
theorem dX2_advise_20 : decode cX2_advise 20 = .ok (.athrow, 1) := by decide +kernel
theorem dX2_advise_21 : decode cX2_advise 21 = .ok (.aload_n 0, 1) := by decide +kernel
theorem dX2_advise_22 : decode cX2_advise 22 = .ok (.getfield 10, 3) := by decide +kernel
theorem dX2_advise_25 : decode cX2_advise 25 = .ok (.getfield 39, 3) := by decide +kernel
theorem dX2_advise_28 : decode cX2_advise 28 = .ok (.iload_n 1, 1) := by decide +kernel
theorem dX2_advise_29 : decode cX2_advise 29 = .ok (.aaload, 1) := by decide +kernel
theorem dX2_advise_30 : decode cX2_advise 30 = .ok (.astore_n 2, 1) := by decide +kernel
theorem dX2_advise_31 : decode cX2_advise 31 = .ok (.aload_n 2, 1) := by decide +kernel
theorem dX2_advise_32 : decode cX2_advise 32 = .ok (.getfield 58, 3) := by decide +kernel
theorem dX2_advise_35 : decode cX2_advise 35 = .ok (.iconst 2, 1) := by decide +kernel
theorem dX2_advise_36 : decode cX2_advise 36 = .ok (.if_icmp .ne 13, 3) := by decide +kernel
theorem dX2_advise_39 : decode cX2_advise 39 = .ok (.new 34, 3) := by decide +kernel
theorem dX2_advise_42 : decode cX2_advise 42 = .ok (.dup, 1) := by decide +kernel
theorem dX2_advise_43 : decode cX2_advise 43 = .ok (.ldc 78, 2) := by decide +kernel
theorem dX2_advise_45 : decode cX2_advise 45 = .ok (.invokespecial 38, 3) := by decide +kernel
theorem dX2_advise_48 : decode cX2_advise 48 = .ok (.athrow, 1) := by decide +kernel
theorem dX2_advise_49 : decode cX2_advise 49 = .ok (.iconst (-1), 1) := by decide +kernel
theorem dX2_advise_50 : decode cX2_advise 50 = .ok (.istore_n 3, 1) := by decide +kernel
theorem dX2_advise_51 : decode cX2_advise 51 = .ok (.iconst (-1), 1) := by decide +kernel
theorem dX2_advise_52 : decode cX2_advise 52 = .ok (.istore 4, 2) := by decide +kernel
theorem dX2_advise_54 : decode cX2_advise 54 = .ok (.iconst 0, 1) := by decide +kernel
theorem dX2_advise_55 : decode cX2_advise 55 = .ok (.istore 5, 2) := by decide +kernel
theorem dX2_advise_57 : decode cX2_advise 57 = .ok (.iload 5, 2) := by decide +kernel
theorem dX2_advise_59 : decode cX2_advise 59 = .ok (.iconst 3, 1) := by decide +kernel
theorem dX2_advise_60 : decode cX2_advise 60 = .ok (.if_icmp .ge 80, 3) := by decide +kernel
theorem dX2_advise_63 : decode cX2_advise 63 = .ok (.aload_n 0, 1) := by decide +kernel
theorem dX2_advise_64 : decode cX2_advise 64 = .ok (.getfield 10, 3) := by decide +kernel
theorem dX2_advise_67 : decode cX2_advise 67 = .ok (.iload 5, 2) := by decide +kernel
theorem dX2_advise_69 : decode cX2_advise 69 = .ok (.aload_n 2, 1) := by decide +kernel
theorem dX2_advise_70 : decode cX2_advise 70 = .ok (.invokevirtual 61, 3) := by decide +kernel
theorem dX2_advise_73 : decode cX2_advise 73 = .ok (.ifCond .eq 61, 3) := by decide +kernel
theorem dX2_advise_76 : decode cX2_advise 76 = .ok (.aload_n 0, 1) := by decide +kernel
theorem dX2_advise_77 : decode cX2_advise 77 = .ok (.getfield 16, 3) := by decide +kernel
theorem dX2_advise_80 : decode cX2_advise 80 = .ok (.aload_n 0, 1) := by decide +kernel
theorem dX2_advise_81 : decode cX2_advise 81 = .ok (.getfield 10, 3) := by decide +kernel
theorem dX2_advise_84 : decode cX2_advise 84 = .ok (.invokevirtual 141, 3) := by decide +kernel
theorem dX2_advise_87 : decode cX2_advise 87 = .ok (.aload_n 0, 1) := by decide +kernel
theorem dX2_advise_88 : decode cX2_advise 88 = .ok (.getfield 16, 3) := by decide +kernel
theorem dX2_advise_91 : decode cX2_advise 91 = .ok (.getfield 39, 3) := by decide +kernel
theorem dX2_advise_94 : decode cX2_advise 94 = .ok (.iload_n 1, 1) := by decide +kernel
theorem dX2_advise_95 : decode cX2_advise 95 = .ok (.aaload, 1) := by decide +kernel
theorem dX2_advise_96 : decode cX2_advise 96 = .ok (.iload 5, 2) := by decide +kernel
theorem dX2_advise_98 : decode cX2_advise 98 = .ok (.putfield 67, 3) := by decide +kernel
theorem dX2_advise_101 : decode cX2_advise 101 = .ok (.aload_n 0, 1) := by decide +kernel
theorem dX2_advise_102 : decode cX2_advise 102 = .ok (.getfield 16, 3) := by decide +kernel
theorem dX2_advise_105 : decode cX2_advise 105 = .ok (.bipush 6, 2) := by decide +kernel
theorem dX2_advise_107 : decode cX2_advise 107 = .ok (.invokevirtual 137, 3) := by decide +kernel
theorem dX2_advise_110 : decode cX2_advise 110 = .ok (.aload_n 0, 1) := by decide +kernel
theorem dX2_advise_111 : decode cX2_advise 111 = .ok (.getfield 16, 3) := by decide +kernel
theorem dX2_advise_114 : decode cX2_advise 114 = .ok (.getfield 121, 3) := by decide +kernel
theorem dX2_advise_117 : decode cX2_advise 117 = .ok (.iload 4, 2) := by decide +kernel
theorem dX2_advise_119 : decode cX2_advise 119 = .ok (.if_icmp .le 15, 3) := by decide +kernel
theorem dX2_advise_122 : decode cX2_advise 122 = .ok (.aload_n 0, 1) := by decide +kernel
theorem dX2_advise_123 : decode cX2_advise 123 = .ok (.getfield 16, 3) := by decide +kernel
theorem dX2_advise_126 : decode cX2_advise 126 = .ok (.getfield 121, 3) := by decide +kernel
theorem dX2_advise_129 : decode cX2_advise 129 = .ok (.istore 4, 2) := by decide +kernel
theorem dX2_advise_131 : decode cX2_advise 131 = .ok (.iload 5, 2) := by decide +kernel
theorem dX2_advise_133 : decode cX2_advise 133 = .ok (.istore_n 3, 1) := by decide +kernel
theorem dX2_advise_134 : decode cX2_advise 134 = .ok (.iinc 5 1, 3) := by decide +kernel
theorem dX2_advise_137 : decode cX2_advise 137 = .ok (.goto (-80), 3) := by decide +kernel
theorem dX2_advise_140 : decode cX2_advise 140 = .ok (.iload_n 3, 1) := by decide +kernel
theorem dX2_advise_141 : decode cX2_advise 141 = .ok (.ireturn, 1) := by decide +kernel
set_option maxRecDepth 20000 in
theorem ggX2_mean_X1_howMany : GoodIn wsX2_mean wsX1_howMany := goodIn_r _ [8, 9, 10, 13, 14, 15, 16, 17, 18, 19, 20, 21, 22, 23, 24, 25, 26, 27, 28, 29, 30, 31, 32, 33, 34, 35, 36] (by decide +kernel) (by decide +kernel)
set_option maxRecDepth 20000 in
theorem gX2_mean_X1_howMany : GoodIn wsX2_mean (wsV RX2 158 RX1 yX1_howMany wsX1_howMany) := goodIn_app (goodIn_of _ (by decide +kernel)) ggX2_mean_X1_howMany
theorem dX2_mean_0 : decode cX2_mean 0 = .ok (.aload_n 0, 1) := by decide +kernel
theorem dX2_mean_1 : decode cX2_mean 1 = .ok (.getfield 10, 3) := by decide +kernel
theorem dX2_mean_4 : decode cX2_mean 4 = .ok (.iconst 0, 1) := by decide +kernel
theorem dX2_mean_5 : decode cX2_mean 5 = .ok (.invokevirtual 158, 3) := by decide +kernel
theorem dX2_mean_8 : decode cX2_mean 8 = .ok (.aload_n 0, 1) := by decide +kernel
theorem dX2_mean_9 : decode cX2_mean 9 = .ok (.getfield 10, 3) := by decide +kernel
theorem dX2_mean_12 : decode cX2_mean 12 = .ok (.iconst 1, 1) := by decide +kernel
theorem dX2_mean_13 : decode cX2_mean 13 = .ok (.invokevirtual 158, 3) := by decide +kernel
theorem dX2_mean_16 : decode cX2_mean 16 = .ok (.iadd, 1) := by decide +kernel
theorem dX2_mean_17 : decode cX2_mean 17 = .ok (.istore_n 1, 1) := by decide +kernel
theorem dX2_mean_18 : decode cX2_mean 18 = .ok (.iload_n 1, 1) := by decide +kernel
theorem dX2_mean_19 : decode cX2_mean 19 = .ok (.ifCond .gt 5, 3) := by decide +kernel
theorem dX2_mean_22 : decode cX2_mean 22 = .ok (.dconst 0, 1) := by decide +kernel
theorem dX2_mean_23 : decode cX2_mean 23 = .ok (.dreturn, 1) := by decide +kernel
theorem dX2_mean_24 : decode cX2_mean 24 = .ok (.iconst 0, 1) := by decide +kernel
theorem dX2_mean_25 : decode cX2_mean 25 = .ok (.istore_n 2, 1) := by decide +kernel
theorem dX2_mean_26 : decode cX2_mean 26 = .ok (.aload_n 0, 1) := by decide +kernel
theorem dX2_mean_27 : decode cX2_mean 27 = .ok (.getfield 10, 3) := by decide +kernel
theorem dX2_mean_30 : decode cX2_mean 30 = .ok (.getfield 39, 3) := by decide +kernel
theorem dX2_mean_33 : decode cX2_mean 33 = .ok (.astore_n 3, 1) := by decide +kernel
theorem dX2_mean_34 : decode cX2_mean 34 = .ok (.aload_n 3, 1) := by decide +kernel
theorem dX2_mean_35 : decode cX2_mean 35 = .ok (.arraylength, 1) := by decide +kernel
theorem dX2_mean_36 : decode cX2_mean 36 = .ok (.istore 4, 2) := by decide +kernel
theorem dX2_mean_38 : decode cX2_mean 38 = .ok (.iconst 0, 1) := by decide +kernel
theorem dX2_mean_39 : decode cX2_mean 39 = .ok (.istore 5, 2) := by decide +kernel
theorem dX2_mean_41 : decode cX2_mean 41 = .ok (.iload 5, 2) := by decide +kernel
theorem dX2_mean_43 : decode cX2_mean 43 = .ok (.iload 4, 2) := by decide +kernel
theorem dX2_mean_45 : decode cX2_mean 45 = .ok (.if_icmp .ge 23, 3) := by decide +kernel
theorem dX2_mean_48 : decode cX2_mean 48 = .ok (.aload_n 3, 1) := by decide +kernel
theorem dX2_mean_49 : decode cX2_mean 49 = .ok (.iload 5, 2) := by decide +kernel
theorem dX2_mean_51 : decode cX2_mean 51 = .ok (.aaload, 1) := by decide +kernel
theorem dX2_mean_52 : decode cX2_mean 52 = .ok (.astore 6, 2) := by decide +kernel
theorem dX2_mean_54 : decode cX2_mean 54 = .ok (.iload_n 2, 1) := by decide +kernel
theorem dX2_mean_55 : decode cX2_mean 55 = .ok (.aload 6, 2) := by decide +kernel
theorem dX2_mean_57 : decode cX2_mean 57 = .ok (.getfield 161, 3) := by decide +kernel
theorem dX2_mean_60 : decode cX2_mean 60 = .ok (.iadd, 1) := by decide +kernel
theorem dX2_mean_61 : decode cX2_mean 61 = .ok (.istore_n 2, 1) := by decide +kernel
theorem dX2_mean_62 : decode cX2_mean 62 = .ok (.iinc 5 1, 3) := by decide +kernel
theorem dX2_mean_65 : decode cX2_mean 65 = .ok (.goto (-24), 3) := by decide +kernel
theorem dX2_mean_68 : decode cX2_mean 68 = .ok (.iload_n 2, 1) := by decide +kernel
theorem dX2_mean_69 : decode cX2_mean 69 = .ok (.i2d, 1) := by decide +kernel
theorem dX2_mean_70 : decode cX2_mean 70 = .ok (.iload_n 1, 1) := by decide +kernel
theorem dX2_mean_71 : decode cX2_mean 71 = .ok (.i2d, 1) := by decide +kernel
theorem dX2_mean_72 : decode cX2_mean 72 = .ok (.ddiv, 1) := by decide +kernel
theorem dX2_mean_73 : decode cX2_mean 73 = .ok (.dreturn, 1) := by decide +kernel
set_option maxRecDepth 20000 in
theorem ggX2_digest_X1_tally : GoodIn wsX2_digest wsX1_tally := goodIn_r _ [12, 13, 14, 15, 16, 17, 18, 19, 20, 21, 22, 23, 11, 24, 25, 26, 27, 28, 29, 30, 31, 32, 33, 34, 35, 36, 117, 118, 119, 120, 121, 122, 123, 124, 125, 126, 127, 128, 129, 130, 131, 132, 133, 134, 135, 136, 137, 138, 139, 140] (by decide +kernel) (by decide +kernel)
set_option maxRecDepth 20000 in
theorem gX2_digest_X1_tally : GoodIn wsX2_digest (wsV RX2 132 RX1 yX1_tally wsX1_tally) := goodIn_app (goodIn_of _ (by decide +kernel)) ggX2_digest_X1_tally
set_option maxRecDepth 20000 in
theorem ggX2_digest_X2_potFact : GoodIn wsX2_digest wsX2_potFact := goodIn_r _ [41, 3, 42, 43, 44, 45, 11, 46, 47, 48, 49, 50, 51, 25, 52, 53, 54, 55, 56, 57, 58, 59, 60, 61, 62, 63, 64, 65, 66, 67, 68, 69, 70, 71, 72, 73, 74, 75, 76, 13, 14, 15, 16, 17, 18, 77, 19, 20, 78, 79, 80, 81, 82, 83, 84, 85, 86, 87, 88, 89, 90, 91, 92, 93, 94, 95, 96, 97, 98, 99, 100, 101, 102, 103, 104, 105, 106, 107, 108, 109, 110, 115, 116, 117, 118, 119, 120, 121, 122, 123, 124, 125, 126, 127, 128, 129, 130, 131, 132, 133, 134, 135, 136, 137, 138, 139, 140] (by decide +kernel) (by decide +kernel)
set_option maxRecDepth 20000 in
theorem gX2_digest_X2_potFact : GoodIn wsX2_digest (wsV RX2 128 RX2 yX2_potFact wsX2_potFact) := goodIn_app (goodIn_of _ (by decide +kernel)) ggX2_digest_X2_potFact
set_option maxRecDepth 20000 in
theorem ggX2_digest_X0_fact : GoodIn wsX2_digest wsX0_fact := goodIn_r _ [114, 83, 84, 85, 86, 87, 72, 58, 88, 89, 131, 132, 133, 134, 135, 136, 137, 138, 139, 140] (by decide +kernel) (by decide +kernel)
set_option maxRecDepth 20000 in
theorem gX2_digest_X0_fact : GoodIn wsX2_digest (wsV RX2 92 RX0 yX0_fact wsX0_fact) := goodIn_app (goodIn_of _ (by decide +kernel)) ggX2_digest_X0_fact
theorem dX2_digest_0 : decode cX2_digest 0 = .ok (.ldc2_w 164, 3) := by decide +kernel
theorem dX2_digest_3 : decode cX2_digest 3 = .ok (.lstore_n 1, 1) := by decide +kernel
theorem dX2_digest_4 : decode cX2_digest 4 = .ok (.iconst 0, 1) := by decide +kernel
theorem dX2_digest_5 : decode cX2_digest 5 = .ok (.istore_n 3, 1) := by decide +kernel
theorem dX2_digest_6 : decode cX2_digest 6 = .ok (.iload_n 3, 1) := by decide +kernel
theorem dX2_digest_7 : decode cX2_digest 7 = .ok (.bipush 13, 2) := by decide +kernel
theorem dX2_digest_9 : decode cX2_digest 9 = .ok (.if_icmp .ge 25, 3) := by decide +kernel
theorem dX2_digest_12 : decode cX2_digest 12 = .ok (.lload_n 1, 1) := by decide +kernel
theorem dX2_digest_13 : decode cX2_digest 13 = .ok (.ldc2_w 166, 3) := by decide +kernel
theorem dX2_digest_16 : decode cX2_digest 16 = .ok (.lmul, 1) := by decide +kernel
theorem dX2_digest_17 : decode cX2_digest 17 = .ok (.aload_n 0, 1) := by decide +kernel
theorem dX2_digest_18 : decode cX2_digest 18 = .ok (.getfield 10, 3) := by decide +kernel
theorem dX2_digest_21 : decode cX2_digest 21 = .ok (.iload_n 3, 1) := by decide +kernel
theorem dX2_digest_22 : decode cX2_digest 22 = .ok (.invokevirtual 132, 3) := by decide +kernel
theorem dX2_digest_25 : decode cX2_digest 25 = .ok (.i2l, 1) := by decide +kernel
theorem dX2_digest_26 : decode cX2_digest 26 = .ok (.ladd, 1) := by decide +kernel
theorem dX2_digest_27 : decode cX2_digest 27 = .ok (.lstore_n 1, 1) := by decide +kernel
theorem dX2_digest_28 : decode cX2_digest 28 = .ok (.iinc 3 1, 3) := by decide +kernel
theorem dX2_digest_31 : decode cX2_digest 31 = .ok (.goto (-25), 3) := by decide +kernel
theorem dX2_digest_34 : decode cX2_digest 34 = .ok (.lload_n 1, 1) := by decide +kernel
theorem dX2_digest_35 : decode cX2_digest 35 = .ok (.ldc2_w 166, 3) := by decide +kernel
theorem dX2_digest_38 : decode cX2_digest 38 = .ok (.lmul, 1) := by decide +kernel
theorem dX2_digest_39 : decode cX2_digest 39 = .ok (.aload_n 0, 1) := by decide +kernel
theorem dX2_digest_40 : decode cX2_digest 40 = .ok (.getfield 10, 3) := by decide +kernel
theorem dX2_digest_43 : decode cX2_digest 43 = .ok (.getfield 105, 3) := by decide +kernel
theorem dX2_digest_46 : decode cX2_digest 46 = .ok (.i2l, 1) := by decide +kernel
theorem dX2_digest_47 : decode cX2_digest 47 = .ok (.ladd, 1) := by decide +kernel
theorem dX2_digest_48 : decode cX2_digest 48 = .ok (.lstore_n 1, 1) := by decide +kernel
theorem dX2_digest_49 : decode cX2_digest 49 = .ok (.aload_n 0, 1) := by decide +kernel
theorem dX2_digest_50 : decode cX2_digest 50 = .ok (.getfield 10, 3) := by decide +kernel
theorem dX2_digest_53 : decode cX2_digest 53 = .ok (.getfield 99, 3) := by decide +kernel
theorem dX2_digest_56 : decode cX2_digest 56 = .ok (.astore_n 3, 1) := by decide +kernel
theorem dX2_digest_57 : decode cX2_digest 57 = .ok (.aload_n 3, 1) := by decide +kernel
theorem dX2_digest_58 : decode cX2_digest 58 = .ok (.arraylength, 1) := by decide +kernel
theorem dX2_digest_59 : decode cX2_digest 59 = .ok (.istore 4, 2) := by decide +kernel
theorem dX2_digest_61 : decode cX2_digest 61 = .ok (.iconst 0, 1) := by decide +kernel
theorem dX2_digest_62 : decode cX2_digest 62 = .ok (.istore 5, 2) := by decide +kernel
theorem dX2_digest_64 : decode cX2_digest 64 = .ok (.iload 5, 2) := by decide +kernel
theorem dX2_digest_66 : decode cX2_digest 66 = .ok (.iload 4, 2) := by decide +kernel
theorem dX2_digest_68 : decode cX2_digest 68 = .ok (.if_icmp .ge 25, 3) := by decide +kernel
theorem dX2_digest_71 : decode cX2_digest 71 = .ok (.aload_n 3, 1) := by decide +kernel
theorem dX2_digest_72 : decode cX2_digest 72 = .ok (.iload 5, 2) := by decide +kernel
theorem dX2_digest_74 : decode cX2_digest 74 = .ok (.iaload, 1) := by decide +kernel
theorem dX2_digest_75 : decode cX2_digest 75 = .ok (.istore 6, 2) := by decide +kernel
theorem dX2_digest_77 : decode cX2_digest 77 = .ok (.lload_n 1, 1) := by decide +kernel
theorem dX2_digest_78 : decode cX2_digest 78 = .ok (.ldc2_w 166, 3) := by decide +kernel
theorem dX2_digest_81 : decode cX2_digest 81 = .ok (.lmul, 1) := by decide +kernel
theorem dX2_digest_82 : decode cX2_digest 82 = .ok (.iload 6, 2) := by decide +kernel
theorem dX2_digest_84 : decode cX2_digest 84 = .ok (.i2l, 1) := by decide +kernel
theorem dX2_digest_85 : decode cX2_digest 85 = .ok (.ladd, 1) := by decide +kernel
theorem dX2_digest_86 : decode cX2_digest 86 = .ok (.lstore_n 1, 1) := by decide +kernel
theorem dX2_digest_87 : decode cX2_digest 87 = .ok (.iinc 5 1, 3) := by decide +kernel
theorem dX2_digest_90 : decode cX2_digest 90 = .ok (.goto (-26), 3) := by decide +kernel
theorem dX2_digest_93 : decode cX2_digest 93 = .ok (.iconst 0, 1) := by decide +kernel
theorem dX2_digest_94 : decode cX2_digest 94 = .ok (.istore_n 3, 1) := by decide +kernel
theorem dX2_digest_95 : decode cX2_digest 95 = .ok (.iload_n 3, 1) := by decide +kernel
theorem dX2_digest_96 : decode cX2_digest 96 = .ok (.iconst 3, 1) := by decide +kernel
theorem dX2_digest_97 : decode cX2_digest 97 = .ok (.if_icmp .ge 39, 3) := by decide +kernel
theorem dX2_digest_100 : decode cX2_digest 100 = .ok (.iconst 0, 1) := by decide +kernel
theorem dX2_digest_101 : decode cX2_digest 101 = .ok (.istore 4, 2) := by decide +kernel
theorem dX2_digest_103 : decode cX2_digest 103 = .ok (.iload 4, 2) := by decide +kernel
theorem dX2_digest_105 : decode cX2_digest 105 = .ok (.iconst 4, 1) := by decide +kernel
theorem dX2_digest_106 : decode cX2_digest 106 = .ok (.if_icmp .ge 24, 3) := by decide +kernel
theorem dX2_digest_109 : decode cX2_digest 109 = .ok (.lload_n 1, 1) := by decide +kernel
theorem dX2_digest_110 : decode cX2_digest 110 = .ok (.ldc2_w 166, 3) := by decide +kernel
theorem dX2_digest_113 : decode cX2_digest 113 = .ok (.lmul, 1) := by decide +kernel
theorem dX2_digest_114 : decode cX2_digest 114 = .ok (.aload_n 0, 1) := by decide +kernel
theorem dX2_digest_115 : decode cX2_digest 115 = .ok (.iload_n 3, 1) := by decide +kernel
theorem dX2_digest_116 : decode cX2_digest 116 = .ok (.iload 4, 2) := by decide +kernel
theorem dX2_digest_118 : decode cX2_digest 118 = .ok (.invokevirtual 128, 3) := by decide +kernel
theorem dX2_digest_121 : decode cX2_digest 121 = .ok (.i2l, 1) := by decide +kernel
theorem dX2_digest_122 : decode cX2_digest 122 = .ok (.ladd, 1) := by decide +kernel
theorem dX2_digest_123 : decode cX2_digest 123 = .ok (.lstore_n 1, 1) := by decide +kernel
theorem dX2_digest_124 : decode cX2_digest 124 = .ok (.iinc 4 1, 3) := by decide +kernel
theorem dX2_digest_127 : decode cX2_digest 127 = .ok (.goto (-24), 3) := by decide +kernel
theorem dX2_digest_130 : decode cX2_digest 130 = .ok (.iinc 3 1, 3) := by decide +kernel
theorem dX2_digest_133 : decode cX2_digest 133 = .ok (.goto (-38), 3) := by decide +kernel
theorem dX2_digest_136 : decode cX2_digest 136 = .ok (.aload_n 0, 1) := by decide +kernel
theorem dX2_digest_137 : decode cX2_digest 137 = .ok (.getfield 10, 3) := by decide +kernel
theorem dX2_digest_140 : decode cX2_digest 140 = .ok (.getfield 39, 3) := by decide +kernel
theorem dX2_digest_143 : decode cX2_digest 143 = .ok (.astore_n 3, 1) := by decide +kernel
theorem dX2_digest_144 : decode cX2_digest 144 = .ok (.aload_n 3, 1) := by decide +kernel
theorem dX2_digest_145 : decode cX2_digest 145 = .ok (.arraylength, 1) := by decide +kernel
theorem dX2_digest_146 : decode cX2_digest 146 = .ok (.istore 4, 2) := by decide +kernel
theorem dX2_digest_148 : decode cX2_digest 148 = .ok (.iconst 0, 1) := by decide +kernel
theorem dX2_digest_149 : decode cX2_digest 149 = .ok (.istore 5, 2) := by decide +kernel
theorem dX2_digest_151 : decode cX2_digest 151 = .ok (.iload 5, 2) := by decide +kernel
theorem dX2_digest_153 : decode cX2_digest 153 = .ok (.iload 4, 2) := by decide +kernel
theorem dX2_digest_155 : decode cX2_digest 155 = .ok (.if_icmp .ge 55, 3) := by decide +kernel
theorem dX2_digest_158 : decode cX2_digest 158 = .ok (.aload_n 3, 1) := by decide +kernel
theorem dX2_digest_159 : decode cX2_digest 159 = .ok (.iload 5, 2) := by decide +kernel
theorem dX2_digest_161 : decode cX2_digest 161 = .ok (.aaload, 1) := by decide +kernel
theorem dX2_digest_162 : decode cX2_digest 162 = .ok (.astore 6, 2) := by decide +kernel
theorem dX2_digest_164 : decode cX2_digest 164 = .ok (.aload 6, 2) := by decide +kernel
theorem dX2_digest_166 : decode cX2_digest 166 = .ok (.getfield 58, 3) := by decide +kernel
theorem dX2_digest_169 : decode cX2_digest 169 = .ok (.iconst 3, 1) := by decide +kernel
theorem dX2_digest_170 : decode cX2_digest 170 = .ok (.if_icmp .eq 34, 3) := by decide +kernel
theorem dX2_digest_173 : decode cX2_digest 173 = .ok (.iconst 0, 1) := by decide +kernel
theorem dX2_digest_174 : decode cX2_digest 174 = .ok (.istore 7, 2) := by decide +kernel
theorem dX2_digest_176 : decode cX2_digest 176 = .ok (.iload 7, 2) := by decide +kernel
theorem dX2_digest_178 : decode cX2_digest 178 = .ok (.bipush 9, 2) := by decide +kernel
theorem dX2_digest_180 : decode cX2_digest 180 = .ok (.if_icmp .ge 24, 3) := by decide +kernel
theorem dX2_digest_183 : decode cX2_digest 183 = .ok (.lload_n 1, 1) := by decide +kernel
theorem dX2_digest_184 : decode cX2_digest 184 = .ok (.ldc2_w 166, 3) := by decide +kernel
theorem dX2_digest_187 : decode cX2_digest 187 = .ok (.lmul, 1) := by decide +kernel
theorem dX2_digest_188 : decode cX2_digest 188 = .ok (.aload 6, 2) := by decide +kernel
theorem dX2_digest_190 : decode cX2_digest 190 = .ok (.iload 7, 2) := by decide +kernel
theorem dX2_digest_192 : decode cX2_digest 192 = .ok (.invokevirtual 92, 3) := by decide +kernel
theorem dX2_digest_195 : decode cX2_digest 195 = .ok (.i2l, 1) := by decide +kernel
theorem dX2_digest_196 : decode cX2_digest 196 = .ok (.ladd, 1) := by decide +kernel
theorem dX2_digest_197 : decode cX2_digest 197 = .ok (.lstore_n 1, 1) := by decide +kernel
theorem dX2_digest_198 : decode cX2_digest 198 = .ok (.iinc 7 1, 3) := by decide +kernel
theorem dX2_digest_201 : decode cX2_digest 201 = .ok (.goto (-25), 3) := by decide +kernel
theorem dX2_digest_204 : decode cX2_digest 204 = .ok (.iinc 5 1, 3) := by decide +kernel
theorem dX2_digest_207 : decode cX2_digest 207 = .ok (.goto (-56), 3) := by decide +kernel
theorem dX2_digest_210 : decode cX2_digest 210 = .ok (.lload_n 1, 1) := by decide +kernel
theorem dX2_digest_211 : decode cX2_digest 211 = .ok (.lreturn, 1) := by decide +kernel
theorem dX2_isOutside_0 : decode cX2_isOutside 0 = .ok (.iload_n 0, 1) := by decide +kernel
theorem dX2_isOutside_1 : decode cX2_isOutside 1 = .ok (.iload_n 1, 1) := by decide +kernel
theorem dX2_isOutside_2 : decode cX2_isOutside 2 = .ok (.if_icmp .lt 8, 3) := by decide +kernel
theorem dX2_isOutside_5 : decode cX2_isOutside 5 = .ok (.iload_n 0, 1) := by decide +kernel
theorem dX2_isOutside_6 : decode cX2_isOutside 6 = .ok (.iload_n 2, 1) := by decide +kernel
theorem dX2_isOutside_7 : decode cX2_isOutside 7 = .ok (.if_icmp .le 7, 3) := by decide +kernel
theorem dX2_isOutside_10 : decode cX2_isOutside 10 = .ok (.iconst 1, 1) := by decide +kernel
theorem dX2_isOutside_11 : decode cX2_isOutside 11 = .ok (.goto 4, 3) := by decide +kernel
theorem dX2_isOutside_14 : decode cX2_isOutside 14 = .ok (.iconst 0, 1) := by decide +kernel
theorem dX2_isOutside_15 : decode cX2_isOutside 15 = .ok (.ireturn, 1) := by decide +kernel
set_option maxRecDepth 20000 in
theorem ggX2_potFact_X1_heatOf : GoodIn wsX2_potFact wsX1_heatOf := goodIn_r _ [7, 8, 83, 84, 85, 86, 87, 88, 89, 90, 91, 92, 93, 94, 95, 96] (by decide +kernel) (by decide +kernel)
set_option maxRecDepth 20000 in
theorem gX2_potFact_X1_heatOf : GoodIn wsX2_potFact (wsV RX2 168 RX1 yX1_heatOf wsX1_heatOf) := goodIn_app (goodIn_of _ (by decide +kernel)) ggX2_potFact_X1_heatOf
set_option maxRecDepth 20000 in
theorem ggX2_potFact_X1_atPot : GoodIn wsX2_potFact wsX1_atPot := goodIn_r _ [12, 13, 14, 15, 16, 17, 18, 19, 20, 83, 84, 85, 86, 87, 88, 89, 90, 91, 92, 93, 94, 95, 96, 97, 98, 99, 100, 101, 102, 103, 104, 105, 106] (by decide +kernel) (by decide +kernel)
set_option maxRecDepth 20000 in
theorem gX2_potFact_X1_atPot : GoodIn wsX2_potFact (wsV RX2 171 RX1 yX1_atPot wsX1_atPot) := goodIn_app (goodIn_of _ (by decide +kernel)) ggX2_potFact_X1_atPot
set_option maxRecDepth 20000 in
theorem ggX2_potFact_X1_combersAt : GoodIn wsX2_potFact wsX1_combersAt := goodIn_r _ [24, 25, 26, 27, 28, 6, 29, 13, 14, 30, 31, 32, 18, 33, 20, 34, 83, 84, 85, 86, 87, 88, 89, 90, 91, 92, 93, 94, 95, 96, 97, 98, 99, 100, 101, 102, 103, 104, 105, 106] (by decide +kernel) (by decide +kernel)
set_option maxRecDepth 20000 in
theorem gX2_potFact_X1_combersAt : GoodIn wsX2_potFact (wsV RX2 174 RX1 yX1_combersAt wsX1_combersAt) := goodIn_app (goodIn_of _ (by decide +kernel)) ggX2_potFact_X1_combersAt
set_option maxRecDepth 20000 in
theorem ggX2_potFact_X1_copyFrom : GoodIn wsX2_potFact wsX1_copyFrom := goodIn_r _ [38, 39, 40, 41, 42, 43, 44, 45, 46, 47, 48, 8, 13, 49, 50, 51, 18, 52, 53, 54, 55, 56, 57, 34, 20, 58, 59, 60, 83, 84, 85, 86, 87, 88, 89, 90, 91, 92, 93, 94, 95, 96, 97, 98, 99, 100, 101, 102, 103, 104, 105, 106] (by decide +kernel) (by decide +kernel)
set_option maxRecDepth 20000 in
theorem gX2_potFact_X1_copyFrom : GoodIn wsX2_potFact (wsV RX2 141 RX1 yX1_copyFrom wsX1_copyFrom) := goodIn_app (goodIn_of _ (by decide +kernel)) ggX2_potFact_X1_copyFrom
set_option maxRecDepth 20000 in
theorem ggX2_potFact_X1_lightFires : GoodIn wsX2_potFact wsX1_lightFires := goodIn_r _ [64, 25, 42, 8, 65, 66, 67, 68, 69, 70, 71, 26, 27, 28, 6, 29, 13, 14, 30, 31, 32, 18, 33, 20, 34, 83, 84, 85, 86, 87, 88, 89, 90, 91, 92, 93, 94, 95, 96, 97, 98, 99, 100, 101, 102, 103, 104, 105, 106] (by decide +kernel) (by decide +kernel)
set_option maxRecDepth 20000 in
theorem gX2_potFact_X1_lightFires : GoodIn wsX2_potFact (wsV RX2 145 RX1 yX1_lightFires wsX1_lightFires) := goodIn_app (goodIn_of _ (by decide +kernel)) ggX2_potFact_X1_lightFires
set_option maxRecDepth 20000 in
theorem ggX2_potFact_X1_poundsOfPot : GoodIn wsX2_potFact wsX1_poundsOfPot := goodIn_r _ [75, 13, 14, 76, 77, 78, 6, 79, 25, 69, 70, 67, 71, 80, 8, 30, 31, 32, 18, 33, 20, 34, 83, 84, 85, 86, 87, 88, 89, 90, 91, 92, 93, 94, 95, 96, 97, 98, 99, 100, 101, 102, 103, 104, 105, 106] (by decide +kernel) (by decide +kernel)
set_option maxRecDepth 20000 in
theorem gX2_potFact_X1_poundsOfPot : GoodIn wsX2_potFact (wsV RX2 177 RX1 yX1_poundsOfPot wsX1_poundsOfPot) := goodIn_app (goodIn_of _ (by decide +kernel)) ggX2_potFact_X1_poundsOfPot
theorem dX2_potFact_0 : decode cX2_potFact 0 = .ok (.iload_n 2, 1) := by decide +kernel
theorem dX2_potFact_1 : decode cX2_potFact 1 = .ok (.tableswitch 54 0 2 #[27, 36, 45], 27) := by decide +kernel
theorem dX2_potFact_28 : decode cX2_potFact 28 = .ok (.aload_n 0, 1) := by decide +kernel
theorem dX2_potFact_29 : decode cX2_potFact 29 = .ok (.getfield 10, 3) := by decide +kernel
theorem dX2_potFact_32 : decode cX2_potFact 32 = .ok (.iload_n 1, 1) := by decide +kernel
theorem dX2_potFact_33 : decode cX2_potFact 33 = .ok (.invokevirtual 168, 3) := by decide +kernel
theorem dX2_potFact_36 : decode cX2_potFact 36 = .ok (.ireturn, 1) := by decide +kernel
theorem dX2_potFact_37 : decode cX2_potFact 37 = .ok (.aload_n 0, 1) := by decide +kernel
theorem dX2_potFact_38 : decode cX2_potFact 38 = .ok (.getfield 10, 3) := by decide +kernel
theorem dX2_potFact_41 : decode cX2_potFact 41 = .ok (.iload_n 1, 1) := by decide +kernel
theorem dX2_potFact_42 : decode cX2_potFact 42 = .ok (.invokevirtual 171, 3) := by decide +kernel
theorem dX2_potFact_45 : decode cX2_potFact 45 = .ok (.ireturn, 1) := by decide +kernel
theorem dX2_potFact_46 : decode cX2_potFact 46 = .ok (.aload_n 0, 1) := by decide +kernel
theorem dX2_potFact_47 : decode cX2_potFact 47 = .ok (.getfield 10, 3) := by decide +kernel
theorem dX2_potFact_50 : decode cX2_potFact 50 = .ok (.iload_n 1, 1) := by decide +kernel
theorem dX2_potFact_51 : decode cX2_potFact 51 = .ok (.invokevirtual 174, 3) := by decide +kernel
theorem dX2_potFact_54 : decode cX2_potFact 54 = .ok (.ireturn, 1) := by decide +kernel
theorem dX2_potFact_55 : decode cX2_potFact 55 = .ok (.aload_n 0, 1) := by decide +kernel
theorem dX2_potFact_56 : decode cX2_potFact 56 = .ok (.getfield 16, 3) := by decide +kernel
theorem dX2_potFact_59 : decode cX2_potFact 59 = .ok (.aload_n 0, 1) := by decide +kernel
theorem dX2_potFact_60 : decode cX2_potFact 60 = .ok (.getfield 10, 3) := by decide +kernel
theorem dX2_potFact_63 : decode cX2_potFact 63 = .ok (.invokevirtual 141, 3) := by decide +kernel
theorem dX2_potFact_66 : decode cX2_potFact 66 = .ok (.aload_n 0, 1) := by decide +kernel
theorem dX2_potFact_67 : decode cX2_potFact 67 = .ok (.getfield 16, 3) := by decide +kernel
theorem dX2_potFact_70 : decode cX2_potFact 70 = .ok (.invokevirtual 145, 3) := by decide +kernel
theorem dX2_potFact_73 : decode cX2_potFact 73 = .ok (.aload_n 0, 1) := by decide +kernel
theorem dX2_potFact_74 : decode cX2_potFact 74 = .ok (.getfield 16, 3) := by decide +kernel
theorem dX2_potFact_77 : decode cX2_potFact 77 = .ok (.iload_n 1, 1) := by decide +kernel
theorem dX2_potFact_78 : decode cX2_potFact 78 = .ok (.invokevirtual 177, 3) := by decide +kernel
theorem dX2_potFact_81 : decode cX2_potFact 81 = .ok (.ireturn, 1) := by decide +kernel
theorem dX3_init_0 : decode cX3_init 0 = .ok (.aload_n 0, 1) := by decide +kernel
theorem dX3_init_1 : decode cX3_init 1 = .ok (.aload_n 1, 1) := by decide +kernel
theorem dX3_init_2 : decode cX3_init 2 = .ok (.putfield 3, 3) := by decide +kernel
theorem dX3_init_5 : decode cX3_init 5 = .ok (.aload_n 0, 1) := by decide +kernel
theorem dX3_init_6 : decode cX3_init 6 = .ok (.invokespecial 9, 3) := by decide +kernel
theorem dX3_init_9 : decode cX3_init 9 = .ok (.aload_n 0, 1) := by decide +kernel
theorem dX3_init_10 : decode cX3_init 10 = .ok (.bipush 60, 2) := by decide +kernel
theorem dX3_init_12 : decode cX3_init 12 = .ok (.putfield 15, 3) := by decide +kernel
theorem dX3_init_15 : decode cX3_init 15 = .ok (.aload_n 0, 1) := by decide +kernel
theorem dX3_init_16 : decode cX3_init 16 = .ok (.bipush 30, 2) := by decide +kernel
theorem dX3_init_18 : decode cX3_init 18 = .ok (.putfield 19, 3) := by decide +kernel
theorem dX3_init_21 : decode cX3_init 21 = .ok (.aload_n 0, 1) := by decide +kernel
theorem dX3_init_22 : decode cX3_init 22 = .ok (.sipush 200, 3) := by decide +kernel
theorem dX3_init_25 : decode cX3_init 25 = .ok (.putfield 22, 3) := by decide +kernel
theorem dX3_init_28 : decode cX3_init 28 = .ok (.aload_n 0, 1) := by decide +kernel
theorem dX3_init_29 : decode cX3_init 29 = .ok (.iconst 3, 1) := by decide +kernel
theorem dX3_init_30 : decode cX3_init 30 = .ok (.newarray .int, 2) := by decide +kernel
theorem dX3_init_32 : decode cX3_init 32 = .ok (.putfield 25, 3) := by decide +kernel
theorem dX3_init_35 : decode cX3_init 35 = .ok (.aload_n 0, 1) := by decide +kernel
theorem dX3_init_36 : decode cX3_init 36 = .ok (.bipush 108, 2) := by decide +kernel
theorem dX3_init_38 : decode cX3_init 38 = .ok (.newarray .int, 2) := by decide +kernel
theorem dX3_init_40 : decode cX3_init 40 = .ok (.putfield 29, 3) := by decide +kernel
theorem dX3_init_43 : decode cX3_init 43 = .ok (.return_, 1) := by decide +kernel
theorem dX3_become_0 : decode cX3_become 0 = .ok (.aload_n 0, 1) := by decide +kernel
theorem dX3_become_1 : decode cX3_become 1 = .ok (.aload_n 1, 1) := by decide +kernel
theorem dX3_become_2 : decode cX3_become 2 = .ok (.getfield 32, 3) := by decide +kernel
theorem dX3_become_5 : decode cX3_become 5 = .ok (.putfield 32, 3) := by decide +kernel
theorem dX3_become_8 : decode cX3_become 8 = .ok (.aload_n 0, 1) := by decide +kernel
theorem dX3_become_9 : decode cX3_become 9 = .ok (.aload_n 1, 1) := by decide +kernel
theorem dX3_become_10 : decode cX3_become 10 = .ok (.getfield 35, 3) := by decide +kernel
theorem dX3_become_13 : decode cX3_become 13 = .ok (.putfield 35, 3) := by decide +kernel
theorem dX3_become_16 : decode cX3_become 16 = .ok (.aload_n 0, 1) := by decide +kernel
theorem dX3_become_17 : decode cX3_become 17 = .ok (.aload_n 1, 1) := by decide +kernel
theorem dX3_become_18 : decode cX3_become 18 = .ok (.getfield 15, 3) := by decide +kernel
theorem dX3_become_21 : decode cX3_become 21 = .ok (.putfield 15, 3) := by decide +kernel
theorem dX3_become_24 : decode cX3_become 24 = .ok (.aload_n 0, 1) := by decide +kernel
theorem dX3_become_25 : decode cX3_become 25 = .ok (.aload_n 1, 1) := by decide +kernel
theorem dX3_become_26 : decode cX3_become 26 = .ok (.getfield 19, 3) := by decide +kernel
theorem dX3_become_29 : decode cX3_become 29 = .ok (.putfield 19, 3) := by decide +kernel
theorem dX3_become_32 : decode cX3_become 32 = .ok (.aload_n 0, 1) := by decide +kernel
theorem dX3_become_33 : decode cX3_become 33 = .ok (.aload_n 1, 1) := by decide +kernel
theorem dX3_become_34 : decode cX3_become 34 = .ok (.getfield 22, 3) := by decide +kernel
theorem dX3_become_37 : decode cX3_become 37 = .ok (.putfield 22, 3) := by decide +kernel
theorem dX3_become_40 : decode cX3_become 40 = .ok (.aload_n 0, 1) := by decide +kernel
theorem dX3_become_41 : decode cX3_become 41 = .ok (.aload_n 1, 1) := by decide +kernel
theorem dX3_become_42 : decode cX3_become 42 = .ok (.getfield 38, 3) := by decide +kernel
theorem dX3_become_45 : decode cX3_become 45 = .ok (.putfield 38, 3) := by decide +kernel
theorem dX3_become_48 : decode cX3_become 48 = .ok (.aload_n 0, 1) := by decide +kernel
theorem dX3_become_49 : decode cX3_become 49 = .ok (.aload_n 1, 1) := by decide +kernel
theorem dX3_become_50 : decode cX3_become 50 = .ok (.getfield 41, 3) := by decide +kernel
theorem dX3_become_53 : decode cX3_become 53 = .ok (.putfield 41, 3) := by decide +kernel
theorem dX3_become_56 : decode cX3_become 56 = .ok (.aload_n 0, 1) := by decide +kernel
theorem dX3_become_57 : decode cX3_become 57 = .ok (.aload_n 1, 1) := by decide +kernel
theorem dX3_become_58 : decode cX3_become 58 = .ok (.getfield 44, 3) := by decide +kernel
theorem dX3_become_61 : decode cX3_become 61 = .ok (.putfield 44, 3) := by decide +kernel
theorem dX3_become_64 : decode cX3_become 64 = .ok (.aload_n 0, 1) := by decide +kernel
theorem dX3_become_65 : decode cX3_become 65 = .ok (.iconst 0, 1) := by decide +kernel
theorem dX3_become_66 : decode cX3_become 66 = .ok (.putfield 47, 3) := by decide +kernel
theorem dX3_become_69 : decode cX3_become 69 = .ok (.aload_n 1, 1) := by decide +kernel
theorem dX3_become_70 : decode cX3_become 70 = .ok (.getfield 25, 3) := by decide +kernel
theorem dX3_become_73 : decode cX3_become 73 = .ok (.iconst 0, 1) := by decide +kernel
theorem dX3_become_74 : decode cX3_become 74 = .ok (.aload_n 0, 1) := by decide +kernel
theorem dX3_become_75 : decode cX3_become 75 = .ok (.getfield 25, 3) := by decide +kernel
theorem dX3_become_78 : decode cX3_become 78 = .ok (.iconst 0, 1) := by decide +kernel
theorem dX3_become_79 : decode cX3_become 79 = .ok (.iconst 3, 1) := by decide +kernel
theorem dX3_become_80 : decode cX3_become 80 = .ok (.invokestatic 51, 3) := by decide +kernel
theorem dX3_become_83 : decode cX3_become 83 = .ok (.aload_n 1, 1) := by decide +kernel
theorem dX3_become_84 : decode cX3_become 84 = .ok (.getfield 29, 3) := by decide +kernel
theorem dX3_become_87 : decode cX3_become 87 = .ok (.iconst 0, 1) := by decide +kernel
theorem dX3_become_88 : decode cX3_become 88 = .ok (.aload_n 0, 1) := by decide +kernel
theorem dX3_become_89 : decode cX3_become 89 = .ok (.getfield 29, 3) := by decide +kernel
theorem dX3_become_92 : decode cX3_become 92 = .ok (.iconst 0, 1) := by decide +kernel
theorem dX3_become_93 : decode cX3_become 93 = .ok (.aload_n 0, 1) := by decide +kernel
theorem dX3_become_94 : decode cX3_become 94 = .ok (.getfield 29, 3) := by decide +kernel
theorem dX3_become_97 : decode cX3_become 97 = .ok (.arraylength, 1) := by decide +kernel
theorem dX3_become_98 : decode cX3_become 98 = .ok (.invokestatic 51, 3) := by decide +kernel
theorem dX3_become_101 : decode cX3_become 101 = .ok (.return_, 1) := by decide +kernel
theorem dX3_of_0 : decode cX3_of 0 = .ok (.aload_n 0, 1) := by decide +kernel
theorem dX3_of_1 : decode cX3_of 1 = .ok (.getfield 29, 3) := by decide +kernel
theorem dX3_of_4 : decode cX3_of 4 = .ok (.bipush 9, 2) := by decide +kernel
theorem dX3_of_6 : decode cX3_of 6 = .ok (.iload_n 1, 1) := by decide +kernel
theorem dX3_of_7 : decode cX3_of 7 = .ok (.imul, 1) := by decide +kernel
theorem dX3_of_8 : decode cX3_of 8 = .ok (.iload_n 2, 1) := by decide +kernel
theorem dX3_of_9 : decode cX3_of 9 = .ok (.iadd, 1) := by decide +kernel
theorem dX3_of_10 : decode cX3_of 10 = .ok (.iaload, 1) := by decide +kernel
theorem dX3_of_11 : decode cX3_of 11 = .ok (.ireturn, 1) := by decide +kernel
theorem dX3_set_0 : decode cX3_set 0 = .ok (.aload_n 0, 1) := by decide +kernel
theorem dX3_set_1 : decode cX3_set 1 = .ok (.getfield 29, 3) := by decide +kernel
theorem dX3_set_4 : decode cX3_set 4 = .ok (.bipush 9, 2) := by decide +kernel
theorem dX3_set_6 : decode cX3_set 6 = .ok (.iload_n 1, 1) := by decide +kernel
theorem dX3_set_7 : decode cX3_set 7 = .ok (.imul, 1) := by decide +kernel
theorem dX3_set_8 : decode cX3_set 8 = .ok (.iload_n 2, 1) := by decide +kernel
theorem dX3_set_9 : decode cX3_set 9 = .ok (.iadd, 1) := by decide +kernel
theorem dX3_set_10 : decode cX3_set 10 = .ok (.iload_n 3, 1) := by decide +kernel
theorem dX3_set_11 : decode cX3_set 11 = .ok (.iastore, 1) := by decide +kernel
theorem dX3_set_12 : decode cX3_set 12 = .ok (.return_, 1) := by decide +kernel
set_option maxRecDepth 20000 in
theorem ggX3_combs_X3_of : GoodIn wsX3_combs wsX3_of := goodIn_r _ [5, 6, 7, 8, 9, 10, 11, 12, 13, 14, 15, 16, 17, 18] (by decide +kernel) (by decide +kernel)
set_option maxRecDepth 20000 in
theorem gX3_combs_X3_of : GoodIn wsX3_combs (wsV RX3 57 RX3 yX3_of wsX3_of) := goodIn_app (goodIn_of _ (by decide +kernel)) ggX3_combs_X3_of
theorem dX3_combs_0 : decode cX3_combs 0 = .ok (.aload_n 0, 1) := by decide +kernel
theorem dX3_combs_1 : decode cX3_combs 1 = .ok (.iload_n 1, 1) := by decide +kernel
theorem dX3_combs_2 : decode cX3_combs 2 = .ok (.bipush 6, 2) := by decide +kernel
theorem dX3_combs_4 : decode cX3_combs 4 = .ok (.invokevirtual 57, 3) := by decide +kernel
theorem dX3_combs_7 : decode cX3_combs 7 = .ok (.ifCond .ne 17, 3) := by decide +kernel
theorem dX3_combs_10 : decode cX3_combs 10 = .ok (.aload_n 0, 1) := by decide +kernel
theorem dX3_combs_11 : decode cX3_combs 11 = .ok (.iload_n 1, 1) := by decide +kernel
theorem dX3_combs_12 : decode cX3_combs 12 = .ok (.iconst 5, 1) := by decide +kernel
theorem dX3_combs_13 : decode cX3_combs 13 = .ok (.invokevirtual 57, 3) := by decide +kernel
theorem dX3_combs_16 : decode cX3_combs 16 = .ok (.iconst (-1), 1) := by decide +kernel
theorem dX3_combs_17 : decode cX3_combs 17 = .ok (.if_icmp .eq 7, 3) := by decide +kernel
theorem dX3_combs_20 : decode cX3_combs 20 = .ok (.iconst 1, 1) := by decide +kernel
theorem dX3_combs_21 : decode cX3_combs 21 = .ok (.goto 4, 3) := by decide +kernel
theorem dX3_combs_24 : decode cX3_combs 24 = .ok (.iconst 0, 1) := by decide +kernel
theorem dX3_combs_25 : decode cX3_combs 25 = .ok (.ireturn, 1) := by decide +kernel
set_option maxRecDepth 20000 in
theorem ggX3_combers_X3_combs : GoodIn wsX3_combers wsX3_combs := goodIn_r _ [6, 7, 8, 9, 5, 10, 11, 12, 13, 14, 15, 16, 17, 18, 19, 20, 21, 22, 23] (by decide +kernel) (by decide +kernel)
set_option maxRecDepth 20000 in
theorem gX3_combers_X3_combs : GoodIn wsX3_combers (wsV RX3 61 RX3 yX3_combs wsX3_combs) := goodIn_app (goodIn_of _ (by decide +kernel)) ggX3_combers_X3_combs
set_option maxRecDepth 20000 in
theorem ggX3_combers_X3_of : GoodIn wsX3_combers wsX3_of := goodIn_r _ [10, 11, 12, 13, 14, 15, 16, 17, 18, 19, 20, 21, 22, 23] (by decide +kernel) (by decide +kernel)
set_option maxRecDepth 20000 in
theorem gX3_combers_X3_of : GoodIn wsX3_combers (wsV RX3 57 RX3 yX3_of wsX3_of) := goodIn_app (goodIn_of _ (by decide +kernel)) ggX3_combers_X3_of
theorem dX3_combers_0 : decode cX3_combers 0 = .ok (.iconst 0, 1) := by decide +kernel
theorem dX3_combers_1 : decode cX3_combers 1 = .ok (.istore_n 2, 1) := by decide +kernel
theorem dX3_combers_2 : decode cX3_combers 2 = .ok (.iconst 0, 1) := by decide +kernel
theorem dX3_combers_3 : decode cX3_combers 3 = .ok (.istore_n 3, 1) := by decide +kernel
theorem dX3_combers_4 : decode cX3_combers 4 = .ok (.iload_n 3, 1) := by decide +kernel
theorem dX3_combers_5 : decode cX3_combers 5 = .ok (.aload_n 0, 1) := by decide +kernel
theorem dX3_combers_6 : decode cX3_combers 6 = .ok (.getfield 35, 3) := by decide +kernel
theorem dX3_combers_9 : decode cX3_combers 9 = .ok (.if_icmp .ge 35, 3) := by decide +kernel
theorem dX3_combers_12 : decode cX3_combers 12 = .ok (.iload_n 2, 1) := by decide +kernel
theorem dX3_combers_13 : decode cX3_combers 13 = .ok (.aload_n 0, 1) := by decide +kernel
theorem dX3_combers_14 : decode cX3_combers 14 = .ok (.iload_n 3, 1) := by decide +kernel
theorem dX3_combers_15 : decode cX3_combers 15 = .ok (.invokevirtual 61, 3) := by decide +kernel
theorem dX3_combers_18 : decode cX3_combers 18 = .ok (.ifCond .eq 17, 3) := by decide +kernel
theorem dX3_combers_21 : decode cX3_combers 21 = .ok (.aload_n 0, 1) := by decide +kernel
theorem dX3_combers_22 : decode cX3_combers 22 = .ok (.iload_n 3, 1) := by decide +kernel
theorem dX3_combers_23 : decode cX3_combers 23 = .ok (.iconst 5, 1) := by decide +kernel
theorem dX3_combers_24 : decode cX3_combers 24 = .ok (.invokevirtual 57, 3) := by decide +kernel
theorem dX3_combers_27 : decode cX3_combers 27 = .ok (.iload_n 1, 1) := by decide +kernel
theorem dX3_combers_28 : decode cX3_combers 28 = .ok (.if_icmp .ne 7, 3) := by decide +kernel
theorem dX3_combers_31 : decode cX3_combers 31 = .ok (.iconst 1, 1) := by decide +kernel
theorem dX3_combers_32 : decode cX3_combers 32 = .ok (.goto 4, 3) := by decide +kernel
theorem dX3_combers_35 : decode cX3_combers 35 = .ok (.iconst 0, 1) := by decide +kernel
theorem dX3_combers_36 : decode cX3_combers 36 = .ok (.iadd, 1) := by decide +kernel
theorem dX3_combers_37 : decode cX3_combers 37 = .ok (.istore_n 2, 1) := by decide +kernel
theorem dX3_combers_38 : decode cX3_combers 38 = .ok (.iinc 3 1, 3) := by decide +kernel
theorem dX3_combers_41 : decode cX3_combers 41 = .ok (.goto (-37), 3) := by decide +kernel
theorem dX3_combers_44 : decode cX3_combers 44 = .ok (.iload_n 2, 1) := by decide +kernel
theorem dX3_combers_45 : decode cX3_combers 45 = .ok (.ireturn, 1) := by decide +kernel
set_option maxRecDepth 20000 in
theorem ggX3_there_X3_of : GoodIn wsX3_there wsX3_of := goodIn_r _ [6, 7, 8, 9, 10, 11, 12, 13, 14, 15, 16, 17, 18, 19] (by decide +kernel) (by decide +kernel)
set_option maxRecDepth 20000 in
theorem gX3_there_X3_of : GoodIn wsX3_there (wsV RX3 57 RX3 yX3_of wsX3_of) := goodIn_app (goodIn_of _ (by decide +kernel)) ggX3_there_X3_of
theorem dX3_there_0 : decode cX3_there 0 = .ok (.iconst 0, 1) := by decide +kernel
theorem dX3_there_1 : decode cX3_there 1 = .ok (.istore_n 2, 1) := by decide +kernel
theorem dX3_there_2 : decode cX3_there 2 = .ok (.iconst 0, 1) := by decide +kernel
theorem dX3_there_3 : decode cX3_there 3 = .ok (.istore_n 3, 1) := by decide +kernel
theorem dX3_there_4 : decode cX3_there 4 = .ok (.iload_n 3, 1) := by decide +kernel
theorem dX3_there_5 : decode cX3_there 5 = .ok (.aload_n 0, 1) := by decide +kernel
theorem dX3_there_6 : decode cX3_there 6 = .ok (.getfield 35, 3) := by decide +kernel
theorem dX3_there_9 : decode cX3_there 9 = .ok (.if_icmp .ge 27, 3) := by decide +kernel
theorem dX3_there_12 : decode cX3_there 12 = .ok (.iload_n 2, 1) := by decide +kernel
theorem dX3_there_13 : decode cX3_there 13 = .ok (.aload_n 0, 1) := by decide +kernel
theorem dX3_there_14 : decode cX3_there 14 = .ok (.iload_n 3, 1) := by decide +kernel
theorem dX3_there_15 : decode cX3_there 15 = .ok (.iconst 5, 1) := by decide +kernel
theorem dX3_there_16 : decode cX3_there 16 = .ok (.invokevirtual 57, 3) := by decide +kernel
theorem dX3_there_19 : decode cX3_there 19 = .ok (.iload_n 1, 1) := by decide +kernel
theorem dX3_there_20 : decode cX3_there 20 = .ok (.if_icmp .ne 7, 3) := by decide +kernel
theorem dX3_there_23 : decode cX3_there 23 = .ok (.iconst 1, 1) := by decide +kernel
theorem dX3_there_24 : decode cX3_there 24 = .ok (.goto 4, 3) := by decide +kernel
theorem dX3_there_27 : decode cX3_there 27 = .ok (.iconst 0, 1) := by decide +kernel
theorem dX3_there_28 : decode cX3_there 28 = .ok (.iadd, 1) := by decide +kernel
theorem dX3_there_29 : decode cX3_there 29 = .ok (.istore_n 2, 1) := by decide +kernel
theorem dX3_there_30 : decode cX3_there 30 = .ok (.iinc 3 1, 3) := by decide +kernel
theorem dX3_there_33 : decode cX3_there 33 = .ok (.goto (-29), 3) := by decide +kernel
theorem dX3_there_36 : decode cX3_there 36 = .ok (.iload_n 2, 1) := by decide +kernel
theorem dX3_there_37 : decode cX3_there 37 = .ok (.ireturn, 1) := by decide +kernel
set_option maxRecDepth 20000 in
theorem ggX3_many_X3_of : GoodIn wsX3_many wsX3_of := goodIn_r _ [6, 7, 8, 9, 10, 11, 12, 13, 14, 15, 16, 17, 18, 19] (by decide +kernel) (by decide +kernel)
set_option maxRecDepth 20000 in
theorem gX3_many_X3_of : GoodIn wsX3_many (wsV RX3 57 RX3 yX3_of wsX3_of) := goodIn_app (goodIn_of _ (by decide +kernel)) ggX3_many_X3_of
theorem dX3_many_0 : decode cX3_many 0 = .ok (.iconst 0, 1) := by decide +kernel
theorem dX3_many_1 : decode cX3_many 1 = .ok (.istore_n 2, 1) := by decide +kernel
theorem dX3_many_2 : decode cX3_many 2 = .ok (.iconst 0, 1) := by decide +kernel
theorem dX3_many_3 : decode cX3_many 3 = .ok (.istore_n 3, 1) := by decide +kernel
theorem dX3_many_4 : decode cX3_many 4 = .ok (.iload_n 3, 1) := by decide +kernel
theorem dX3_many_5 : decode cX3_many 5 = .ok (.aload_n 0, 1) := by decide +kernel
theorem dX3_many_6 : decode cX3_many 6 = .ok (.getfield 35, 3) := by decide +kernel
theorem dX3_many_9 : decode cX3_many 9 = .ok (.if_icmp .ge 28, 3) := by decide +kernel
theorem dX3_many_12 : decode cX3_many 12 = .ok (.iload_n 2, 1) := by decide +kernel
theorem dX3_many_13 : decode cX3_many 13 = .ok (.aload_n 0, 1) := by decide +kernel
theorem dX3_many_14 : decode cX3_many 14 = .ok (.iload_n 3, 1) := by decide +kernel
theorem dX3_many_15 : decode cX3_many 15 = .ok (.bipush 6, 2) := by decide +kernel
theorem dX3_many_17 : decode cX3_many 17 = .ok (.invokevirtual 57, 3) := by decide +kernel
theorem dX3_many_20 : decode cX3_many 20 = .ok (.iload_n 1, 1) := by decide +kernel
theorem dX3_many_21 : decode cX3_many 21 = .ok (.if_icmp .ne 7, 3) := by decide +kernel
theorem dX3_many_24 : decode cX3_many 24 = .ok (.iconst 1, 1) := by decide +kernel
theorem dX3_many_25 : decode cX3_many 25 = .ok (.goto 4, 3) := by decide +kernel
theorem dX3_many_28 : decode cX3_many 28 = .ok (.iconst 0, 1) := by decide +kernel
theorem dX3_many_29 : decode cX3_many 29 = .ok (.iadd, 1) := by decide +kernel
theorem dX3_many_30 : decode cX3_many 30 = .ok (.istore_n 2, 1) := by decide +kernel
theorem dX3_many_31 : decode cX3_many 31 = .ok (.iinc 3 1, 3) := by decide +kernel
theorem dX3_many_34 : decode cX3_many 34 = .ok (.goto (-30), 3) := by decide +kernel
theorem dX3_many_37 : decode cX3_many 37 = .ok (.iload_n 2, 1) := by decide +kernel
theorem dX3_many_38 : decode cX3_many 38 = .ok (.ireturn, 1) := by decide +kernel
set_option maxRecDepth 20000 in
theorem ggX3_all_X3_of : GoodIn wsX3_all wsX3_of := goodIn_r _ [6, 7, 8, 9, 10, 11, 12, 13, 14, 15, 16, 17, 18, 19] (by decide +kernel) (by decide +kernel)
set_option maxRecDepth 20000 in
theorem gX3_all_X3_of : GoodIn wsX3_all (wsV RX3 57 RX3 yX3_of wsX3_of) := goodIn_app (goodIn_of _ (by decide +kernel)) ggX3_all_X3_of
theorem dX3_all_0 : decode cX3_all 0 = .ok (.iconst 0, 1) := by decide +kernel
theorem dX3_all_1 : decode cX3_all 1 = .ok (.istore_n 2, 1) := by decide +kernel
theorem dX3_all_2 : decode cX3_all 2 = .ok (.iconst 0, 1) := by decide +kernel
theorem dX3_all_3 : decode cX3_all 3 = .ok (.istore_n 3, 1) := by decide +kernel
theorem dX3_all_4 : decode cX3_all 4 = .ok (.iload_n 3, 1) := by decide +kernel
theorem dX3_all_5 : decode cX3_all 5 = .ok (.aload_n 0, 1) := by decide +kernel
theorem dX3_all_6 : decode cX3_all 6 = .ok (.getfield 35, 3) := by decide +kernel
theorem dX3_all_9 : decode cX3_all 9 = .ok (.if_icmp .ge 18, 3) := by decide +kernel
theorem dX3_all_12 : decode cX3_all 12 = .ok (.iload_n 2, 1) := by decide +kernel
theorem dX3_all_13 : decode cX3_all 13 = .ok (.aload_n 0, 1) := by decide +kernel
theorem dX3_all_14 : decode cX3_all 14 = .ok (.iload_n 3, 1) := by decide +kernel
theorem dX3_all_15 : decode cX3_all 15 = .ok (.iload_n 1, 1) := by decide +kernel
theorem dX3_all_16 : decode cX3_all 16 = .ok (.invokevirtual 57, 3) := by decide +kernel
theorem dX3_all_19 : decode cX3_all 19 = .ok (.iadd, 1) := by decide +kernel
theorem dX3_all_20 : decode cX3_all 20 = .ok (.istore_n 2, 1) := by decide +kernel
theorem dX3_all_21 : decode cX3_all 21 = .ok (.iinc 3 1, 3) := by decide +kernel
theorem dX3_all_24 : decode cX3_all 24 = .ok (.goto (-20), 3) := by decide +kernel
theorem dX3_all_27 : decode cX3_all 27 = .ok (.iload_n 2, 1) := by decide +kernel
theorem dX3_all_28 : decode cX3_all 28 = .ok (.ireturn, 1) := by decide +kernel
set_option maxRecDepth 20000 in
theorem ggX3_fire_X3_combers : GoodIn wsX3_fire wsX3_combers := goodIn_r _ [14, 15, 16, 17, 18, 13, 19, 20, 21, 22, 23, 24, 25, 26, 27, 28, 29, 30, 31, 32, 33, 34, 35, 36] (by decide +kernel) (by decide +kernel)
set_option maxRecDepth 20000 in
theorem gX3_fire_X3_combers : GoodIn wsX3_fire (wsV RX3 65 RX3 yX3_combers wsX3_combers) := goodIn_app (goodIn_of _ (by decide +kernel)) ggX3_fire_X3_combers
theorem dX3_fire_0 : decode cX3_fire 0 = .ok (.iconst 0, 1) := by decide +kernel
theorem dX3_fire_1 : decode cX3_fire 1 = .ok (.istore_n 1, 1) := by decide +kernel
theorem dX3_fire_2 : decode cX3_fire 2 = .ok (.iload_n 1, 1) := by decide +kernel
theorem dX3_fire_3 : decode cX3_fire 3 = .ok (.iconst 3, 1) := by decide +kernel
theorem dX3_fire_4 : decode cX3_fire 4 = .ok (.if_icmp .ge 86, 3) := by decide +kernel
theorem dX3_fire_7 : decode cX3_fire 7 = .ok (.aload_n 0, 1) := by decide +kernel
theorem dX3_fire_8 : decode cX3_fire 8 = .ok (.iload_n 1, 1) := by decide +kernel
theorem dX3_fire_9 : decode cX3_fire 9 = .ok (.invokevirtual 65, 3) := by decide +kernel
theorem dX3_fire_12 : decode cX3_fire 12 = .ok (.ifCond .le 14, 3) := by decide +kernel
theorem dX3_fire_15 : decode cX3_fire 15 = .ok (.aload_n 0, 1) := by decide +kernel
theorem dX3_fire_16 : decode cX3_fire 16 = .ok (.getfield 19, 3) := by decide +kernel
theorem dX3_fire_19 : decode cX3_fire 19 = .ok (.ifCond .le 7, 3) := by decide +kernel
theorem dX3_fire_22 : decode cX3_fire 22 = .ok (.iconst 1, 1) := by decide +kernel
theorem dX3_fire_23 : decode cX3_fire 23 = .ok (.goto 4, 3) := by decide +kernel
theorem dX3_fire_26 : decode cX3_fire 26 = .ok (.iconst 0, 1) := by decide +kernel
theorem dX3_fire_27 : decode cX3_fire 27 = .ok (.istore_n 2, 1) := by decide +kernel
theorem dX3_fire_28 : decode cX3_fire 28 = .ok (.aload_n 0, 1) := by decide +kernel
theorem dX3_fire_29 : decode cX3_fire 29 = .ok (.dup, 1) := by decide +kernel
theorem dX3_fire_30 : decode cX3_fire 30 = .ok (.getfield 19, 3) := by decide +kernel
theorem dX3_fire_33 : decode cX3_fire 33 = .ok (.iload_n 2, 1) := by decide +kernel
theorem dX3_fire_34 : decode cX3_fire 34 = .ok (.ifCond .eq 7, 3) := by decide +kernel
theorem dX3_fire_37 : decode cX3_fire 37 = .ok (.iconst 1, 1) := by decide +kernel
theorem dX3_fire_38 : decode cX3_fire 38 = .ok (.goto 4, 3) := by decide +kernel
theorem dX3_fire_41 : decode cX3_fire 41 = .ok (.iconst 0, 1) := by decide +kernel
theorem dX3_fire_42 : decode cX3_fire 42 = .ok (.isub, 1) := by decide +kernel
theorem dX3_fire_43 : decode cX3_fire 43 = .ok (.putfield 19, 3) := by decide +kernel
theorem dX3_fire_46 : decode cX3_fire 46 = .ok (.aload_n 0, 1) := by decide +kernel
theorem dX3_fire_47 : decode cX3_fire 47 = .ok (.getfield 25, 3) := by decide +kernel
theorem dX3_fire_50 : decode cX3_fire 50 = .ok (.iload_n 1, 1) := by decide +kernel
theorem dX3_fire_51 : decode cX3_fire 51 = .ok (.iload_n 2, 1) := by decide +kernel
theorem dX3_fire_52 : decode cX3_fire 52 = .ok (.ifCond .eq 19, 3) := by decide +kernel
theorem dX3_fire_55 : decode cX3_fire 55 = .ok (.bipush 9, 2) := by decide +kernel
theorem dX3_fire_57 : decode cX3_fire 57 = .ok (.aload_n 0, 1) := by decide +kernel
theorem dX3_fire_58 : decode cX3_fire 58 = .ok (.getfield 25, 3) := by decide +kernel
theorem dX3_fire_61 : decode cX3_fire 61 = .ok (.iload_n 1, 1) := by decide +kernel
theorem dX3_fire_62 : decode cX3_fire 62 = .ok (.iaload, 1) := by decide +kernel
theorem dX3_fire_63 : decode cX3_fire 63 = .ok (.iconst 3, 1) := by decide +kernel
theorem dX3_fire_64 : decode cX3_fire 64 = .ok (.iadd, 1) := by decide +kernel
theorem dX3_fire_65 : decode cX3_fire 65 = .ok (.invokestatic 69, 3) := by decide +kernel
theorem dX3_fire_68 : decode cX3_fire 68 = .ok (.goto 15, 3) := by decide +kernel
theorem dX3_fire_71 : decode cX3_fire 71 = .ok (.iconst 0, 1) := by decide +kernel
theorem dX3_fire_72 : decode cX3_fire 72 = .ok (.aload_n 0, 1) := by decide +kernel
theorem dX3_fire_73 : decode cX3_fire 73 = .ok (.getfield 25, 3) := by decide +kernel
theorem dX3_fire_76 : decode cX3_fire 76 = .ok (.iload_n 1, 1) := by decide +kernel
theorem dX3_fire_77 : decode cX3_fire 77 = .ok (.iaload, 1) := by decide +kernel
theorem dX3_fire_78 : decode cX3_fire 78 = .ok (.iconst 2, 1) := by decide +kernel
theorem dX3_fire_79 : decode cX3_fire 79 = .ok (.isub, 1) := by decide +kernel
theorem dX3_fire_80 : decode cX3_fire 80 = .ok (.invokestatic 74, 3) := by decide +kernel
theorem dX3_fire_83 : decode cX3_fire 83 = .ok (.iastore, 1) := by decide +kernel
theorem dX3_fire_84 : decode cX3_fire 84 = .ok (.iinc 1 1, 3) := by decide +kernel
theorem dX3_fire_87 : decode cX3_fire 87 = .ok (.goto (-85), 3) := by decide +kernel
theorem dX3_fire_90 : decode cX3_fire 90 = .ok (.return_, 1) := by decide +kernel
set_option maxRecDepth 20000 in
theorem ggX3_pounds_X3_of : GoodIn wsX3_pounds wsX3_of := goodIn_r _ [10, 11, 21, 22, 23, 24, 25, 26, 27, 28, 29, 30, 31, 32] (by decide +kernel) (by decide +kernel)
set_option maxRecDepth 20000 in
theorem gX3_pounds_X3_of : GoodIn wsX3_pounds (wsV RX3 57 RX3 yX3_of wsX3_of) := goodIn_app (goodIn_of _ (by decide +kernel)) ggX3_pounds_X3_of
set_option maxRecDepth 20000 in
theorem ggX3_pounds_X3_combers : GoodIn wsX3_pounds wsX3_combers := goodIn_r _ [15, 16, 17, 18, 19, 9, 20, 6, 7, 8, 10, 11, 21, 22, 23, 24, 25, 26, 27, 28, 29, 30, 31, 32] (by decide +kernel) (by decide +kernel)
set_option maxRecDepth 20000 in
theorem gX3_pounds_X3_combers : GoodIn wsX3_pounds (wsV RX3 65 RX3 yX3_combers wsX3_combers) := goodIn_app (goodIn_of _ (by decide +kernel)) ggX3_pounds_X3_combers
theorem dX3_pounds_0 : decode cX3_pounds 0 = .ok (.aload_n 0, 1) := by decide +kernel
theorem dX3_pounds_1 : decode cX3_pounds 1 = .ok (.iload_n 1, 1) := by decide +kernel
theorem dX3_pounds_2 : decode cX3_pounds 2 = .ok (.iconst 5, 1) := by decide +kernel
theorem dX3_pounds_3 : decode cX3_pounds 3 = .ok (.invokevirtual 57, 3) := by decide +kernel
theorem dX3_pounds_6 : decode cX3_pounds 6 = .ok (.istore_n 2, 1) := by decide +kernel
theorem dX3_pounds_7 : decode cX3_pounds 7 = .ok (.iconst 0, 1) := by decide +kernel
theorem dX3_pounds_8 : decode cX3_pounds 8 = .ok (.aload_n 0, 1) := by decide +kernel
theorem dX3_pounds_9 : decode cX3_pounds 9 = .ok (.iload_n 1, 1) := by decide +kernel
theorem dX3_pounds_10 : decode cX3_pounds 10 = .ok (.iconst 0, 1) := by decide +kernel
theorem dX3_pounds_11 : decode cX3_pounds 11 = .ok (.invokevirtual 57, 3) := by decide +kernel
theorem dX3_pounds_14 : decode cX3_pounds 14 = .ok (.aload_n 0, 1) := by decide +kernel
theorem dX3_pounds_15 : decode cX3_pounds 15 = .ok (.getfield 25, 3) := by decide +kernel
theorem dX3_pounds_18 : decode cX3_pounds 18 = .ok (.iload_n 2, 1) := by decide +kernel
theorem dX3_pounds_19 : decode cX3_pounds 19 = .ok (.iaload, 1) := by decide +kernel
theorem dX3_pounds_20 : decode cX3_pounds 20 = .ok (.iadd, 1) := by decide +kernel
theorem dX3_pounds_21 : decode cX3_pounds 21 = .ok (.iconst 2, 1) := by decide +kernel
theorem dX3_pounds_22 : decode cX3_pounds 22 = .ok (.iconst 0, 1) := by decide +kernel
theorem dX3_pounds_23 : decode cX3_pounds 23 = .ok (.aload_n 0, 1) := by decide +kernel
theorem dX3_pounds_24 : decode cX3_pounds 24 = .ok (.iload_n 2, 1) := by decide +kernel
theorem dX3_pounds_25 : decode cX3_pounds 25 = .ok (.invokevirtual 65, 3) := by decide +kernel
theorem dX3_pounds_28 : decode cX3_pounds 28 = .ok (.iconst 2, 1) := by decide +kernel
theorem dX3_pounds_29 : decode cX3_pounds 29 = .ok (.isub, 1) := by decide +kernel
theorem dX3_pounds_30 : decode cX3_pounds 30 = .ok (.invokestatic 74, 3) := by decide +kernel
