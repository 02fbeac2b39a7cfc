theorem dX4_owes_16 : decode cX4_owes 16 = .ok (.getfield 32, 3) := by decide +kernel
theorem dX4_owes_19 : decode cX4_owes 19 = .ok (.if_icmp .ge 37, 3) := by decide +kernel
theorem dX4_owes_22 : decode cX4_owes 22 = .ok (.aload_n 0, 1) := by decide +kernel
theorem dX4_owes_23 : decode cX4_owes 23 = .ok (.getfield 22, 3) := by decide +kernel
theorem dX4_owes_26 : decode cX4_owes 26 = .ok (.iload_n 3, 1) := by decide +kernel
theorem dX4_owes_27 : decode cX4_owes 27 = .ok (.iconst 3, 1) := by decide +kernel
theorem dX4_owes_28 : decode cX4_owes 28 = .ok (.invokevirtual 39, 3) := by decide +kernel
theorem dX4_owes_31 : decode cX4_owes 31 = .ok (.iload_n 2, 1) := by decide +kernel
theorem dX4_owes_32 : decode cX4_owes 32 = .ok (.if_icmp .gt 6, 3) := by decide +kernel
theorem dX4_owes_35 : decode cX4_owes 35 = .ok (.goto 15, 3) := by decide +kernel
theorem dX4_owes_38 : decode cX4_owes 38 = .ok (.iload_n 3, 1) := by decide +kernel
theorem dX4_owes_39 : decode cX4_owes 39 = .ok (.istore_n 1, 1) := by decide +kernel
theorem dX4_owes_40 : decode cX4_owes 40 = .ok (.aload_n 0, 1) := by decide +kernel
theorem dX4_owes_41 : decode cX4_owes 41 = .ok (.getfield 22, 3) := by decide +kernel
theorem dX4_owes_44 : decode cX4_owes 44 = .ok (.iload_n 3, 1) := by decide +kernel
theorem dX4_owes_45 : decode cX4_owes 45 = .ok (.iconst 3, 1) := by decide +kernel
theorem dX4_owes_46 : decode cX4_owes 46 = .ok (.invokevirtual 39, 3) := by decide +kernel
theorem dX4_owes_49 : decode cX4_owes 49 = .ok (.istore_n 2, 1) := by decide +kernel
theorem dX4_owes_50 : decode cX4_owes 50 = .ok (.iinc 3 1, 3) := by decide +kernel
theorem dX4_owes_53 : decode cX4_owes 53 = .ok (.goto (-42), 3) := by decide +kernel
theorem dX4_owes_56 : decode cX4_owes 56 = .ok (.iload_n 1, 1) := by decide +kernel
theorem dX4_owes_57 : decode cX4_owes 57 = .ok (.ireturn, 1) := by decide +kernel
set_option maxRecDepth 20000 in
theorem ggX4_setFever_X4_isIn : GoodIn wsX4_setFever wsX4_isIn := goodIn_r _ [6] (by decide +kernel) (by decide +kernel)
set_option maxRecDepth 20000 in
theorem gX4_setFever_X4_isIn : GoodIn wsX4_setFever (va_wsS RX4 35 yX4_isIn wsX4_isIn) := goodIn_app (goodIn_of _ (by decide +kernel)) ggX4_setFever_X4_isIn
set_option maxRecDepth 20000 in
theorem ggX4_setFever_X4_no : GoodIn wsX4_setFever wsX4_no := goodIn_r _ [10, 1, 11, 12, 13, 14, 15] (by decide +kernel) (by decide +kernel)
set_option maxRecDepth 20000 in
theorem gX4_setFever_X4_no : GoodIn wsX4_setFever (wsV RX4 47 RX4 yX4_no wsX4_no) := goodIn_app (goodIn_of _ (by decide +kernel)) ggX4_setFever_X4_no
theorem dX4_setFever_0 : decode cX4_setFever 0 = .ok (.aload_n 0, 1) := by decide +kernel
theorem dX4_setFever_1 : decode cX4_setFever 1 = .ok (.iconst 0, 1) := by decide +kernel
theorem dX4_setFever_2 : decode cX4_setFever 2 = .ok (.putfield 29, 3) := by decide +kernel
theorem dX4_setFever_5 : decode cX4_setFever 5 = .ok (.iload_n 1, 1) := by decide +kernel
theorem dX4_setFever_6 : decode cX4_setFever 6 = .ok (.iconst 0, 1) := by decide +kernel
theorem dX4_setFever_7 : decode cX4_setFever 7 = .ok (.bipush 7, 2) := by decide +kernel
theorem dX4_setFever_9 : decode cX4_setFever 9 = .ok (.invokestatic 35, 3) := by decide +kernel
theorem dX4_setFever_12 : decode cX4_setFever 12 = .ok (.ifCond .ne 9, 3) := by decide +kernel
theorem dX4_setFever_15 : decode cX4_setFever 15 = .ok (.aload_n 0, 1) := by decide +kernel
theorem dX4_setFever_16 : decode cX4_setFever 16 = .ok (.iconst 1, 1) := by decide +kernel
theorem dX4_setFever_17 : decode cX4_setFever 17 = .ok (.invokevirtual 47, 3) := by decide +kernel
theorem dX4_setFever_20 : decode cX4_setFever 20 = .ok (.ireturn, 1) := by decide +kernel
theorem dX4_setFever_21 : decode cX4_setFever 21 = .ok (.iload_n 2, 1) := by decide +kernel
theorem dX4_setFever_22 : decode cX4_setFever 22 = .ok (.iconst (-1), 1) := by decide +kernel
theorem dX4_setFever_23 : decode cX4_setFever 23 = .ok (.iconst 2, 1) := by decide +kernel
theorem dX4_setFever_24 : decode cX4_setFever 24 = .ok (.invokestatic 35, 3) := by decide +kernel
theorem dX4_setFever_27 : decode cX4_setFever 27 = .ok (.ifCond .ne 9, 3) := by decide +kernel
theorem dX4_setFever_30 : decode cX4_setFever 30 = .ok (.aload_n 0, 1) := by decide +kernel
theorem dX4_setFever_31 : decode cX4_setFever 31 = .ok (.iconst 2, 1) := by decide +kernel
theorem dX4_setFever_32 : decode cX4_setFever 32 = .ok (.invokevirtual 47, 3) := by decide +kernel
theorem dX4_setFever_35 : decode cX4_setFever 35 = .ok (.ireturn, 1) := by decide +kernel
theorem dX4_setFever_36 : decode cX4_setFever 36 = .ok (.aload_n 0, 1) := by decide +kernel
theorem dX4_setFever_37 : decode cX4_setFever 37 = .ok (.getfield 13, 3) := by decide +kernel
theorem dX4_setFever_40 : decode cX4_setFever 40 = .ok (.iload_n 1, 1) := by decide +kernel
theorem dX4_setFever_41 : decode cX4_setFever 41 = .ok (.iaload, 1) := by decide +kernel
theorem dX4_setFever_42 : decode cX4_setFever 42 = .ok (.istore_n 3, 1) := by decide +kernel
theorem dX4_setFever_43 : decode cX4_setFever 43 = .ok (.aload_n 0, 1) := by decide +kernel
theorem dX4_setFever_44 : decode cX4_setFever 44 = .ok (.getfield 13, 3) := by decide +kernel
theorem dX4_setFever_47 : decode cX4_setFever 47 = .ok (.iload_n 1, 1) := by decide +kernel
theorem dX4_setFever_48 : decode cX4_setFever 48 = .ok (.iload_n 2, 1) := by decide +kernel
theorem dX4_setFever_49 : decode cX4_setFever 49 = .ok (.iastore, 1) := by decide +kernel
theorem dX4_setFever_50 : decode cX4_setFever 50 = .ok (.iload_n 3, 1) := by decide +kernel
theorem dX4_setFever_51 : decode cX4_setFever 51 = .ok (.ireturn, 1) := by decide +kernel
set_option maxRecDepth 20000 in
theorem ggX4_setDues_X4_isIn : GoodIn wsX4_setDues wsX4_isIn := goodIn_r _ [6] (by decide +kernel) (by decide +kernel)
set_option maxRecDepth 20000 in
theorem gX4_setDues_X4_isIn : GoodIn wsX4_setDues (va_wsS RX4 35 yX4_isIn wsX4_isIn) := goodIn_app (goodIn_of _ (by decide +kernel)) ggX4_setDues_X4_isIn
set_option maxRecDepth 20000 in
theorem ggX4_setDues_X4_no : GoodIn wsX4_setDues wsX4_no := goodIn_r _ [10, 1, 11, 12, 13, 14, 15] (by decide +kernel) (by decide +kernel)
set_option maxRecDepth 20000 in
theorem gX4_setDues_X4_no : GoodIn wsX4_setDues (wsV RX4 47 RX4 yX4_no wsX4_no) := goodIn_app (goodIn_of _ (by decide +kernel)) ggX4_setDues_X4_no
theorem dX4_setDues_0 : decode cX4_setDues 0 = .ok (.aload_n 0, 1) := by decide +kernel
theorem dX4_setDues_1 : decode cX4_setDues 1 = .ok (.iconst 0, 1) := by decide +kernel
theorem dX4_setDues_2 : decode cX4_setDues 2 = .ok (.putfield 29, 3) := by decide +kernel
theorem dX4_setDues_5 : decode cX4_setDues 5 = .ok (.iload_n 1, 1) := by decide +kernel
theorem dX4_setDues_6 : decode cX4_setDues 6 = .ok (.iconst 0, 1) := by decide +kernel
theorem dX4_setDues_7 : decode cX4_setDues 7 = .ok (.iconst 3, 1) := by decide +kernel
theorem dX4_setDues_8 : decode cX4_setDues 8 = .ok (.invokestatic 35, 3) := by decide +kernel
theorem dX4_setDues_11 : decode cX4_setDues 11 = .ok (.ifCond .ne 9, 3) := by decide +kernel
theorem dX4_setDues_14 : decode cX4_setDues 14 = .ok (.aload_n 0, 1) := by decide +kernel
theorem dX4_setDues_15 : decode cX4_setDues 15 = .ok (.iconst 1, 1) := by decide +kernel
theorem dX4_setDues_16 : decode cX4_setDues 16 = .ok (.invokevirtual 47, 3) := by decide +kernel
theorem dX4_setDues_19 : decode cX4_setDues 19 = .ok (.ireturn, 1) := by decide +kernel
theorem dX4_setDues_20 : decode cX4_setDues 20 = .ok (.aload_n 0, 1) := by decide +kernel
theorem dX4_setDues_21 : decode cX4_setDues 21 = .ok (.getfield 7, 3) := by decide +kernel
theorem dX4_setDues_24 : decode cX4_setDues 24 = .ok (.istore_n 2, 1) := by decide +kernel
theorem dX4_setDues_25 : decode cX4_setDues 25 = .ok (.aload_n 0, 1) := by decide +kernel
theorem dX4_setDues_26 : decode cX4_setDues 26 = .ok (.iload_n 1, 1) := by decide +kernel
theorem dX4_setDues_27 : decode cX4_setDues 27 = .ok (.putfield 7, 3) := by decide +kernel
theorem dX4_setDues_30 : decode cX4_setDues 30 = .ok (.iload_n 2, 1) := by decide +kernel
theorem dX4_setDues_31 : decode cX4_setDues 31 = .ok (.ireturn, 1) := by decide +kernel
set_option maxRecDepth 20000 in
theorem ggX4_buy_X4_isIn : GoodIn wsX4_buy wsX4_isIn := goodIn_r _ [6] (by decide +kernel) (by decide +kernel)
set_option maxRecDepth 20000 in
theorem gX4_buy_X4_isIn : GoodIn wsX4_buy (va_wsS RX4 35 yX4_isIn wsX4_isIn) := goodIn_app (goodIn_of _ (by decide +kernel)) ggX4_buy_X4_isIn
set_option maxRecDepth 20000 in
theorem ggX4_buy_X4_no : GoodIn wsX4_buy wsX4_no := goodIn_r _ [10, 1, 11, 12, 13, 14, 15] (by decide +kernel) (by decide +kernel)
set_option maxRecDepth 20000 in
theorem gX4_buy_X4_no : GoodIn wsX4_buy (wsV RX4 47 RX4 yX4_no wsX4_no) := goodIn_app (goodIn_of _ (by decide +kernel)) ggX4_buy_X4_no
theorem dX4_buy_0 : decode cX4_buy 0 = .ok (.aload_n 0, 1) := by decide +kernel
theorem dX4_buy_1 : decode cX4_buy 1 = .ok (.iconst 0, 1) := by decide +kernel
theorem dX4_buy_2 : decode cX4_buy 2 = .ok (.putfield 29, 3) := by decide +kernel
theorem dX4_buy_5 : decode cX4_buy 5 = .ok (.iload_n 1, 1) := by decide +kernel
theorem dX4_buy_6 : decode cX4_buy 6 = .ok (.iconst 0, 1) := by decide +kernel
theorem dX4_buy_7 : decode cX4_buy 7 = .ok (.iconst 1, 1) := by decide +kernel
theorem dX4_buy_8 : decode cX4_buy 8 = .ok (.invokestatic 35, 3) := by decide +kernel
theorem dX4_buy_11 : decode cX4_buy 11 = .ok (.ifCond .ne 9, 3) := by decide +kernel
theorem dX4_buy_14 : decode cX4_buy 14 = .ok (.aload_n 0, 1) := by decide +kernel
theorem dX4_buy_15 : decode cX4_buy 15 = .ok (.iconst 1, 1) := by decide +kernel
theorem dX4_buy_16 : decode cX4_buy 16 = .ok (.invokevirtual 47, 3) := by decide +kernel
theorem dX4_buy_19 : decode cX4_buy 19 = .ok (.ireturn, 1) := by decide +kernel
theorem dX4_buy_20 : decode cX4_buy 20 = .ok (.iload_n 2, 1) := by decide +kernel
theorem dX4_buy_21 : decode cX4_buy 21 = .ok (.iconst 1, 1) := by decide +kernel
theorem dX4_buy_22 : decode cX4_buy 22 = .ok (.sipush 200, 3) := by decide +kernel
theorem dX4_buy_25 : decode cX4_buy 25 = .ok (.invokestatic 35, 3) := by decide +kernel
theorem dX4_buy_28 : decode cX4_buy 28 = .ok (.ifCond .ne 9, 3) := by decide +kernel
theorem dX4_buy_31 : decode cX4_buy 31 = .ok (.aload_n 0, 1) := by decide +kernel
theorem dX4_buy_32 : decode cX4_buy 32 = .ok (.iconst 2, 1) := by decide +kernel
theorem dX4_buy_33 : decode cX4_buy 33 = .ok (.invokevirtual 47, 3) := by decide +kernel
theorem dX4_buy_36 : decode cX4_buy 36 = .ok (.ireturn, 1) := by decide +kernel
theorem dX4_buy_37 : decode cX4_buy 37 = .ok (.iload_n 1, 1) := by decide +kernel
theorem dX4_buy_38 : decode cX4_buy 38 = .ok (.ifCond .ne 7, 3) := by decide +kernel
theorem dX4_buy_41 : decode cX4_buy 41 = .ok (.iload_n 2, 1) := by decide +kernel
theorem dX4_buy_42 : decode cX4_buy 42 = .ok (.goto 8, 3) := by decide +kernel
theorem dX4_buy_45 : decode cX4_buy 45 = .ok (.iload_n 2, 1) := by decide +kernel
theorem dX4_buy_46 : decode cX4_buy 46 = .ok (.iconst 2, 1) := by decide +kernel
theorem dX4_buy_47 : decode cX4_buy 47 = .ok (.iadd, 1) := by decide +kernel
theorem dX4_buy_48 : decode cX4_buy 48 = .ok (.iconst 3, 1) := by decide +kernel
theorem dX4_buy_49 : decode cX4_buy 49 = .ok (.idiv, 1) := by decide +kernel
theorem dX4_buy_50 : decode cX4_buy 50 = .ok (.istore_n 3, 1) := by decide +kernel
theorem dX4_buy_51 : decode cX4_buy 51 = .ok (.aload_n 0, 1) := by decide +kernel
theorem dX4_buy_52 : decode cX4_buy 52 = .ok (.getfield 22, 3) := by decide +kernel
theorem dX4_buy_55 : decode cX4_buy 55 = .ok (.getfield 76, 3) := by decide +kernel
theorem dX4_buy_58 : decode cX4_buy 58 = .ok (.iload_n 3, 1) := by decide +kernel
theorem dX4_buy_59 : decode cX4_buy 59 = .ok (.if_icmp .ge 9, 3) := by decide +kernel
theorem dX4_buy_62 : decode cX4_buy 62 = .ok (.aload_n 0, 1) := by decide +kernel
theorem dX4_buy_63 : decode cX4_buy 63 = .ok (.iconst 3, 1) := by decide +kernel
theorem dX4_buy_64 : decode cX4_buy 64 = .ok (.invokevirtual 47, 3) := by decide +kernel
theorem dX4_buy_67 : decode cX4_buy 67 = .ok (.ireturn, 1) := by decide +kernel
theorem dX4_buy_68 : decode cX4_buy 68 = .ok (.aload_n 0, 1) := by decide +kernel
theorem dX4_buy_69 : decode cX4_buy 69 = .ok (.getfield 22, 3) := by decide +kernel
theorem dX4_buy_72 : decode cX4_buy 72 = .ok (.dup, 1) := by decide +kernel
theorem dX4_buy_73 : decode cX4_buy 73 = .ok (.getfield 76, 3) := by decide +kernel
theorem dX4_buy_76 : decode cX4_buy 76 = .ok (.iload_n 3, 1) := by decide +kernel
theorem dX4_buy_77 : decode cX4_buy 77 = .ok (.isub, 1) := by decide +kernel
theorem dX4_buy_78 : decode cX4_buy 78 = .ok (.putfield 76, 3) := by decide +kernel
theorem dX4_buy_81 : decode cX4_buy 81 = .ok (.aload_n 0, 1) := by decide +kernel
theorem dX4_buy_82 : decode cX4_buy 82 = .ok (.getfield 22, 3) := by decide +kernel
theorem dX4_buy_85 : decode cX4_buy 85 = .ok (.dup, 1) := by decide +kernel
theorem dX4_buy_86 : decode cX4_buy 86 = .ok (.getfield 79, 3) := by decide +kernel
theorem dX4_buy_89 : decode cX4_buy 89 = .ok (.iload_n 1, 1) := by decide +kernel
theorem dX4_buy_90 : decode cX4_buy 90 = .ok (.ifCond .ne 7, 3) := by decide +kernel
theorem dX4_buy_93 : decode cX4_buy 93 = .ok (.iload_n 2, 1) := by decide +kernel
theorem dX4_buy_94 : decode cX4_buy 94 = .ok (.goto 4, 3) := by decide +kernel
theorem dX4_buy_97 : decode cX4_buy 97 = .ok (.iconst 0, 1) := by decide +kernel
theorem dX4_buy_98 : decode cX4_buy 98 = .ok (.iadd, 1) := by decide +kernel
theorem dX4_buy_99 : decode cX4_buy 99 = .ok (.putfield 79, 3) := by decide +kernel
theorem dX4_buy_102 : decode cX4_buy 102 = .ok (.aload_n 0, 1) := by decide +kernel
theorem dX4_buy_103 : decode cX4_buy 103 = .ok (.getfield 22, 3) := by decide +kernel
theorem dX4_buy_106 : decode cX4_buy 106 = .ok (.dup, 1) := by decide +kernel
theorem dX4_buy_107 : decode cX4_buy 107 = .ok (.getfield 82, 3) := by decide +kernel
theorem dX4_buy_110 : decode cX4_buy 110 = .ok (.iload_n 1, 1) := by decide +kernel
theorem dX4_buy_111 : decode cX4_buy 111 = .ok (.iconst 1, 1) := by decide +kernel
theorem dX4_buy_112 : decode cX4_buy 112 = .ok (.if_icmp .ne 7, 3) := by decide +kernel
theorem dX4_buy_115 : decode cX4_buy 115 = .ok (.iload_n 2, 1) := by decide +kernel
theorem dX4_buy_116 : decode cX4_buy 116 = .ok (.goto 4, 3) := by decide +kernel
theorem dX4_buy_119 : decode cX4_buy 119 = .ok (.iconst 0, 1) := by decide +kernel
theorem dX4_buy_120 : decode cX4_buy 120 = .ok (.iadd, 1) := by decide +kernel
theorem dX4_buy_121 : decode cX4_buy 121 = .ok (.putfield 82, 3) := by decide +kernel
theorem dX4_buy_124 : decode cX4_buy 124 = .ok (.iload_n 1, 1) := by decide +kernel
theorem dX4_buy_125 : decode cX4_buy 125 = .ok (.ifCond .ne 13, 3) := by decide +kernel
theorem dX4_buy_128 : decode cX4_buy 128 = .ok (.aload_n 0, 1) := by decide +kernel
theorem dX4_buy_129 : decode cX4_buy 129 = .ok (.getfield 22, 3) := by decide +kernel
theorem dX4_buy_132 : decode cX4_buy 132 = .ok (.getfield 79, 3) := by decide +kernel
theorem dX4_buy_135 : decode cX4_buy 135 = .ok (.goto 10, 3) := by decide +kernel
theorem dX4_buy_138 : decode cX4_buy 138 = .ok (.aload_n 0, 1) := by decide +kernel
theorem dX4_buy_139 : decode cX4_buy 139 = .ok (.getfield 22, 3) := by decide +kernel
theorem dX4_buy_142 : decode cX4_buy 142 = .ok (.getfield 82, 3) := by decide +kernel
theorem dX4_buy_145 : decode cX4_buy 145 = .ok (.ireturn, 1) := by decide +kernel
set_option maxRecDepth 20000 in
theorem ggX4_sell_X4_isIn : GoodIn wsX4_sell wsX4_isIn := goodIn_r _ [6] (by decide +kernel) (by decide +kernel)
set_option maxRecDepth 20000 in
theorem gX4_sell_X4_isIn : GoodIn wsX4_sell (va_wsS RX4 35 yX4_isIn wsX4_isIn) := goodIn_app (goodIn_of _ (by decide +kernel)) ggX4_sell_X4_isIn
set_option maxRecDepth 20000 in
theorem ggX4_sell_X4_no : GoodIn wsX4_sell wsX4_no := goodIn_r _ [10, 1, 11, 12, 13, 14, 15] (by decide +kernel) (by decide +kernel)
set_option maxRecDepth 20000 in
theorem gX4_sell_X4_no : GoodIn wsX4_sell (wsV RX4 47 RX4 yX4_no wsX4_no) := goodIn_app (goodIn_of _ (by decide +kernel)) ggX4_sell_X4_no
theorem dX4_sell_0 : decode cX4_sell 0 = .ok (.aload_n 0, 1) := by decide +kernel
theorem dX4_sell_1 : decode cX4_sell 1 = .ok (.iconst 0, 1) := by decide +kernel
theorem dX4_sell_2 : decode cX4_sell 2 = .ok (.putfield 29, 3) := by decide +kernel
theorem dX4_sell_5 : decode cX4_sell 5 = .ok (.iload_n 1, 1) := by decide +kernel
theorem dX4_sell_6 : decode cX4_sell 6 = .ok (.iconst 1, 1) := by decide +kernel
theorem dX4_sell_7 : decode cX4_sell 7 = .ok (.sipush 500, 3) := by decide +kernel
theorem dX4_sell_10 : decode cX4_sell 10 = .ok (.invokestatic 35, 3) := by decide +kernel
theorem dX4_sell_13 : decode cX4_sell 13 = .ok (.ifCond .ne 9, 3) := by decide +kernel
theorem dX4_sell_16 : decode cX4_sell 16 = .ok (.aload_n 0, 1) := by decide +kernel
theorem dX4_sell_17 : decode cX4_sell 17 = .ok (.iconst 1, 1) := by decide +kernel
theorem dX4_sell_18 : decode cX4_sell 18 = .ok (.invokevirtual 47, 3) := by decide +kernel
theorem dX4_sell_21 : decode cX4_sell 21 = .ok (.ireturn, 1) := by decide +kernel
theorem dX4_sell_22 : decode cX4_sell 22 = .ok (.aload_n 0, 1) := by decide +kernel
theorem dX4_sell_23 : decode cX4_sell 23 = .ok (.getfield 22, 3) := by decide +kernel
theorem dX4_sell_26 : decode cX4_sell 26 = .ok (.getfield 85, 3) := by decide +kernel
theorem dX4_sell_29 : decode cX4_sell 29 = .ok (.iload_n 1, 1) := by decide +kernel
theorem dX4_sell_30 : decode cX4_sell 30 = .ok (.if_icmp .ge 9, 3) := by decide +kernel
theorem dX4_sell_33 : decode cX4_sell 33 = .ok (.aload_n 0, 1) := by decide +kernel
theorem dX4_sell_34 : decode cX4_sell 34 = .ok (.iconst 2, 1) := by decide +kernel
theorem dX4_sell_35 : decode cX4_sell 35 = .ok (.invokevirtual 47, 3) := by decide +kernel
theorem dX4_sell_38 : decode cX4_sell 38 = .ok (.ireturn, 1) := by decide +kernel
theorem dX4_sell_39 : decode cX4_sell 39 = .ok (.aload_n 0, 1) := by decide +kernel
theorem dX4_sell_40 : decode cX4_sell 40 = .ok (.getfield 22, 3) := by decide +kernel
theorem dX4_sell_43 : decode cX4_sell 43 = .ok (.dup, 1) := by decide +kernel
theorem dX4_sell_44 : decode cX4_sell 44 = .ok (.getfield 85, 3) := by decide +kernel
theorem dX4_sell_47 : decode cX4_sell 47 = .ok (.iload_n 1, 1) := by decide +kernel
theorem dX4_sell_48 : decode cX4_sell 48 = .ok (.isub, 1) := by decide +kernel
theorem dX4_sell_49 : decode cX4_sell 49 = .ok (.putfield 85, 3) := by decide +kernel
theorem dX4_sell_52 : decode cX4_sell 52 = .ok (.aload_n 0, 1) := by decide +kernel
theorem dX4_sell_53 : decode cX4_sell 53 = .ok (.getfield 22, 3) := by decide +kernel
theorem dX4_sell_56 : decode cX4_sell 56 = .ok (.dup, 1) := by decide +kernel
theorem dX4_sell_57 : decode cX4_sell 57 = .ok (.getfield 76, 3) := by decide +kernel
theorem dX4_sell_60 : decode cX4_sell 60 = .ok (.iload_n 1, 1) := by decide +kernel
theorem dX4_sell_61 : decode cX4_sell 61 = .ok (.iconst 2, 1) := by decide +kernel
theorem dX4_sell_62 : decode cX4_sell 62 = .ok (.idiv, 1) := by decide +kernel
theorem dX4_sell_63 : decode cX4_sell 63 = .ok (.iadd, 1) := by decide +kernel
theorem dX4_sell_64 : decode cX4_sell 64 = .ok (.putfield 76, 3) := by decide +kernel
theorem dX4_sell_67 : decode cX4_sell 67 = .ok (.aload_n 0, 1) := by decide +kernel
theorem dX4_sell_68 : decode cX4_sell 68 = .ok (.getfield 22, 3) := by decide +kernel
theorem dX4_sell_71 : decode cX4_sell 71 = .ok (.getfield 76, 3) := by decide +kernel
theorem dX4_sell_74 : decode cX4_sell 74 = .ok (.ireturn, 1) := by decide +kernel
set_option maxRecDepth 20000 in
theorem ggX4_combed_X3_become : GoodIn wsX4_combed wsX3_become := goodIn_r _ [7, 8, 9, 10, 11, 12, 13, 14, 15, 16, 17, 18, 19, 20, 21, 22, 57, 58, 59, 60, 61, 62, 63, 64, 65, 66, 67, 68] (by decide +kernel) (by decide +kernel)
set_option maxRecDepth 20000 in
theorem gX4_combed_X3_become : GoodIn wsX4_combed (wsV RX4 88 RX3 yX3_become wsX3_become) := goodIn_app (goodIn_of _ (by decide +kernel)) ggX4_combed_X3_become
set_option maxRecDepth 20000 in
theorem ggX4_combed_X3_fire : GoodIn wsX4_combed wsX3_fire := goodIn_r _ [26, 11, 17, 27, 28, 29, 30, 31, 32, 33, 34, 35, 36, 6, 37, 9, 38, 39, 40, 41, 42, 43, 44, 45, 22, 57, 58, 59, 60, 61, 62, 63, 64, 65, 66, 67, 68] (by decide +kernel) (by decide +kernel)
set_option maxRecDepth 20000 in
theorem gX4_combed_X3_fire : GoodIn wsX4_combed (wsV RX4 92 RX3 yX3_fire wsX3_fire) := goodIn_app (goodIn_of _ (by decide +kernel)) ggX4_combed_X3_fire
set_option maxRecDepth 20000 in
theorem ggX4_combed_X3_combs : GoodIn wsX4_combed wsX3_combs := goodIn_r _ [41, 42, 43, 44, 6, 45, 22, 57, 58, 59, 60, 61, 62, 63, 64, 65, 66, 67, 68] (by decide +kernel) (by decide +kernel)
set_option maxRecDepth 20000 in
theorem gX4_combed_X3_combs : GoodIn wsX4_combed (wsV RX4 95 RX3 yX3_combs wsX3_combs) := goodIn_app (goodIn_of _ (by decide +kernel)) ggX4_combed_X3_combs
set_option maxRecDepth 20000 in
theorem ggX4_combed_X3_of : GoodIn wsX4_combed wsX3_of := goodIn_r _ [45, 22, 57, 58, 59, 60, 61, 62, 63, 64, 65, 66, 67, 68] (by decide +kernel) (by decide +kernel)
set_option maxRecDepth 20000 in
theorem gX4_combed_X3_of : GoodIn wsX4_combed (wsV RX4 39 RX3 yX3_of wsX3_of) := goodIn_app (goodIn_of _ (by decide +kernel)) ggX4_combed_X3_of
set_option maxRecDepth 20000 in
theorem ggX4_combed_X3_pounds : GoodIn wsX4_combed wsX3_pounds := goodIn_r _ [51, 17, 31, 32, 29, 33, 42, 43, 44, 6, 45, 22, 34, 35, 36, 37, 9, 38, 39, 40, 41, 57, 58, 59, 60, 61, 62, 63, 64, 65, 66, 67, 68] (by decide +kernel) (by decide +kernel)
set_option maxRecDepth 20000 in
theorem gX4_combed_X3_pounds : GoodIn wsX4_combed (wsV RX4 98 RX3 yX3_pounds wsX3_pounds) := goodIn_app (goodIn_of _ (by decide +kernel)) ggX4_combed_X3_pounds
theorem dX4_combed_0 : decode cX4_combed 0 = .ok (.aload_n 0, 1) := by decide +kernel
theorem dX4_combed_1 : decode cX4_combed 1 = .ok (.getfield 26, 3) := by decide +kernel
theorem dX4_combed_4 : decode cX4_combed 4 = .ok (.aload_n 0, 1) := by decide +kernel
theorem dX4_combed_5 : decode cX4_combed 5 = .ok (.getfield 22, 3) := by decide +kernel
theorem dX4_combed_8 : decode cX4_combed 8 = .ok (.invokevirtual 88, 3) := by decide +kernel
theorem dX4_combed_11 : decode cX4_combed 11 = .ok (.aload_n 0, 1) := by decide +kernel
theorem dX4_combed_12 : decode cX4_combed 12 = .ok (.getfield 26, 3) := by decide +kernel
theorem dX4_combed_15 : decode cX4_combed 15 = .ok (.invokevirtual 92, 3) := by decide +kernel
theorem dX4_combed_18 : decode cX4_combed 18 = .ok (.iconst 0, 1) := by decide +kernel
theorem dX4_combed_19 : decode cX4_combed 19 = .ok (.istore_n 2, 1) := by decide +kernel
theorem dX4_combed_20 : decode cX4_combed 20 = .ok (.iconst 0, 1) := by decide +kernel
theorem dX4_combed_21 : decode cX4_combed 21 = .ok (.istore_n 3, 1) := by decide +kernel
theorem dX4_combed_22 : decode cX4_combed 22 = .ok (.iload_n 3, 1) := by decide +kernel
theorem dX4_combed_23 : decode cX4_combed 23 = .ok (.aload_n 0, 1) := by decide +kernel
theorem dX4_combed_24 : decode cX4_combed 24 = .ok (.getfield 26, 3) := by decide +kernel
theorem dX4_combed_27 : decode cX4_combed 27 = .ok (.getfield 32, 3) := by decide +kernel
theorem dX4_combed_30 : decode cX4_combed 30 = .ok (.if_icmp .ge 48, 3) := by decide +kernel
theorem dX4_combed_33 : decode cX4_combed 33 = .ok (.iload_n 2, 1) := by decide +kernel
theorem dX4_combed_34 : decode cX4_combed 34 = .ok (.aload_n 0, 1) := by decide +kernel
theorem dX4_combed_35 : decode cX4_combed 35 = .ok (.getfield 26, 3) := by decide +kernel
theorem dX4_combed_38 : decode cX4_combed 38 = .ok (.iload_n 3, 1) := by decide +kernel
theorem dX4_combed_39 : decode cX4_combed 39 = .ok (.invokevirtual 95, 3) := by decide +kernel
theorem dX4_combed_42 : decode cX4_combed 42 = .ok (.ifCond .eq 27, 3) := by decide +kernel
theorem dX4_combed_45 : decode cX4_combed 45 = .ok (.aload_n 0, 1) := by decide +kernel
theorem dX4_combed_46 : decode cX4_combed 46 = .ok (.getfield 26, 3) := by decide +kernel
theorem dX4_combed_49 : decode cX4_combed 49 = .ok (.iload_n 3, 1) := by decide +kernel
theorem dX4_combed_50 : decode cX4_combed 50 = .ok (.iconst 5, 1) := by decide +kernel
theorem dX4_combed_51 : decode cX4_combed 51 = .ok (.invokevirtual 39, 3) := by decide +kernel
theorem dX4_combed_54 : decode cX4_combed 54 = .ok (.iload_n 1, 1) := by decide +kernel
theorem dX4_combed_55 : decode cX4_combed 55 = .ok (.if_icmp .ne 14, 3) := by decide +kernel
theorem dX4_combed_58 : decode cX4_combed 58 = .ok (.aload_n 0, 1) := by decide +kernel
theorem dX4_combed_59 : decode cX4_combed 59 = .ok (.getfield 26, 3) := by decide +kernel
theorem dX4_combed_62 : decode cX4_combed 62 = .ok (.iload_n 3, 1) := by decide +kernel
theorem dX4_combed_63 : decode cX4_combed 63 = .ok (.invokevirtual 98, 3) := by decide +kernel
theorem dX4_combed_66 : decode cX4_combed 66 = .ok (.goto 4, 3) := by decide +kernel
theorem dX4_combed_69 : decode cX4_combed 69 = .ok (.iconst 0, 1) := by decide +kernel
theorem dX4_combed_70 : decode cX4_combed 70 = .ok (.iadd, 1) := by decide +kernel
theorem dX4_combed_71 : decode cX4_combed 71 = .ok (.istore_n 2, 1) := by decide +kernel
theorem dX4_combed_72 : decode cX4_combed 72 = .ok (.iinc 3 1, 3) := by decide +kernel
theorem dX4_combed_75 : decode cX4_combed 75 = .ok (.goto (-53), 3) := by decide +kernel
theorem dX4_combed_78 : decode cX4_combed 78 = .ok (.iload_n 2, 1) := by decide +kernel
theorem dX4_combed_79 : decode cX4_combed 79 = .ok (.ireturn, 1) := by decide +kernel
set_option maxRecDepth 20000 in
theorem ggX4_potTold_X3_there : GoodIn wsX4_potTold wsX3_there := goodIn_r _ [6, 7, 8, 9, 10, 5, 11, 12, 67, 68, 69, 70, 71, 72, 73, 74, 75, 76, 77, 78] (by decide +kernel) (by decide +kernel)
set_option maxRecDepth 20000 in
theorem gX4_potTold_X3_there : GoodIn wsX4_potTold (wsV RX4 43 RX3 yX3_there wsX3_there) := goodIn_app (goodIn_of _ (by decide +kernel)) ggX4_potTold_X3_there
set_option maxRecDepth 20000 in
theorem ggX4_potTold_X3_combers : GoodIn wsX4_potTold wsX3_combers := goodIn_r _ [16, 7, 17, 18, 19, 5, 20, 8, 9, 10, 11, 12, 67, 68, 69, 70, 71, 72, 73, 74, 75, 76, 77, 78] (by decide +kernel) (by decide +kernel)
set_option maxRecDepth 20000 in
theorem gX4_potTold_X3_combers : GoodIn wsX4_potTold (wsV RX4 104 RX3 yX3_combers wsX3_combers) := goodIn_app (goodIn_of _ (by decide +kernel)) ggX4_potTold_X3_combers
set_option maxRecDepth 20000 in
theorem ggX4_potTold_X4_combed : GoodIn wsX4_potTold wsX4_combed := goodIn_r _ [25, 26, 1, 27, 28, 29, 5, 30, 31, 7, 32, 33, 34, 35, 36, 37, 38, 39, 40, 41, 42, 43, 12, 44, 45, 46, 47, 48, 49, 50, 51, 52, 53, 54, 55, 14, 15, 16, 17, 18, 19, 20, 8, 9, 10, 11, 56, 57, 58, 59, 60, 61, 62, 63, 64, 65, 66, 67, 68, 69, 70, 71, 72, 73, 74, 75, 76, 77, 78] (by decide +kernel) (by decide +kernel)
set_option maxRecDepth 20000 in
theorem gX4_potTold_X4_combed : GoodIn wsX4_potTold (wsV RX4 107 RX4 yX4_combed wsX4_combed) := goodIn_app (goodIn_of _ (by decide +kernel)) ggX4_potTold_X4_combed
theorem dX4_potTold_0 : decode cX4_potTold 0 = .ok (.iload_n 2, 1) := by decide +kernel
theorem dX4_potTold_1 : decode cX4_potTold 1 = .ok (.ifCond .ne 15, 3) := by decide +kernel
theorem dX4_potTold_4 : decode cX4_potTold 4 = .ok (.aload_n 0, 1) := by decide +kernel
theorem dX4_potTold_5 : decode cX4_potTold 5 = .ok (.getfield 22, 3) := by decide +kernel
theorem dX4_potTold_8 : decode cX4_potTold 8 = .ok (.getfield 101, 3) := by decide +kernel
theorem dX4_potTold_11 : decode cX4_potTold 11 = .ok (.iload_n 1, 1) := by decide +kernel
theorem dX4_potTold_12 : decode cX4_potTold 12 = .ok (.iaload, 1) := by decide +kernel
theorem dX4_potTold_13 : decode cX4_potTold 13 = .ok (.goto 40, 3) := by decide +kernel
theorem dX4_potTold_16 : decode cX4_potTold 16 = .ok (.iload_n 2, 1) := by decide +kernel
theorem dX4_potTold_17 : decode cX4_potTold 17 = .ok (.iconst 1, 1) := by decide +kernel
theorem dX4_potTold_18 : decode cX4_potTold 18 = .ok (.if_icmp .ne 14, 3) := by decide +kernel
theorem dX4_potTold_21 : decode cX4_potTold 21 = .ok (.aload_n 0, 1) := by decide +kernel
theorem dX4_potTold_22 : decode cX4_potTold 22 = .ok (.getfield 22, 3) := by decide +kernel
theorem dX4_potTold_25 : decode cX4_potTold 25 = .ok (.iload_n 1, 1) := by decide +kernel
theorem dX4_potTold_26 : decode cX4_potTold 26 = .ok (.invokevirtual 43, 3) := by decide +kernel
theorem dX4_potTold_29 : decode cX4_potTold 29 = .ok (.goto 24, 3) := by decide +kernel
theorem dX4_potTold_32 : decode cX4_potTold 32 = .ok (.iload_n 2, 1) := by decide +kernel
theorem dX4_potTold_33 : decode cX4_potTold 33 = .ok (.iconst 2, 1) := by decide +kernel
theorem dX4_potTold_34 : decode cX4_potTold 34 = .ok (.if_icmp .ne 14, 3) := by decide +kernel
theorem dX4_potTold_37 : decode cX4_potTold 37 = .ok (.aload_n 0, 1) := by decide +kernel
theorem dX4_potTold_38 : decode cX4_potTold 38 = .ok (.getfield 22, 3) := by decide +kernel
theorem dX4_potTold_41 : decode cX4_potTold 41 = .ok (.iload_n 1, 1) := by decide +kernel
theorem dX4_potTold_42 : decode cX4_potTold 42 = .ok (.invokevirtual 104, 3) := by decide +kernel
theorem dX4_potTold_45 : decode cX4_potTold 45 = .ok (.goto 8, 3) := by decide +kernel
theorem dX4_potTold_48 : decode cX4_potTold 48 = .ok (.aload_n 0, 1) := by decide +kernel
theorem dX4_potTold_49 : decode cX4_potTold 49 = .ok (.iload_n 1, 1) := by decide +kernel
theorem dX4_potTold_50 : decode cX4_potTold 50 = .ok (.invokevirtual 107, 3) := by decide +kernel
theorem dX4_potTold_53 : decode cX4_potTold 53 = .ok (.ireturn, 1) := by decide +kernel
set_option maxRecDepth 20000 in
theorem ggX4_pot_X4_isIn : GoodIn wsX4_pot wsX4_isIn := goodIn_r _ [5] (by decide +kernel) (by decide +kernel)
set_option maxRecDepth 20000 in
theorem gX4_pot_X4_isIn : GoodIn wsX4_pot (va_wsS RX4 35 yX4_isIn wsX4_isIn) := goodIn_app (goodIn_of _ (by decide +kernel)) ggX4_pot_X4_isIn
set_option maxRecDepth 20000 in
theorem ggX4_pot_X4_potTold : GoodIn wsX4_pot wsX4_potTold := goodIn_r _ [9, 10, 11, 12, 13, 14, 15, 16, 17, 18, 19, 20, 21, 22, 23, 24, 25, 26, 27, 28, 29, 30, 31, 32, 4, 33, 34, 35, 36, 37, 38, 39, 40, 41, 42, 43, 44, 45, 46, 47, 48, 49, 50, 51, 52, 53, 54, 55, 56, 57, 58, 59, 60, 61, 62, 63, 64, 65, 66, 67, 68, 69, 74, 75, 76, 77, 78, 79, 80, 81, 82, 83, 84, 85, 86, 87, 88, 89, 90] (by decide +kernel) (by decide +kernel)
set_option maxRecDepth 20000 in
theorem gX4_pot_X4_potTold : GoodIn wsX4_pot (wsV RX4 110 RX4 yX4_potTold wsX4_potTold) := goodIn_app (goodIn_of _ (by decide +kernel)) ggX4_pot_X4_potTold
set_option maxRecDepth 20000 in
theorem ggX4_pot_X4_no : GoodIn wsX4_pot wsX4_no := goodIn_r _ [73, 1, 74, 75, 76, 77, 78] (by decide +kernel) (by decide +kernel)
set_option maxRecDepth 20000 in
theorem gX4_pot_X4_no : GoodIn wsX4_pot (wsV RX4 47 RX4 yX4_no wsX4_no) := goodIn_app (goodIn_of _ (by decide +kernel)) ggX4_pot_X4_no
theorem dX4_pot_0 : decode cX4_pot 0 = .ok (.aload_n 0, 1) := by decide +kernel
theorem dX4_pot_1 : decode cX4_pot 1 = .ok (.iconst 0, 1) := by decide +kernel
theorem dX4_pot_2 : decode cX4_pot 2 = .ok (.putfield 29, 3) := by decide +kernel
theorem dX4_pot_5 : decode cX4_pot 5 = .ok (.iload_n 1, 1) := by decide +kernel
theorem dX4_pot_6 : decode cX4_pot 6 = .ok (.iconst 0, 1) := by decide +kernel
theorem dX4_pot_7 : decode cX4_pot 7 = .ok (.iconst 2, 1) := by decide +kernel
theorem dX4_pot_8 : decode cX4_pot 8 = .ok (.invokestatic 35, 3) := by decide +kernel
theorem dX4_pot_11 : decode cX4_pot 11 = .ok (.ifCond .eq 21, 3) := by decide +kernel
theorem dX4_pot_14 : decode cX4_pot 14 = .ok (.iload_n 2, 1) := by decide +kernel
theorem dX4_pot_15 : decode cX4_pot 15 = .ok (.iconst 0, 1) := by decide +kernel
theorem dX4_pot_16 : decode cX4_pot 16 = .ok (.iconst 3, 1) := by decide +kernel
theorem dX4_pot_17 : decode cX4_pot 17 = .ok (.invokestatic 35, 3) := by decide +kernel
theorem dX4_pot_20 : decode cX4_pot 20 = .ok (.ifCond .eq 12, 3) := by decide +kernel
theorem dX4_pot_23 : decode cX4_pot 23 = .ok (.aload_n 0, 1) := by decide +kernel
theorem dX4_pot_24 : decode cX4_pot 24 = .ok (.iload_n 1, 1) := by decide +kernel
theorem dX4_pot_25 : decode cX4_pot 25 = .ok (.iload_n 2, 1) := by decide +kernel
theorem dX4_pot_26 : decode cX4_pot 26 = .ok (.invokevirtual 110, 3) := by decide +kernel
theorem dX4_pot_29 : decode cX4_pot 29 = .ok (.goto 8, 3) := by decide +kernel
theorem dX4_pot_32 : decode cX4_pot 32 = .ok (.aload_n 0, 1) := by decide +kernel
theorem dX4_pot_33 : decode cX4_pot 33 = .ok (.iconst 1, 1) := by decide +kernel
theorem dX4_pot_34 : decode cX4_pot 34 = .ok (.invokevirtual 47, 3) := by decide +kernel
theorem dX4_pot_37 : decode cX4_pot 37 = .ok (.ireturn, 1) := by decide +kernel
set_option maxRecDepth 20000 in
theorem ggX4_counted_X3_many : GoodIn wsX4_counted wsX3_many := goodIn_r _ [5, 6, 7, 8, 9, 4, 10, 11, 16, 17, 18, 19, 20, 21, 22, 23, 24, 25, 26, 27] (by decide +kernel) (by decide +kernel)
set_option maxRecDepth 20000 in
theorem gX4_counted_X3_many : GoodIn wsX4_counted (wsV RX4 116 RX3 yX3_many wsX3_many) := goodIn_app (goodIn_of _ (by decide +kernel)) ggX4_counted_X3_many
set_option maxRecDepth 20000 in
theorem ggX4_counted_X3_all : GoodIn wsX4_counted wsX3_all := goodIn_r _ [15, 6, 7, 8, 9, 4, 10, 11, 16, 17, 18, 19, 20, 21, 22, 23, 24, 25, 26, 27] (by decide +kernel) (by decide +kernel)
set_option maxRecDepth 20000 in
theorem gX4_counted_X3_all : GoodIn wsX4_counted (wsV RX4 119 RX3 yX3_all wsX3_all) := goodIn_app (goodIn_of _ (by decide +kernel)) ggX4_counted_X3_all
theorem dX4_counted_0 : decode cX4_counted 0 = .ok (.iload_n 1, 1) := by decide +kernel
theorem dX4_counted_1 : decode cX4_counted 1 = .ok (.tableswitch 118 0 11 #[63, 68, 73, 73, 73, 81, 86, 91, 96, 101, 107, 113], 63) := by decide +kernel
theorem dX4_counted_64 : decode cX4_counted 64 = .ok (.aload_n 0, 1) := by decide +kernel
theorem dX4_counted_65 : decode cX4_counted 65 = .ok (.getfield 113, 3) := by decide +kernel
theorem dX4_counted_68 : decode cX4_counted 68 = .ok (.ireturn, 1) := by decide +kernel
theorem dX4_counted_69 : decode cX4_counted 69 = .ok (.aload_n 0, 1) := by decide +kernel
theorem dX4_counted_70 : decode cX4_counted 70 = .ok (.getfield 32, 3) := by decide +kernel
theorem dX4_counted_73 : decode cX4_counted 73 = .ok (.ireturn, 1) := by decide +kernel
theorem dX4_counted_74 : decode cX4_counted 74 = .ok (.aload_n 0, 1) := by decide +kernel
theorem dX4_counted_75 : decode cX4_counted 75 = .ok (.iload_n 1, 1) := by decide +kernel
theorem dX4_counted_76 : decode cX4_counted 76 = .ok (.iconst 2, 1) := by decide +kernel
theorem dX4_counted_77 : decode cX4_counted 77 = .ok (.isub, 1) := by decide +kernel
theorem dX4_counted_78 : decode cX4_counted 78 = .ok (.invokevirtual 116, 3) := by decide +kernel
theorem dX4_counted_81 : decode cX4_counted 81 = .ok (.ireturn, 1) := by decide +kernel
theorem dX4_counted_82 : decode cX4_counted 82 = .ok (.aload_n 0, 1) := by decide +kernel
theorem dX4_counted_83 : decode cX4_counted 83 = .ok (.getfield 76, 3) := by decide +kernel
theorem dX4_counted_86 : decode cX4_counted 86 = .ok (.ireturn, 1) := by decide +kernel
theorem dX4_counted_87 : decode cX4_counted 87 = .ok (.aload_n 0, 1) := by decide +kernel
theorem dX4_counted_88 : decode cX4_counted 88 = .ok (.getfield 79, 3) := by decide +kernel
theorem dX4_counted_91 : decode cX4_counted 91 = .ok (.ireturn, 1) := by decide +kernel
theorem dX4_counted_92 : decode cX4_counted 92 = .ok (.aload_n 0, 1) := by decide +kernel
theorem dX4_counted_93 : decode cX4_counted 93 = .ok (.getfield 82, 3) := by decide +kernel
theorem dX4_counted_96 : decode cX4_counted 96 = .ok (.ireturn, 1) := by decide +kernel
theorem dX4_counted_97 : decode cX4_counted 97 = .ok (.aload_n 0, 1) := by decide +kernel
theorem dX4_counted_98 : decode cX4_counted 98 = .ok (.getfield 85, 3) := by decide +kernel
theorem dX4_counted_101 : decode cX4_counted 101 = .ok (.ireturn, 1) := by decide +kernel
theorem dX4_counted_102 : decode cX4_counted 102 = .ok (.aload_n 0, 1) := by decide +kernel
theorem dX4_counted_103 : decode cX4_counted 103 = .ok (.iconst 2, 1) := by decide +kernel
theorem dX4_counted_104 : decode cX4_counted 104 = .ok (.invokevirtual 119, 3) := by decide +kernel
theorem dX4_counted_107 : decode cX4_counted 107 = .ok (.ireturn, 1) := by decide +kernel
theorem dX4_counted_108 : decode cX4_counted 108 = .ok (.aload_n 0, 1) := by decide +kernel
theorem dX4_counted_109 : decode cX4_counted 109 = .ok (.iconst 3, 1) := by decide +kernel
theorem dX4_counted_110 : decode cX4_counted 110 = .ok (.invokevirtual 119, 3) := by decide +kernel
theorem dX4_counted_113 : decode cX4_counted 113 = .ok (.ireturn, 1) := by decide +kernel
theorem dX4_counted_114 : decode cX4_counted 114 = .ok (.aload_n 0, 1) := by decide +kernel
theorem dX4_counted_115 : decode cX4_counted 115 = .ok (.getfield 122, 3) := by decide +kernel
theorem dX4_counted_118 : decode cX4_counted 118 = .ok (.ireturn, 1) := by decide +kernel
theorem dX4_counted_119 : decode cX4_counted 119 = .ok (.aload_n 0, 1) := by decide +kernel
theorem dX4_counted_120 : decode cX4_counted 120 = .ok (.getfield 125, 3) := by decide +kernel
theorem dX4_counted_123 : decode cX4_counted 123 = .ok (.ireturn, 1) := by decide +kernel
set_option maxRecDepth 20000 in
theorem ggX4_count_X4_isIn : GoodIn wsX4_count wsX4_isIn := goodIn_r _ [6] (by decide +kernel) (by decide +kernel)
set_option maxRecDepth 20000 in
theorem gX4_count_X4_isIn : GoodIn wsX4_count (va_wsS RX4 35 yX4_isIn wsX4_isIn) := goodIn_app (goodIn_of _ (by decide +kernel)) ggX4_count_X4_isIn
set_option maxRecDepth 20000 in
theorem ggX4_count_X4_counted : GoodIn wsX4_count wsX4_counted := goodIn_r _ [9, 10, 11, 12, 13, 14, 15, 16, 17, 18, 19, 20, 21, 22, 23, 24, 34, 35, 36, 37, 38, 39, 40, 41, 42, 43, 44, 45] (by decide +kernel) (by decide +kernel)
set_option maxRecDepth 20000 in
theorem gX4_count_X4_counted : GoodIn wsX4_count (va_wsS RX4 128 yX4_counted wsX4_counted) := goodIn_app (goodIn_of _ (by decide +kernel)) ggX4_count_X4_counted
set_option maxRecDepth 20000 in
theorem ggX4_count_X4_no : GoodIn wsX4_count wsX4_no := goodIn_r _ [28, 1, 29, 30, 31, 32, 33] (by decide +kernel) (by decide +kernel)
set_option maxRecDepth 20000 in
theorem gX4_count_X4_no : GoodIn wsX4_count (wsV RX4 47 RX4 yX4_no wsX4_no) := goodIn_app (goodIn_of _ (by decide +kernel)) ggX4_count_X4_no
theorem dX4_count_0 : decode cX4_count 0 = .ok (.aload_n 0, 1) := by decide +kernel
theorem dX4_count_1 : decode cX4_count 1 = .ok (.iconst 0, 1) := by decide +kernel
theorem dX4_count_2 : decode cX4_count 2 = .ok (.putfield 29, 3) := by decide +kernel
theorem dX4_count_5 : decode cX4_count 5 = .ok (.iload_n 1, 1) := by decide +kernel
theorem dX4_count_6 : decode cX4_count 6 = .ok (.iconst 0, 1) := by decide +kernel
theorem dX4_count_7 : decode cX4_count 7 = .ok (.bipush 12, 2) := by decide +kernel
theorem dX4_count_9 : decode cX4_count 9 = .ok (.invokestatic 35, 3) := by decide +kernel
theorem dX4_count_12 : decode cX4_count 12 = .ok (.ifCond .eq 14, 3) := by decide +kernel
theorem dX4_count_15 : decode cX4_count 15 = .ok (.aload_n 0, 1) := by decide +kernel
theorem dX4_count_16 : decode cX4_count 16 = .ok (.getfield 22, 3) := by decide +kernel
theorem dX4_count_19 : decode cX4_count 19 = .ok (.iload_n 1, 1) := by decide +kernel
theorem dX4_count_20 : decode cX4_count 20 = .ok (.invokestatic 128, 3) := by decide +kernel
theorem dX4_count_23 : decode cX4_count 23 = .ok (.goto 8, 3) := by decide +kernel
theorem dX4_count_26 : decode cX4_count 26 = .ok (.aload_n 0, 1) := by decide +kernel
theorem dX4_count_27 : decode cX4_count 27 = .ok (.iconst 1, 1) := by decide +kernel
theorem dX4_count_28 : decode cX4_count 28 = .ok (.invokevirtual 47, 3) := by decide +kernel
theorem dX4_count_31 : decode cX4_count 31 = .ok (.ireturn, 1) := by decide +kernel
set_option maxRecDepth 20000 in
theorem ggX4_pass_X4_isIn : GoodIn wsX4_pass wsX4_isIn := goodIn_r _ [6] (by decide +kernel) (by decide +kernel)
set_option maxRecDepth 20000 in
theorem gX4_pass_X4_isIn : GoodIn wsX4_pass (va_wsS RX4 35 yX4_isIn wsX4_isIn) := goodIn_app (goodIn_of _ (by decide +kernel)) ggX4_pass_X4_isIn
set_option maxRecDepth 20000 in
theorem ggX4_pass_X4_no : GoodIn wsX4_pass wsX4_no := goodIn_r _ [10, 1, 95, 96, 97, 98, 99] (by decide +kernel) (by decide +kernel)
set_option maxRecDepth 20000 in
theorem gX4_pass_X4_no : GoodIn wsX4_pass (wsV RX4 47 RX4 yX4_no wsX4_no) := goodIn_app (goodIn_of _ (by decide +kernel)) ggX4_pass_X4_no
set_option maxRecDepth 20000 in
theorem ggX4_pass_X3_pass : GoodIn wsX4_pass wsX3_pass := goodIn_r _ [15, 16, 17, 18, 19, 20, 14, 21, 22, 23, 24, 25, 26, 27, 28, 29, 30, 31, 32, 33, 34, 35, 36, 37, 38, 39, 40, 41, 42, 43, 44, 45, 46, 47, 48, 49, 50, 51, 52, 53, 54, 55, 56, 57, 58, 59, 60, 61, 62, 63, 64, 65, 66, 67, 68, 69, 70, 71, 72, 73, 74, 75, 76, 77, 78, 79, 80, 81, 82, 83, 84, 85, 86, 87, 88, 89, 90, 91, 92, 93, 94, 100, 101, 102, 103, 104, 105, 106, 107, 108, 109, 110, 111, 95, 96, 97, 98, 99] (by decide +kernel) (by decide +kernel)
set_option maxRecDepth 20000 in
theorem gX4_pass_X3_pass : GoodIn wsX4_pass (wsV RX4 132 RX3 yX3_pass wsX3_pass) := goodIn_app (goodIn_of _ (by decide +kernel)) ggX4_pass_X3_pass
theorem dX4_pass_0 : decode cX4_pass 0 = .ok (.aload_n 0, 1) := by decide +kernel
theorem dX4_pass_1 : decode cX4_pass 1 = .ok (.iconst 0, 1) := by decide +kernel
theorem dX4_pass_2 : decode cX4_pass 2 = .ok (.putfield 29, 3) := by decide +kernel
theorem dX4_pass_5 : decode cX4_pass 5 = .ok (.iload_n 1, 1) := by decide +kernel
theorem dX4_pass_6 : decode cX4_pass 6 = .ok (.iconst 1, 1) := by decide +kernel
theorem dX4_pass_7 : decode cX4_pass 7 = .ok (.bipush 60, 2) := by decide +kernel
theorem dX4_pass_9 : decode cX4_pass 9 = .ok (.invokestatic 35, 3) := by decide +kernel
theorem dX4_pass_12 : decode cX4_pass 12 = .ok (.ifCond .ne 9, 3) := by decide +kernel
theorem dX4_pass_15 : decode cX4_pass 15 = .ok (.aload_n 0, 1) := by decide +kernel
theorem dX4_pass_16 : decode cX4_pass 16 = .ok (.iconst 1, 1) := by decide +kernel
theorem dX4_pass_17 : decode cX4_pass 17 = .ok (.invokevirtual 47, 3) := by decide +kernel
theorem dX4_pass_20 : decode cX4_pass 20 = .ok (.ireturn, 1) := by decide +kernel
theorem dX4_pass_21 : decode cX4_pass 21 = .ok (.aload_n 0, 1) := by decide +kernel
theorem dX4_pass_22 : decode cX4_pass 22 = .ok (.getfield 22, 3) := by decide +kernel
theorem dX4_pass_25 : decode cX4_pass 25 = .ok (.getfield 76, 3) := by decide +kernel
theorem dX4_pass_28 : decode cX4_pass 28 = .ok (.istore_n 2, 1) := by decide +kernel
theorem dX4_pass_29 : decode cX4_pass 29 = .ok (.iconst 0, 1) := by decide +kernel
theorem dX4_pass_30 : decode cX4_pass 30 = .ok (.istore_n 3, 1) := by decide +kernel
theorem dX4_pass_31 : decode cX4_pass 31 = .ok (.iload_n 3, 1) := by decide +kernel
theorem dX4_pass_32 : decode cX4_pass 32 = .ok (.iload_n 1, 1) := by decide +kernel
theorem dX4_pass_33 : decode cX4_pass 33 = .ok (.if_icmp .ge 16, 3) := by decide +kernel
theorem dX4_pass_36 : decode cX4_pass 36 = .ok (.aload_n 0, 1) := by decide +kernel
theorem dX4_pass_37 : decode cX4_pass 37 = .ok (.getfield 22, 3) := by decide +kernel
theorem dX4_pass_40 : decode cX4_pass 40 = .ok (.invokevirtual 132, 3) := by decide +kernel
theorem dX4_pass_43 : decode cX4_pass 43 = .ok (.iinc 3 1, 3) := by decide +kernel
theorem dX4_pass_46 : decode cX4_pass 46 = .ok (.goto (-15), 3) := by decide +kernel
theorem dX4_pass_49 : decode cX4_pass 49 = .ok (.aload_n 0, 1) := by decide +kernel
theorem dX4_pass_50 : decode cX4_pass 50 = .ok (.getfield 22, 3) := by decide +kernel
theorem dX4_pass_53 : decode cX4_pass 53 = .ok (.getfield 76, 3) := by decide +kernel
theorem dX4_pass_56 : decode cX4_pass 56 = .ok (.iload_n 2, 1) := by decide +kernel
theorem dX4_pass_57 : decode cX4_pass 57 = .ok (.isub, 1) := by decide +kernel
theorem dX4_pass_58 : decode cX4_pass 58 = .ok (.ireturn, 1) := by decide +kernel
set_option maxRecDepth 20000 in
theorem ggX4_foresee_X4_isIn : GoodIn wsX4_foresee wsX4_isIn := goodIn_r _ [7] (by decide +kernel) (by decide +kernel)
set_option maxRecDepth 20000 in
theorem gX4_foresee_X4_isIn : GoodIn wsX4_foresee (va_wsS RX4 35 yX4_isIn wsX4_isIn) := goodIn_app (goodIn_of _ (by decide +kernel)) ggX4_foresee_X4_isIn
set_option maxRecDepth 20000 in
theorem ggX4_foresee_X4_no : GoodIn wsX4_foresee wsX4_no := goodIn_r _ [11, 1, 115, 116, 117, 118, 119] (by decide +kernel) (by decide +kernel)
set_option maxRecDepth 20000 in
theorem gX4_foresee_X4_no : GoodIn wsX4_foresee (wsV RX4 47 RX4 yX4_no wsX4_no) := goodIn_app (goodIn_of _ (by decide +kernel)) ggX4_foresee_X4_no
set_option maxRecDepth 20000 in
theorem ggX4_foresee_X3_become : GoodIn wsX4_foresee wsX3_become := goodIn_r _ [16, 17, 18, 19, 20, 21, 22, 23, 24, 25, 26, 27, 28, 29, 30, 31, 120, 121, 122, 123, 124, 125, 126, 127, 128, 129, 130, 131] (by decide +kernel) (by decide +kernel)
set_option maxRecDepth 20000 in
theorem gX4_foresee_X3_become : GoodIn wsX4_foresee (wsV RX4 88 RX3 yX3_become wsX3_become) := goodIn_app (goodIn_of _ (by decide +kernel)) ggX4_foresee_X3_become
set_option maxRecDepth 20000 in
theorem ggX4_foresee_X3_pass : GoodIn wsX4_foresee wsX3_pass := goodIn_r _ [35, 18, 17, 36, 37, 38, 15, 39, 20, 26, 40, 41, 42, 43, 44, 45, 46, 47, 48, 49, 50, 51, 52, 53, 54, 55, 56, 57, 58, 31, 59, 60, 61, 62, 21, 22, 63, 64, 65, 66, 67, 68, 69, 70, 71, 72, 73, 74, 75, 76, 77, 78, 79, 23, 80, 81, 82, 83, 84, 85, 86, 87, 19, 25, 88, 89, 90, 91, 92, 93, 94, 95, 96, 97, 98, 99, 100, 101, 102, 103, 24, 120, 121, 122, 123, 124, 125, 126, 127, 128, 129, 130, 131, 115, 116, 117, 118, 119] (by decide +kernel) (by decide +kernel)
set_option maxRecDepth 20000 in
theorem gX4_foresee_X3_pass : GoodIn wsX4_foresee (wsV RX4 132 RX3 yX3_pass wsX3_pass) := goodIn_app (goodIn_of _ (by decide +kernel)) ggX4_foresee_X3_pass
set_option maxRecDepth 20000 in
theorem ggX4_foresee_X4_counted : GoodIn wsX4_foresee wsX4_counted := goodIn_r _ [106, 107, 108, 109, 15, 110, 18, 55, 56, 57, 58, 31, 111, 112, 113, 114, 120, 121, 122, 123, 124, 125, 126, 127, 128, 129, 130, 131] (by decide +kernel) (by decide +kernel)
set_option maxRecDepth 20000 in
theorem gX4_foresee_X4_counted : GoodIn wsX4_foresee (va_wsS RX4 128 yX4_counted wsX4_counted) := goodIn_app (goodIn_of _ (by decide +kernel)) ggX4_foresee_X4_counted
theorem dX4_foresee_0 : decode cX4_foresee 0 = .ok (.aload_n 0, 1) := by decide +kernel
theorem dX4_foresee_1 : decode cX4_foresee 1 = .ok (.iconst 0, 1) := by decide +kernel
theorem dX4_foresee_2 : decode cX4_foresee 2 = .ok (.putfield 29, 3) := by decide +kernel
theorem dX4_foresee_5 : decode cX4_foresee 5 = .ok (.iload_n 1, 1) := by decide +kernel
theorem dX4_foresee_6 : decode cX4_foresee 6 = .ok (.iconst 1, 1) := by decide +kernel
theorem dX4_foresee_7 : decode cX4_foresee 7 = .ok (.bipush 60, 2) := by decide +kernel
theorem dX4_foresee_9 : decode cX4_foresee 9 = .ok (.invokestatic 35, 3) := by decide +kernel
theorem dX4_foresee_12 : decode cX4_foresee 12 = .ok (.ifCond .ne 9, 3) := by decide +kernel
theorem dX4_foresee_15 : decode cX4_foresee 15 = .ok (.aload_n 0, 1) := by decide +kernel
theorem dX4_foresee_16 : decode cX4_foresee 16 = .ok (.iconst 1, 1) := by decide +kernel
theorem dX4_foresee_17 : decode cX4_foresee 17 = .ok (.invokevirtual 47, 3) := by decide +kernel
theorem dX4_foresee_20 : decode cX4_foresee 20 = .ok (.ireturn, 1) := by decide +kernel
theorem dX4_foresee_21 : decode cX4_foresee 21 = .ok (.iload_n 2, 1) := by decide +kernel
theorem dX4_foresee_22 : decode cX4_foresee 22 = .ok (.iconst 2, 1) := by decide +kernel
theorem dX4_foresee_23 : decode cX4_foresee 23 = .ok (.bipush 8, 2) := by decide +kernel
theorem dX4_foresee_25 : decode cX4_foresee 25 = .ok (.invokestatic 35, 3) := by decide +kernel
theorem dX4_foresee_28 : decode cX4_foresee 28 = .ok (.ifCond .ne 9, 3) := by decide +kernel
theorem dX4_foresee_31 : decode cX4_foresee 31 = .ok (.aload_n 0, 1) := by decide +kernel
theorem dX4_foresee_32 : decode cX4_foresee 32 = .ok (.iconst 2, 1) := by decide +kernel
theorem dX4_foresee_33 : decode cX4_foresee 33 = .ok (.invokevirtual 47, 3) := by decide +kernel
theorem dX4_foresee_36 : decode cX4_foresee 36 = .ok (.ireturn, 1) := by decide +kernel
theorem dX4_foresee_37 : decode cX4_foresee 37 = .ok (.aload_n 0, 1) := by decide +kernel
theorem dX4_foresee_38 : decode cX4_foresee 38 = .ok (.getfield 26, 3) := by decide +kernel
theorem dX4_foresee_41 : decode cX4_foresee 41 = .ok (.aload_n 0, 1) := by decide +kernel
theorem dX4_foresee_42 : decode cX4_foresee 42 = .ok (.getfield 22, 3) := by decide +kernel
theorem dX4_foresee_45 : decode cX4_foresee 45 = .ok (.invokevirtual 88, 3) := by decide +kernel
theorem dX4_foresee_48 : decode cX4_foresee 48 = .ok (.iconst 0, 1) := by decide +kernel
theorem dX4_foresee_49 : decode cX4_foresee 49 = .ok (.istore_n 3, 1) := by decide +kernel
theorem dX4_foresee_50 : decode cX4_foresee 50 = .ok (.iload_n 3, 1) := by decide +kernel
theorem dX4_foresee_51 : decode cX4_foresee 51 = .ok (.iload_n 1, 1) := by decide +kernel
theorem dX4_foresee_52 : decode cX4_foresee 52 = .ok (.if_icmp .ge 16, 3) := by decide +kernel
theorem dX4_foresee_55 : decode cX4_foresee 55 = .ok (.aload_n 0, 1) := by decide +kernel
theorem dX4_foresee_56 : decode cX4_foresee 56 = .ok (.getfield 26, 3) := by decide +kernel
theorem dX4_foresee_59 : decode cX4_foresee 59 = .ok (.invokevirtual 132, 3) := by decide +kernel
theorem dX4_foresee_62 : decode cX4_foresee 62 = .ok (.iinc 3 1, 3) := by decide +kernel
theorem dX4_foresee_65 : decode cX4_foresee 65 = .ok (.goto (-15), 3) := by decide +kernel
theorem dX4_foresee_68 : decode cX4_foresee 68 = .ok (.aload_n 0, 1) := by decide +kernel
theorem dX4_foresee_69 : decode cX4_foresee 69 = .ok (.getfield 26, 3) := by decide +kernel
theorem dX4_foresee_72 : decode cX4_foresee 72 = .ok (.iload_n 2, 1) := by decide +kernel
theorem dX4_foresee_73 : decode cX4_foresee 73 = .ok (.invokestatic 128, 3) := by decide +kernel
theorem dX4_foresee_76 : decode cX4_foresee 76 = .ok (.ireturn, 1) := by decide +kernel
set_option maxRecDepth 20000 in
theorem ggX4_earns_X4_isMember : GoodIn wsX4_earns wsX4_isMember := goodIn_r _ [8, 3, 9, 10, 7, 11, 72, 73, 74, 75, 76, 77, 78, 79, 80, 81, 82, 83, 84, 85, 86, 87, 88] (by decide +kernel) (by decide +kernel)
set_option maxRecDepth 20000 in
theorem gX4_earns_X4_isMember : GoodIn wsX4_earns (wsV RX4 59 RX4 yX4_isMember wsX4_isMember) := goodIn_app (goodIn_of _ (by decide +kernel)) ggX4_earns_X4_isMember
set_option maxRecDepth 20000 in
theorem ggX4_earns_X4_no : GoodIn wsX4_earns wsX4_no := goodIn_r _ [15, 1, 72, 73, 74, 75, 76] (by decide +kernel) (by decide +kernel)
set_option maxRecDepth 20000 in
theorem gX4_earns_X4_no : GoodIn wsX4_earns (wsV RX4 47 RX4 yX4_no wsX4_no) := goodIn_app (goodIn_of _ (by decide +kernel)) ggX4_earns_X4_no
set_option maxRecDepth 20000 in
theorem ggX4_earns_X3_become : GoodIn wsX4_earns wsX3_become := goodIn_r _ [20, 21, 22, 23, 24, 25, 26, 27, 28, 29, 30, 31, 32, 33, 34, 35, 77, 78, 79, 80, 81, 82, 83, 84, 85, 86, 87, 88] (by decide +kernel) (by decide +kernel)
set_option maxRecDepth 20000 in
theorem gX4_earns_X3_become : GoodIn wsX4_earns (wsV RX4 88 RX3 yX3_become wsX3_become) := goodIn_app (goodIn_of _ (by decide +kernel)) ggX4_earns_X3_become
set_option maxRecDepth 20000 in
theorem ggX4_earns_X3_fire : GoodIn wsX4_earns wsX3_fire := goodIn_r _ [39, 24, 30, 40, 41, 42, 43, 44, 45, 46, 47, 48, 49, 19, 50, 22, 51, 52, 53, 54, 55, 56, 57, 58, 35, 77, 78, 79, 80, 81, 82, 83, 84, 85, 86, 87, 88] (by decide +kernel) (by decide +kernel)
set_option maxRecDepth 20000 in
theorem gX4_earns_X3_fire : GoodIn wsX4_earns (wsV RX4 92 RX3 yX3_fire wsX3_fire) := goodIn_app (goodIn_of _ (by decide +kernel)) ggX4_earns_X3_fire
set_option maxRecDepth 20000 in
theorem ggX4_earns_X3_comb : GoodIn wsX4_earns wsX3_comb := goodIn_r _ [62, 22, 25, 40, 41, 42, 43, 26, 51, 52, 53, 19, 54, 55, 56, 57, 58, 35, 63, 64, 65, 66, 30, 44, 45, 46, 47, 48, 49, 50, 67, 68, 69, 70, 77, 78, 79, 80, 81, 82, 83, 84, 85, 86, 87, 88] (by decide +kernel) (by decide +kernel)
set_option maxRecDepth 20000 in
theorem gX4_earns_X3_comb : GoodIn wsX4_earns (wsV RX4 135 RX3 yX3_comb wsX3_comb) := goodIn_app (goodIn_of _ (by decide +kernel)) ggX4_earns_X3_comb
set_option maxRecDepth 20000 in
theorem ggX4_earns_X3_of : GoodIn wsX4_earns wsX3_of := goodIn_r _ [58, 35, 77, 78, 79, 80, 81, 82, 83, 84, 85, 86, 87, 88] (by decide +kernel) (by decide +kernel)
set_option maxRecDepth 20000 in
theorem gX4_earns_X3_of : GoodIn wsX4_earns (wsV RX4 39 RX3 yX3_of wsX3_of) := goodIn_app (goodIn_of _ (by decide +kernel)) ggX4_earns_X3_of
theorem dX4_earns_0 : decode cX4_earns 0 = .ok (.aload_n 0, 1) := by decide +kernel
theorem dX4_earns_1 : decode cX4_earns 1 = .ok (.iconst 0, 1) := by decide +kernel
theorem dX4_earns_2 : decode cX4_earns 2 = .ok (.putfield 29, 3) := by decide +kernel
theorem dX4_earns_5 : decode cX4_earns 5 = .ok (.aload_n 0, 1) := by decide +kernel
theorem dX4_earns_6 : decode cX4_earns 6 = .ok (.iload_n 1, 1) := by decide +kernel
theorem dX4_earns_7 : decode cX4_earns 7 = .ok (.invokevirtual 59, 3) := by decide +kernel
theorem dX4_earns_10 : decode cX4_earns 10 = .ok (.ifCond .ne 9, 3) := by decide +kernel
theorem dX4_earns_13 : decode cX4_earns 13 = .ok (.aload_n 0, 1) := by decide +kernel
theorem dX4_earns_14 : decode cX4_earns 14 = .ok (.iconst 1, 1) := by decide +kernel
theorem dX4_earns_15 : decode cX4_earns 15 = .ok (.invokevirtual 47, 3) := by decide +kernel
theorem dX4_earns_18 : decode cX4_earns 18 = .ok (.ireturn, 1) := by decide +kernel
theorem dX4_earns_19 : decode cX4_earns 19 = .ok (.aload_n 0, 1) := by decide +kernel
theorem dX4_earns_20 : decode cX4_earns 20 = .ok (.getfield 26, 3) := by decide +kernel
theorem dX4_earns_23 : decode cX4_earns 23 = .ok (.aload_n 0, 1) := by decide +kernel
theorem dX4_earns_24 : decode cX4_earns 24 = .ok (.getfield 22, 3) := by decide +kernel
theorem dX4_earns_27 : decode cX4_earns 27 = .ok (.invokevirtual 88, 3) := by decide +kernel
theorem dX4_earns_30 : decode cX4_earns 30 = .ok (.aload_n 0, 1) := by decide +kernel
theorem dX4_earns_31 : decode cX4_earns 31 = .ok (.getfield 26, 3) := by decide +kernel
theorem dX4_earns_34 : decode cX4_earns 34 = .ok (.invokevirtual 92, 3) := by decide +kernel
theorem dX4_earns_37 : decode cX4_earns 37 = .ok (.aload_n 0, 1) := by decide +kernel
theorem dX4_earns_38 : decode cX4_earns 38 = .ok (.getfield 26, 3) := by decide +kernel
theorem dX4_earns_41 : decode cX4_earns 41 = .ok (.invokevirtual 135, 3) := by decide +kernel
theorem dX4_earns_44 : decode cX4_earns 44 = .ok (.aload_n 0, 1) := by decide +kernel
theorem dX4_earns_45 : decode cX4_earns 45 = .ok (.getfield 26, 3) := by decide +kernel
theorem dX4_earns_48 : decode cX4_earns 48 = .ok (.iload_n 1, 1) := by decide +kernel
theorem dX4_earns_49 : decode cX4_earns 49 = .ok (.iconst 2, 1) := by decide +kernel
theorem dX4_earns_50 : decode cX4_earns 50 = .ok (.invokevirtual 39, 3) := by decide +kernel
theorem dX4_earns_53 : decode cX4_earns 53 = .ok (.aload_n 0, 1) := by decide +kernel
theorem dX4_earns_54 : decode cX4_earns 54 = .ok (.getfield 22, 3) := by decide +kernel
theorem dX4_earns_57 : decode cX4_earns 57 = .ok (.iload_n 1, 1) := by decide +kernel
theorem dX4_earns_58 : decode cX4_earns 58 = .ok (.iconst 2, 1) := by decide +kernel
theorem dX4_earns_59 : decode cX4_earns 59 = .ok (.invokevirtual 39, 3) := by decide +kernel
theorem dX4_earns_62 : decode cX4_earns 62 = .ok (.isub, 1) := by decide +kernel
theorem dX4_earns_63 : decode cX4_earns 63 = .ok (.ireturn, 1) := by decide +kernel
set_option maxRecDepth 20000 in
theorem ggX4_dies_X4_isMember : GoodIn wsX4_dies wsX4_isMember := goodIn_r _ [8, 3, 9, 10, 7, 11, 109, 110, 111, 112, 113, 114, 115, 116, 117, 118, 119, 120, 121, 122, 123, 124, 125] (by decide +kernel) (by decide +kernel)
set_option maxRecDepth 20000 in
theorem gX4_dies_X4_isMember : GoodIn wsX4_dies (wsV RX4 59 RX4 yX4_isMember wsX4_isMember) := goodIn_app (goodIn_of _ (by decide +kernel)) ggX4_dies_X4_isMember
set_option maxRecDepth 20000 in
theorem ggX4_dies_X4_no : GoodIn wsX4_dies wsX4_no := goodIn_r _ [15, 1, 109, 110, 111, 112, 113] (by decide +kernel) (by decide +kernel)
set_option maxRecDepth 20000 in
theorem gX4_dies_X4_no : GoodIn wsX4_dies (wsV RX4 47 RX4 yX4_no wsX4_no) := goodIn_app (goodIn_of _ (by decide +kernel)) ggX4_dies_X4_no
set_option maxRecDepth 20000 in
theorem ggX4_dies_X3_become : GoodIn wsX4_dies wsX3_become := goodIn_r _ [20, 21, 22, 23, 24, 25, 26, 27, 28, 29, 30, 31, 32, 33, 34, 35, 114, 115, 116, 117, 118, 119, 120, 121, 122, 123, 124, 125] (by decide +kernel) (by decide +kernel)
set_option maxRecDepth 20000 in
theorem gX4_dies_X3_become : GoodIn wsX4_dies (wsV RX4 88 RX3 yX3_become wsX3_become) := goodIn_app (goodIn_of _ (by decide +kernel)) ggX4_dies_X3_become
set_option maxRecDepth 20000 in
theorem ggX4_dies_X3_of : GoodIn wsX4_dies wsX3_of := goodIn_r _ [39, 35, 114, 115, 116, 117, 118, 119, 120, 121, 122, 123, 124, 125] (by decide +kernel) (by decide +kernel)
set_option maxRecDepth 20000 in
theorem gX4_dies_X3_of : GoodIn wsX4_dies (wsV RX4 39 RX3 yX3_of wsX3_of) := goodIn_app (goodIn_of _ (by decide +kernel)) ggX4_dies_X3_of
set_option maxRecDepth 20000 in
theorem ggX4_dies_X3_pass : GoodIn wsX4_dies wsX3_pass := goodIn_r _ [43, 22, 21, 44, 45, 46, 19, 47, 24, 30, 48, 49, 50, 51, 52, 53, 54, 55, 56, 57, 58, 59, 60, 61, 62, 63, 37, 38, 39, 35, 64, 65, 66, 67, 25, 26, 68, 69, 70, 71, 72, 73, 74, 75, 76, 77, 78, 79, 80, 81, 82, 83, 84, 27, 85, 86, 87, 88, 89, 90, 91, 92, 23, 29, 93, 94, 95, 96, 97, 98, 99, 100, 101, 102, 103, 104, 105, 106, 107, 108, 28, 114, 115, 116, 117, 118, 119, 120, 121, 122, 123, 124, 125, 109, 110, 111, 112, 113] (by decide +kernel) (by decide +kernel)
set_option maxRecDepth 20000 in
theorem gX4_dies_X3_pass : GoodIn wsX4_dies (wsV RX4 132 RX3 yX3_pass wsX3_pass) := goodIn_app (goodIn_of _ (by decide +kernel)) ggX4_dies_X3_pass
theorem dX4_dies_0 : decode cX4_dies 0 = .ok (.aload_n 0, 1) := by decide +kernel
theorem dX4_dies_1 : decode cX4_dies 1 = .ok (.iconst 0, 1) := by decide +kernel
theorem dX4_dies_2 : decode cX4_dies 2 = .ok (.putfield 29, 3) := by decide +kernel
theorem dX4_dies_5 : decode cX4_dies 5 = .ok (.aload_n 0, 1) := by decide +kernel
theorem dX4_dies_6 : decode cX4_dies 6 = .ok (.iload_n 1, 1) := by decide +kernel
theorem dX4_dies_7 : decode cX4_dies 7 = .ok (.invokevirtual 59, 3) := by decide +kernel
theorem dX4_dies_10 : decode cX4_dies 10 = .ok (.ifCond .ne 9, 3) := by decide +kernel
theorem dX4_dies_13 : decode cX4_dies 13 = .ok (.aload_n 0, 1) := by decide +kernel
theorem dX4_dies_14 : decode cX4_dies 14 = .ok (.iconst 1, 1) := by decide +kernel
theorem dX4_dies_15 : decode cX4_dies 15 = .ok (.invokevirtual 47, 3) := by decide +kernel
theorem dX4_dies_18 : decode cX4_dies 18 = .ok (.ireturn, 1) := by decide +kernel
theorem dX4_dies_19 : decode cX4_dies 19 = .ok (.aload_n 0, 1) := by decide +kernel
theorem dX4_dies_20 : decode cX4_dies 20 = .ok (.getfield 26, 3) := by decide +kernel
theorem dX4_dies_23 : decode cX4_dies 23 = .ok (.aload_n 0, 1) := by decide +kernel
theorem dX4_dies_24 : decode cX4_dies 24 = .ok (.getfield 22, 3) := by decide +kernel
theorem dX4_dies_27 : decode cX4_dies 27 = .ok (.invokevirtual 88, 3) := by decide +kernel
theorem dX4_dies_30 : decode cX4_dies 30 = .ok (.iconst 0, 1) := by decide +kernel
theorem dX4_dies_31 : decode cX4_dies 31 = .ok (.istore_n 2, 1) := by decide +kernel
theorem dX4_dies_32 : decode cX4_dies 32 = .ok (.iload_n 2, 1) := by decide +kernel
theorem dX4_dies_33 : decode cX4_dies 33 = .ok (.bipush 100, 2) := by decide +kernel
theorem dX4_dies_35 : decode cX4_dies 35 = .ok (.if_icmp .gt 32, 3) := by decide +kernel
theorem dX4_dies_38 : decode cX4_dies 38 = .ok (.aload_n 0, 1) := by decide +kernel
theorem dX4_dies_39 : decode cX4_dies 39 = .ok (.getfield 26, 3) := by decide +kernel
theorem dX4_dies_42 : decode cX4_dies 42 = .ok (.iload_n 1, 1) := by decide +kernel
theorem dX4_dies_43 : decode cX4_dies 43 = .ok (.bipush 6, 2) := by decide +kernel
theorem dX4_dies_45 : decode cX4_dies 45 = .ok (.invokevirtual 39, 3) := by decide +kernel
theorem dX4_dies_48 : decode cX4_dies 48 = .ok (.iconst 2, 1) := by decide +kernel
theorem dX4_dies_49 : decode cX4_dies 49 = .ok (.if_icmp .ne 5, 3) := by decide +kernel
theorem dX4_dies_52 : decode cX4_dies 52 = .ok (.iload_n 2, 1) := by decide +kernel
theorem dX4_dies_53 : decode cX4_dies 53 = .ok (.ireturn, 1) := by decide +kernel
theorem dX4_dies_54 : decode cX4_dies 54 = .ok (.aload_n 0, 1) := by decide +kernel
theorem dX4_dies_55 : decode cX4_dies 55 = .ok (.getfield 26, 3) := by decide +kernel
theorem dX4_dies_58 : decode cX4_dies 58 = .ok (.invokevirtual 132, 3) := by decide +kernel
theorem dX4_dies_61 : decode cX4_dies 61 = .ok (.iinc 2 1, 3) := by decide +kernel
theorem dX4_dies_64 : decode cX4_dies 64 = .ok (.goto (-32), 3) := by decide +kernel
theorem dX4_dies_67 : decode cX4_dies 67 = .ok (.iconst (-1), 1) := by decide +kernel
theorem dX4_dies_68 : decode cX4_dies 68 = .ok (.ireturn, 1) := by decide +kernel
set_option maxRecDepth 20000 in
theorem ggX4_lasts_X3_become : GoodIn wsX4_lasts wsX3_become := goodIn_r _ [8, 9, 10, 11, 12, 13, 14, 15, 16, 17, 18, 19, 20, 21, 22, 23, 101, 102, 103, 104, 105, 106, 107, 108, 109, 110, 111, 112] (by decide +kernel) (by decide +kernel)
set_option maxRecDepth 20000 in
theorem gX4_lasts_X3_become : GoodIn wsX4_lasts (wsV RX4 88 RX3 yX3_become wsX3_become) := goodIn_app (goodIn_of _ (by decide +kernel)) ggX4_lasts_X3_become
set_option maxRecDepth 20000 in
theorem ggX4_lasts_X3_pass : GoodIn wsX4_lasts wsX3_pass := goodIn_r _ [27, 10, 9, 28, 29, 30, 7, 31, 12, 18, 32, 33, 34, 35, 36, 37, 38, 39, 40, 41, 42, 43, 44, 45, 46, 47, 48, 49, 50, 23, 51, 52, 53, 54, 13, 14, 55, 56, 57, 58, 59, 60, 61, 62, 63, 64, 65, 66, 67, 68, 69, 70, 71, 15, 72, 73, 74, 75, 76, 77, 78, 79, 11, 17, 80, 81, 82, 83, 84, 85, 86, 87, 88, 89, 90, 91, 92, 93, 94, 95, 16, 101, 102, 103, 104, 105, 106, 107, 108, 109, 110, 111, 112, 96, 97, 98, 99, 100] (by decide +kernel) (by decide +kernel)
set_option maxRecDepth 20000 in
theorem gX4_lasts_X3_pass : GoodIn wsX4_lasts (wsV RX4 132 RX3 yX3_pass wsX3_pass) := goodIn_app (goodIn_of _ (by decide +kernel)) ggX4_lasts_X3_pass
theorem dX4_lasts_0 : decode cX4_lasts 0 = .ok (.aload_n 0, 1) := by decide +kernel
theorem dX4_lasts_1 : decode cX4_lasts 1 = .ok (.iconst 0, 1) := by decide +kernel
theorem dX4_lasts_2 : decode cX4_lasts 2 = .ok (.putfield 29, 3) := by decide +kernel
theorem dX4_lasts_5 : decode cX4_lasts 5 = .ok (.aload_n 0, 1) := by decide +kernel
theorem dX4_lasts_6 : decode cX4_lasts 6 = .ok (.getfield 26, 3) := by decide +kernel
theorem dX4_lasts_9 : decode cX4_lasts 9 = .ok (.aload_n 0, 1) := by decide +kernel
theorem dX4_lasts_10 : decode cX4_lasts 10 = .ok (.getfield 22, 3) := by decide +kernel
theorem dX4_lasts_13 : decode cX4_lasts 13 = .ok (.invokevirtual 88, 3) := by decide +kernel
theorem dX4_lasts_16 : decode cX4_lasts 16 = .ok (.iconst 1, 1) := by decide +kernel
theorem dX4_lasts_17 : decode cX4_lasts 17 = .ok (.istore_n 1, 1) := by decide +kernel
theorem dX4_lasts_18 : decode cX4_lasts 18 = .ok (.iload_n 1, 1) := by decide +kernel
theorem dX4_lasts_19 : decode cX4_lasts 19 = .ok (.bipush 100, 2) := by decide +kernel
theorem dX4_lasts_21 : decode cX4_lasts 21 = .ok (.if_icmp .gt 28, 3) := by decide +kernel
theorem dX4_lasts_24 : decode cX4_lasts 24 = .ok (.aload_n 0, 1) := by decide +kernel
theorem dX4_lasts_25 : decode cX4_lasts 25 = .ok (.getfield 26, 3) := by decide +kernel
theorem dX4_lasts_28 : decode cX4_lasts 28 = .ok (.invokevirtual 132, 3) := by decide +kernel
theorem dX4_lasts_31 : decode cX4_lasts 31 = .ok (.aload_n 0, 1) := by decide +kernel
theorem dX4_lasts_32 : decode cX4_lasts 32 = .ok (.getfield 26, 3) := by decide +kernel
theorem dX4_lasts_35 : decode cX4_lasts 35 = .ok (.getfield 138, 3) := by decide +kernel
theorem dX4_lasts_38 : decode cX4_lasts 38 = .ok (.ifCond .eq 5, 3) := by decide +kernel
theorem dX4_lasts_41 : decode cX4_lasts 41 = .ok (.iload_n 1, 1) := by decide +kernel
theorem dX4_lasts_42 : decode cX4_lasts 42 = .ok (.ireturn, 1) := by decide +kernel
theorem dX4_lasts_43 : decode cX4_lasts 43 = .ok (.iinc 1 1, 3) := by decide +kernel
theorem dX4_lasts_46 : decode cX4_lasts 46 = .ok (.goto (-28), 3) := by decide +kernel
theorem dX4_lasts_49 : decode cX4_lasts 49 = .ok (.iconst (-1), 1) := by decide +kernel
theorem dX4_lasts_50 : decode cX4_lasts 50 = .ok (.ireturn, 1) := by decide +kernel
set_option maxRecDepth 20000 in
theorem ggX4_advise_X4_isMember : GoodIn wsX4_advise wsX4_isMember := goodIn_r _ [8, 3, 9, 10, 7, 11, 122, 123, 124, 125, 126, 127, 128, 129, 130, 131, 132, 133, 134, 135, 136, 137, 138] (by decide +kernel) (by decide +kernel)
set_option maxRecDepth 20000 in
theorem gX4_advise_X4_isMember : GoodIn wsX4_advise (wsV RX4 59 RX4 yX4_isMember wsX4_isMember) := goodIn_app (goodIn_of _ (by decide +kernel)) ggX4_advise_X4_isMember
set_option maxRecDepth 20000 in
theorem ggX4_advise_X4_no : GoodIn wsX4_advise wsX4_no := goodIn_r _ [15, 1, 122, 123, 124, 125, 126] (by decide +kernel) (by decide +kernel)
set_option maxRecDepth 20000 in
theorem gX4_advise_X4_no : GoodIn wsX4_advise (wsV RX4 47 RX4 yX4_no wsX4_no) := goodIn_app (goodIn_of _ (by decide +kernel)) ggX4_advise_X4_no
set_option maxRecDepth 20000 in
theorem ggX4_advise_X4_isDead : GoodIn wsX4_advise wsX4_isDead := goodIn_r _ [19, 3, 20, 21, 22, 23, 24, 25, 122, 123, 124, 125, 126, 127, 128, 129, 130, 131, 132, 133, 134, 135, 136, 137, 138] (by decide +kernel) (by decide +kernel)
set_option maxRecDepth 20000 in
theorem gX4_advise_X4_isDead : GoodIn wsX4_advise (wsV RX4 63 RX4 yX4_isDead wsX4_isDead) := goodIn_app (goodIn_of _ (by decide +kernel)) ggX4_advise_X4_isDead
set_option maxRecDepth 20000 in
theorem ggX4_advise_X4_others : GoodIn wsX4_advise wsX4_others := goodIn_r _ [29, 3, 30, 31, 32, 23, 33, 34, 35, 21, 22, 24, 25, 20, 122, 123, 124, 125, 126, 127, 128, 129, 130, 131, 132, 133, 134, 135, 136, 137, 138] (by decide +kernel) (by decide +kernel)
set_option maxRecDepth 20000 in
theorem gX4_advise_X4_others : GoodIn wsX4_advise (wsV RX4 66 RX4 yX4_others wsX4_others) := goodIn_app (goodIn_of _ (by decide +kernel)) ggX4_advise_X4_others
set_option maxRecDepth 20000 in
theorem ggX4_advise_X3_become : GoodIn wsX4_advise wsX3_become := goodIn_r _ [39, 40, 34, 41, 42, 43, 44, 45, 46, 47, 48, 49, 50, 51, 52, 25, 127, 128, 129, 130, 131, 132, 133, 134, 135, 136, 137, 138] (by decide +kernel) (by decide +kernel)
set_option maxRecDepth 20000 in
theorem gX4_advise_X3_become : GoodIn wsX4_advise (wsV RX4 88 RX3 yX3_become wsX3_become) := goodIn_app (goodIn_of _ (by decide +kernel)) ggX4_advise_X3_become
set_option maxRecDepth 20000 in
theorem ggX4_advise_X3_set : GoodIn wsX4_advise wsX3_set := goodIn_r _ [56, 25, 127, 128, 129, 130, 131, 132, 133, 134, 135, 136, 137, 138] (by decide +kernel) (by decide +kernel)
set_option maxRecDepth 20000 in
theorem gX4_advise_X3_set : GoodIn wsX4_advise (wsV RX4 69 RX3 yX3_set wsX3_set) := goodIn_app (goodIn_of _ (by decide +kernel)) ggX4_advise_X3_set
set_option maxRecDepth 20000 in
theorem ggX4_advise_X3_pass : GoodIn wsX4_advise wsX3_pass := goodIn_r _ [60, 34, 40, 61, 62, 63, 23, 64, 42, 48, 65, 66, 67, 68, 69, 70, 71, 72, 73, 74, 75, 76, 77, 78, 79, 35, 21, 22, 24, 25, 80, 81, 82, 83, 43, 44, 84, 85, 86, 87, 88, 54, 55, 56, 89, 90, 91, 92, 93, 94, 95, 96, 97, 45, 98, 99, 100, 101, 102, 103, 104, 105, 41, 47, 106, 107, 108, 109, 110, 111, 112, 113, 114, 115, 116, 117, 118, 119, 120, 121, 46, 127, 128, 129, 130, 131, 132, 133, 134, 135, 136, 137, 138, 122, 123, 124, 125, 126] (by decide +kernel) (by decide +kernel)
set_option maxRecDepth 20000 in
theorem gX4_advise_X3_pass : GoodIn wsX4_advise (wsV RX4 132 RX3 yX3_pass wsX3_pass) := goodIn_app (goodIn_of _ (by decide +kernel)) ggX4_advise_X3_pass
theorem dX4_advise_0 : decode cX4_advise 0 = .ok (.aload_n 0, 1) := by decide +kernel
theorem dX4_advise_1 : decode cX4_advise 1 = .ok (.iconst 0, 1) := by decide +kernel
theorem dX4_advise_2 : decode cX4_advise 2 = .ok (.putfield 29, 3) := by decide +kernel
theorem dX4_advise_5 : decode cX4_advise 5 = .ok (.aload_n 0, 1) := by decide +kernel
theorem dX4_advise_6 : decode cX4_advise 6 = .ok (.iload_n 1, 1) := by decide +kernel
theorem dX4_advise_7 : decode cX4_advise 7 = .ok (.invokevirtual 59, 3) := by decide +kernel
theorem dX4_advise_10 : decode cX4_advise 10 = .ok (.ifCond .ne 9, 3) := by decide +kernel
theorem dX4_advise_13 : decode cX4_advise 13 = .ok (.aload_n 0, 1) := by decide +kernel
theorem dX4_advise_14 : decode cX4_advise 14 = .ok (.iconst 1, 1) := by decide +kernel
theorem dX4_advise_15 : decode cX4_advise 15 = .ok (.invokevirtual 47, 3) := by decide +kernel
theorem dX4_advise_18 : decode cX4_advise 18 = .ok (.ireturn, 1) := by decide +kernel
theorem dX4_advise_19 : decode cX4_advise 19 = .ok (.aload_n 0, 1) := by decide +kernel
theorem dX4_advise_20 : decode cX4_advise 20 = .ok (.iload_n 1, 1) := by decide +kernel
theorem dX4_advise_21 : decode cX4_advise 21 = .ok (.invokevirtual 63, 3) := by decide +kernel
theorem dX4_advise_24 : decode cX4_advise 24 = .ok (.ifCond .eq 9, 3) := by decide +kernel
theorem dX4_advise_27 : decode cX4_advise 27 = .ok (.aload_n 0, 1) := by decide +kernel
theorem dX4_advise_28 : decode cX4_advise 28 = .ok (.iconst 2, 1) := by decide +kernel
theorem dX4_advise_29 : decode cX4_advise 29 = .ok (.invokevirtual 47, 3) := by decide +kernel
theorem dX4_advise_32 : decode cX4_advise 32 = .ok (.ireturn, 1) := by decide +kernel
theorem dX4_advise_33 : decode cX4_advise 33 = .ok (.iconst (-1), 1) := by decide +kernel
theorem dX4_advise_34 : decode cX4_advise 34 = .ok (.istore_n 2, 1) := by decide +kernel
theorem dX4_advise_35 : decode cX4_advise 35 = .ok (.iconst (-1), 1) := by decide +kernel
theorem dX4_advise_36 : decode cX4_advise 36 = .ok (.istore_n 3, 1) := by decide +kernel
theorem dX4_advise_37 : decode cX4_advise 37 = .ok (.iconst 0, 1) := by decide +kernel
theorem dX4_advise_38 : decode cX4_advise 38 = .ok (.istore 4, 2) := by decide +kernel
theorem dX4_advise_40 : decode cX4_advise 40 = .ok (.iload 4, 2) := by decide +kernel
theorem dX4_advise_42 : decode cX4_advise 42 = .ok (.iconst 3, 1) := by decide +kernel
theorem dX4_advise_43 : decode cX4_advise 43 = .ok (.if_icmp .ge 93, 3) := by decide +kernel
theorem dX4_advise_46 : decode cX4_advise 46 = .ok (.aload_n 0, 1) := by decide +kernel
theorem dX4_advise_47 : decode cX4_advise 47 = .ok (.iload_n 1, 1) := by decide +kernel
theorem dX4_advise_48 : decode cX4_advise 48 = .ok (.iload 4, 2) := by decide +kernel
theorem dX4_advise_50 : decode cX4_advise 50 = .ok (.invokevirtual 66, 3) := by decide +kernel
theorem dX4_advise_53 : decode cX4_advise 53 = .ok (.iconst 4, 1) := by decide +kernel
theorem dX4_advise_54 : decode cX4_advise 54 = .ok (.if_icmp .lt 6, 3) := by decide +kernel
theorem dX4_advise_57 : decode cX4_advise 57 = .ok (.goto 73, 3) := by decide +kernel
theorem dX4_advise_60 : decode cX4_advise 60 = .ok (.aload_n 0, 1) := by decide +kernel
theorem dX4_advise_61 : decode cX4_advise 61 = .ok (.getfield 26, 3) := by decide +kernel
theorem dX4_advise_64 : decode cX4_advise 64 = .ok (.aload_n 0, 1) := by decide +kernel
theorem dX4_advise_65 : decode cX4_advise 65 = .ok (.getfield 22, 3) := by decide +kernel
theorem dX4_advise_68 : decode cX4_advise 68 = .ok (.invokevirtual 88, 3) := by decide +kernel
theorem dX4_advise_71 : decode cX4_advise 71 = .ok (.aload_n 0, 1) := by decide +kernel
theorem dX4_advise_72 : decode cX4_advise 72 = .ok (.getfield 26, 3) := by decide +kernel
theorem dX4_advise_75 : decode cX4_advise 75 = .ok (.iload_n 1, 1) := by decide +kernel
theorem dX4_advise_76 : decode cX4_advise 76 = .ok (.iconst 5, 1) := by decide +kernel
theorem dX4_advise_77 : decode cX4_advise 77 = .ok (.iload 4, 2) := by decide +kernel
theorem dX4_advise_79 : decode cX4_advise 79 = .ok (.invokevirtual 69, 3) := by decide +kernel
theorem dX4_advise_82 : decode cX4_advise 82 = .ok (.iconst 0, 1) := by decide +kernel
theorem dX4_advise_83 : decode cX4_advise 83 = .ok (.istore 5, 2) := by decide +kernel
theorem dX4_advise_85 : decode cX4_advise 85 = .ok (.iload 5, 2) := by decide +kernel
theorem dX4_advise_87 : decode cX4_advise 87 = .ok (.bipush 6, 2) := by decide +kernel
theorem dX4_advise_89 : decode cX4_advise 89 = .ok (.if_icmp .ge 16, 3) := by decide +kernel
theorem dX4_advise_92 : decode cX4_advise 92 = .ok (.aload_n 0, 1) := by decide +kernel
theorem dX4_advise_93 : decode cX4_advise 93 = .ok (.getfield 26, 3) := by decide +kernel
theorem dX4_advise_96 : decode cX4_advise 96 = .ok (.invokevirtual 132, 3) := by decide +kernel
theorem dX4_advise_99 : decode cX4_advise 99 = .ok (.iinc 5 1, 3) := by decide +kernel
theorem dX4_advise_102 : decode cX4_advise 102 = .ok (.goto (-17), 3) := by decide +kernel
theorem dX4_advise_105 : decode cX4_advise 105 = .ok (.aload_n 0, 1) := by decide +kernel
theorem dX4_advise_106 : decode cX4_advise 106 = .ok (.getfield 26, 3) := by decide +kernel
theorem dX4_advise_109 : decode cX4_advise 109 = .ok (.getfield 85, 3) := by decide +kernel
theorem dX4_advise_112 : decode cX4_advise 112 = .ok (.iload_n 3, 1) := by decide +kernel
theorem dX4_advise_113 : decode cX4_advise 113 = .ok (.if_icmp .gt 6, 3) := by decide +kernel
theorem dX4_advise_116 : decode cX4_advise 116 = .ok (.goto 14, 3) := by decide +kernel
theorem dX4_advise_119 : decode cX4_advise 119 = .ok (.iload 4, 2) := by decide +kernel
theorem dX4_advise_121 : decode cX4_advise 121 = .ok (.istore_n 2, 1) := by decide +kernel
theorem dX4_advise_122 : decode cX4_advise 122 = .ok (.aload_n 0, 1) := by decide +kernel
theorem dX4_advise_123 : decode cX4_advise 123 = .ok (.getfield 26, 3) := by decide +kernel
theorem dX4_advise_126 : decode cX4_advise 126 = .ok (.getfield 85, 3) := by decide +kernel
theorem dX4_advise_129 : decode cX4_advise 129 = .ok (.istore_n 3, 1) := by decide +kernel
theorem dX4_advise_130 : decode cX4_advise 130 = .ok (.iinc 4 1, 3) := by decide +kernel
theorem dX4_advise_133 : decode cX4_advise 133 = .ok (.goto (-93), 3) := by decide +kernel
theorem dX4_advise_136 : decode cX4_advise 136 = .ok (.iload_n 2, 1) := by decide +kernel
theorem dX4_advise_137 : decode cX4_advise 137 = .ok (.ireturn, 1) := by decide +kernel
set_option maxRecDepth 20000 in
theorem ggX4_mean_X3_many : GoodIn wsX4_mean wsX3_many := goodIn_r _ [7, 8, 9, 10, 11, 6, 12, 13, 23, 24, 25, 26, 27, 28, 29, 30, 31, 32, 33, 34] (by decide +kernel) (by decide +kernel)
set_option maxRecDepth 20000 in
theorem gX4_mean_X3_many : GoodIn wsX4_mean (wsV RX4 116 RX3 yX3_many wsX3_many) := goodIn_app (goodIn_of _ (by decide +kernel)) ggX4_mean_X3_many
set_option maxRecDepth 20000 in
theorem ggX4_mean_X3_all : GoodIn wsX4_mean wsX3_all := goodIn_r _ [17, 8, 9, 10, 11, 6, 12, 13, 23, 24, 25, 26, 27, 28, 29, 30, 31, 32, 33, 34] (by decide +kernel) (by decide +kernel)
set_option maxRecDepth 20000 in
theorem gX4_mean_X3_all : GoodIn wsX4_mean (wsV RX4 119 RX3 yX3_all wsX3_all) := goodIn_app (goodIn_of _ (by decide +kernel)) ggX4_mean_X3_all
theorem dX4_mean_0 : decode cX4_mean 0 = .ok (.aload_n 0, 1) := by decide +kernel
theorem dX4_mean_1 : decode cX4_mean 1 = .ok (.iconst 0, 1) := by decide +kernel
theorem dX4_mean_2 : decode cX4_mean 2 = .ok (.putfield 29, 3) := by decide +kernel
theorem dX4_mean_5 : decode cX4_mean 5 = .ok (.aload_n 0, 1) := by decide +kernel
theorem dX4_mean_6 : decode cX4_mean 6 = .ok (.getfield 22, 3) := by decide +kernel
theorem dX4_mean_9 : decode cX4_mean 9 = .ok (.getfield 32, 3) := by decide +kernel
theorem dX4_mean_12 : decode cX4_mean 12 = .ok (.aload_n 0, 1) := by decide +kernel
theorem dX4_mean_13 : decode cX4_mean 13 = .ok (.getfield 22, 3) := by decide +kernel
theorem dX4_mean_16 : decode cX4_mean 16 = .ok (.iconst 2, 1) := by decide +kernel
theorem dX4_mean_17 : decode cX4_mean 17 = .ok (.invokevirtual 116, 3) := by decide +kernel
theorem dX4_mean_20 : decode cX4_mean 20 = .ok (.isub, 1) := by decide +kernel
theorem dX4_mean_21 : decode cX4_mean 21 = .ok (.istore_n 1, 1) := by decide +kernel
theorem dX4_mean_22 : decode cX4_mean 22 = .ok (.iload_n 1, 1) := by decide +kernel
theorem dX4_mean_23 : decode cX4_mean 23 = .ok (.ifCond .ne 7, 3) := by decide +kernel
theorem dX4_mean_26 : decode cX4_mean 26 = .ok (.dconst 0, 1) := by decide +kernel
theorem dX4_mean_27 : decode cX4_mean 27 = .ok (.goto 15, 3) := by decide +kernel
theorem dX4_mean_30 : decode cX4_mean 30 = .ok (.aload_n 0, 1) := by decide +kernel
theorem dX4_mean_31 : decode cX4_mean 31 = .ok (.getfield 22, 3) := by decide +kernel
theorem dX4_mean_34 : decode cX4_mean 34 = .ok (.iconst 1, 1) := by decide +kernel
theorem dX4_mean_35 : decode cX4_mean 35 = .ok (.invokevirtual 119, 3) := by decide +kernel
theorem dX4_mean_38 : decode cX4_mean 38 = .ok (.i2d, 1) := by decide +kernel
theorem dX4_mean_39 : decode cX4_mean 39 = .ok (.iload_n 1, 1) := by decide +kernel
theorem dX4_mean_40 : decode cX4_mean 40 = .ok (.i2d, 1) := by decide +kernel
theorem dX4_mean_41 : decode cX4_mean 41 = .ok (.ddiv, 1) := by decide +kernel
theorem dX4_mean_42 : decode cX4_mean 42 = .ok (.dreturn, 1) := by decide +kernel
set_option maxRecDepth 20000 in
theorem ggX4_digest_X4_counted : GoodIn wsX4_digest wsX4_counted := goodIn_r _ [10, 11, 12, 13, 14, 15, 16, 17, 18, 19, 20, 21, 22, 23, 24, 25, 87, 88, 89, 90, 91, 92, 93, 94, 95, 96, 97, 98] (by decide +kernel) (by decide +kernel)
set_option maxRecDepth 20000 in
theorem gX4_digest_X4_counted : GoodIn wsX4_digest (va_wsS RX4 128 yX4_counted wsX4_counted) := goodIn_app (goodIn_of _ (by decide +kernel)) ggX4_digest_X4_counted
set_option maxRecDepth 20000 in
theorem ggX4_digest_X4_potTold : GoodIn wsX4_digest wsX4_potTold := goodIn_r _ [29, 4, 30, 31, 32, 14, 33, 16, 17, 18, 19, 20, 21, 34, 35, 36, 37, 38, 39, 40, 41, 42, 43, 44, 9, 45, 46, 47, 48, 49, 50, 51, 52, 53, 54, 55, 56, 57, 58, 59, 60, 61, 62, 63, 64, 65, 66, 67, 68, 69, 70, 71, 72, 73, 74, 75, 76, 77, 78, 79, 80, 81, 82, 83, 84, 85, 86, 87, 88, 89, 90, 91, 92, 93, 94, 95, 96, 97, 98] (by decide +kernel) (by decide +kernel)
set_option maxRecDepth 20000 in
theorem gX4_digest_X4_potTold : GoodIn wsX4_digest (wsV RX4 110 RX4 yX4_potTold wsX4_potTold) := goodIn_app (goodIn_of _ (by decide +kernel)) ggX4_digest_X4_potTold
set_option maxRecDepth 20000 in
theorem ggX4_digest_X3_of : GoodIn wsX4_digest wsX3_of := goodIn_r _ [20, 21, 87, 88, 89, 90, 91, 92, 93, 94, 95, 96, 97, 98] (by decide +kernel) (by decide +kernel)
set_option maxRecDepth 20000 in
theorem gX4_digest_X3_of : GoodIn wsX4_digest (wsV RX4 39 RX3 yX3_of wsX3_of) := goodIn_app (goodIn_of _ (by decide +kernel)) ggX4_digest_X3_of
theorem dX4_digest_0 : decode cX4_digest 0 = .ok (.aload_n 0, 1) := by decide +kernel
theorem dX4_digest_1 : decode cX4_digest 1 = .ok (.iconst 0, 1) := by decide +kernel
theorem dX4_digest_2 : decode cX4_digest 2 = .ok (.putfield 29, 3) := by decide +kernel
theorem dX4_digest_5 : decode cX4_digest 5 = .ok (.ldc2_w 142, 3) := by decide +kernel
theorem dX4_digest_8 : decode cX4_digest 8 = .ok (.lstore_n 1, 1) := by decide +kernel
theorem dX4_digest_9 : decode cX4_digest 9 = .ok (.iconst 0, 1) := by decide +kernel
theorem dX4_digest_10 : decode cX4_digest 10 = .ok (.istore_n 3, 1) := by decide +kernel
theorem dX4_digest_11 : decode cX4_digest 11 = .ok (.iload_n 3, 1) := by decide +kernel
theorem dX4_digest_12 : decode cX4_digest 12 = .ok (.bipush 13, 2) := by decide +kernel
theorem dX4_digest_14 : decode cX4_digest 14 = .ok (.if_icmp .ge 25, 3) := by decide +kernel
theorem dX4_digest_17 : decode cX4_digest 17 = .ok (.lload_n 1, 1) := by decide +kernel
theorem dX4_digest_18 : decode cX4_digest 18 = .ok (.ldc2_w 144, 3) := by decide +kernel
theorem dX4_digest_21 : decode cX4_digest 21 = .ok (.lmul, 1) := by decide +kernel
theorem dX4_digest_22 : decode cX4_digest 22 = .ok (.aload_n 0, 1) := by decide +kernel
theorem dX4_digest_23 : decode cX4_digest 23 = .ok (.getfield 22, 3) := by decide +kernel
theorem dX4_digest_26 : decode cX4_digest 26 = .ok (.iload_n 3, 1) := by decide +kernel
theorem dX4_digest_27 : decode cX4_digest 27 = .ok (.invokestatic 128, 3) := by decide +kernel
theorem dX4_digest_30 : decode cX4_digest 30 = .ok (.i2l, 1) := by decide +kernel
theorem dX4_digest_31 : decode cX4_digest 31 = .ok (.ladd, 1) := by decide +kernel
theorem dX4_digest_32 : decode cX4_digest 32 = .ok (.lstore_n 1, 1) := by decide +kernel
theorem dX4_digest_33 : decode cX4_digest 33 = .ok (.iinc 3 1, 3) := by decide +kernel
theorem dX4_digest_36 : decode cX4_digest 36 = .ok (.goto (-25), 3) := by decide +kernel
theorem dX4_digest_39 : decode cX4_digest 39 = .ok (.lload_n 1, 1) := by decide +kernel
theorem dX4_digest_40 : decode cX4_digest 40 = .ok (.ldc2_w 144, 3) := by decide +kernel
theorem dX4_digest_43 : decode cX4_digest 43 = .ok (.lmul, 1) := by decide +kernel
theorem dX4_digest_44 : decode cX4_digest 44 = .ok (.aload_n 0, 1) := by decide +kernel
theorem dX4_digest_45 : decode cX4_digest 45 = .ok (.getfield 7, 3) := by decide +kernel
theorem dX4_digest_48 : decode cX4_digest 48 = .ok (.i2l, 1) := by decide +kernel
theorem dX4_digest_49 : decode cX4_digest 49 = .ok (.ladd, 1) := by decide +kernel
theorem dX4_digest_50 : decode cX4_digest 50 = .ok (.lstore_n 1, 1) := by decide +kernel
theorem dX4_digest_51 : decode cX4_digest 51 = .ok (.aload_n 0, 1) := by decide +kernel
theorem dX4_digest_52 : decode cX4_digest 52 = .ok (.getfield 13, 3) := by decide +kernel
theorem dX4_digest_55 : decode cX4_digest 55 = .ok (.astore_n 3, 1) := by decide +kernel
theorem dX4_digest_56 : decode cX4_digest 56 = .ok (.aload_n 3, 1) := by decide +kernel
theorem dX4_digest_57 : decode cX4_digest 57 = .ok (.arraylength, 1) := by decide +kernel
theorem dX4_digest_58 : decode cX4_digest 58 = .ok (.istore 4, 2) := by decide +kernel
theorem dX4_digest_60 : decode cX4_digest 60 = .ok (.iconst 0, 1) := by decide +kernel
theorem dX4_digest_61 : decode cX4_digest 61 = .ok (.istore 5, 2) := by decide +kernel
theorem dX4_digest_63 : decode cX4_digest 63 = .ok (.iload 5, 2) := by decide +kernel
theorem dX4_digest_65 : decode cX4_digest 65 = .ok (.iload 4, 2) := by decide +kernel
theorem dX4_digest_67 : decode cX4_digest 67 = .ok (.if_icmp .ge 25, 3) := by decide +kernel
theorem dX4_digest_70 : decode cX4_digest 70 = .ok (.aload_n 3, 1) := by decide +kernel
theorem dX4_digest_71 : decode cX4_digest 71 = .ok (.iload 5, 2) := by decide +kernel
theorem dX4_digest_73 : decode cX4_digest 73 = .ok (.iaload, 1) := by decide +kernel
theorem dX4_digest_74 : decode cX4_digest 74 = .ok (.istore 6, 2) := by decide +kernel
theorem dX4_digest_76 : decode cX4_digest 76 = .ok (.lload_n 1, 1) := by decide +kernel
theorem dX4_digest_77 : decode cX4_digest 77 = .ok (.ldc2_w 144, 3) := by decide +kernel
theorem dX4_digest_80 : decode cX4_digest 80 = .ok (.lmul, 1) := by decide +kernel
theorem dX4_digest_81 : decode cX4_digest 81 = .ok (.iload 6, 2) := by decide +kernel
theorem dX4_digest_83 : decode cX4_digest 83 = .ok (.i2l, 1) := by decide +kernel
theorem dX4_digest_84 : decode cX4_digest 84 = .ok (.ladd, 1) := by decide +kernel
theorem dX4_digest_85 : decode cX4_digest 85 = .ok (.lstore_n 1, 1) := by decide +kernel
theorem dX4_digest_86 : decode cX4_digest 86 = .ok (.iinc 5 1, 3) := by decide +kernel
theorem dX4_digest_89 : decode cX4_digest 89 = .ok (.goto (-26), 3) := by decide +kernel
theorem dX4_digest_92 : decode cX4_digest 92 = .ok (.iconst 0, 1) := by decide +kernel
theorem dX4_digest_93 : decode cX4_digest 93 = .ok (.istore_n 3, 1) := by decide +kernel
theorem dX4_digest_94 : decode cX4_digest 94 = .ok (.iload_n 3, 1) := by decide +kernel
theorem dX4_digest_95 : decode cX4_digest 95 = .ok (.iconst 3, 1) := by decide +kernel
theorem dX4_digest_96 : decode cX4_digest 96 = .ok (.if_icmp .ge 39, 3) := by decide +kernel
theorem dX4_digest_99 : decode cX4_digest 99 = .ok (.iconst 0, 1) := by decide +kernel
theorem dX4_digest_100 : decode cX4_digest 100 = .ok (.istore 4, 2) := by decide +kernel
theorem dX4_digest_102 : decode cX4_digest 102 = .ok (.iload 4, 2) := by decide +kernel
theorem dX4_digest_104 : decode cX4_digest 104 = .ok (.iconst 4, 1) := by decide +kernel
theorem dX4_digest_105 : decode cX4_digest 105 = .ok (.if_icmp .ge 24, 3) := by decide +kernel
theorem dX4_digest_108 : decode cX4_digest 108 = .ok (.lload_n 1, 1) := by decide +kernel
theorem dX4_digest_109 : decode cX4_digest 109 = .ok (.ldc2_w 144, 3) := by decide +kernel
theorem dX4_digest_112 : decode cX4_digest 112 = .ok (.lmul, 1) := by decide +kernel
theorem dX4_digest_113 : decode cX4_digest 113 = .ok (.aload_n 0, 1) := by decide +kernel
theorem dX4_digest_114 : decode cX4_digest 114 = .ok (.iload_n 3, 1) := by decide +kernel
theorem dX4_digest_115 : decode cX4_digest 115 = .ok (.iload 4, 2) := by decide +kernel
theorem dX4_digest_117 : decode cX4_digest 117 = .ok (.invokevirtual 110, 3) := by decide +kernel
theorem dX4_digest_120 : decode cX4_digest 120 = .ok (.i2l, 1) := by decide +kernel
theorem dX4_digest_121 : decode cX4_digest 121 = .ok (.ladd, 1) := by decide +kernel
theorem dX4_digest_122 : decode cX4_digest 122 = .ok (.lstore_n 1, 1) := by decide +kernel
theorem dX4_digest_123 : decode cX4_digest 123 = .ok (.iinc 4 1, 3) := by decide +kernel
theorem dX4_digest_126 : decode cX4_digest 126 = .ok (.goto (-24), 3) := by decide +kernel
theorem dX4_digest_129 : decode cX4_digest 129 = .ok (.iinc 3 1, 3) := by decide +kernel
theorem dX4_digest_132 : decode cX4_digest 132 = .ok (.goto (-38), 3) := by decide +kernel
theorem dX4_digest_135 : decode cX4_digest 135 = .ok (.iconst 0, 1) := by decide +kernel
theorem dX4_digest_136 : decode cX4_digest 136 = .ok (.istore_n 3, 1) := by decide +kernel
theorem dX4_digest_137 : decode cX4_digest 137 = .ok (.iload_n 3, 1) := by decide +kernel
theorem dX4_digest_138 : decode cX4_digest 138 = .ok (.aload_n 0, 1) := by decide +kernel
theorem dX4_digest_139 : decode cX4_digest 139 = .ok (.getfield 22, 3) := by decide +kernel
theorem dX4_digest_142 : decode cX4_digest 142 = .ok (.getfield 32, 3) := by decide +kernel
theorem dX4_digest_145 : decode cX4_digest 145 = .ok (.if_icmp .ge 43, 3) := by decide +kernel
theorem dX4_digest_148 : decode cX4_digest 148 = .ok (.iconst 0, 1) := by decide +kernel
theorem dX4_digest_149 : decode cX4_digest 149 = .ok (.istore 4, 2) := by decide +kernel
theorem dX4_digest_151 : decode cX4_digest 151 = .ok (.iload 4, 2) := by decide +kernel
theorem dX4_digest_153 : decode cX4_digest 153 = .ok (.bipush 9, 2) := by decide +kernel
theorem dX4_digest_155 : decode cX4_digest 155 = .ok (.if_icmp .ge 27, 3) := by decide +kernel
theorem dX4_digest_158 : decode cX4_digest 158 = .ok (.lload_n 1, 1) := by decide +kernel
theorem dX4_digest_159 : decode cX4_digest 159 = .ok (.ldc2_w 144, 3) := by decide +kernel
theorem dX4_digest_162 : decode cX4_digest 162 = .ok (.lmul, 1) := by decide +kernel
theorem dX4_digest_163 : decode cX4_digest 163 = .ok (.aload_n 0, 1) := by decide +kernel
theorem dX4_digest_164 : decode cX4_digest 164 = .ok (.getfield 22, 3) := by decide +kernel
theorem dX4_digest_167 : decode cX4_digest 167 = .ok (.iload_n 3, 1) := by decide +kernel
theorem dX4_digest_168 : decode cX4_digest 168 = .ok (.iload 4, 2) := by decide +kernel
theorem dX4_digest_170 : decode cX4_digest 170 = .ok (.invokevirtual 39, 3) := by decide +kernel
theorem dX4_digest_173 : decode cX4_digest 173 = .ok (.i2l, 1) := by decide +kernel
theorem dX4_digest_174 : decode cX4_digest 174 = .ok (.ladd, 1) := by decide +kernel
theorem dX4_digest_175 : decode cX4_digest 175 = .ok (.lstore_n 1, 1) := by decide +kernel
theorem dX4_digest_176 : decode cX4_digest 176 = .ok (.iinc 4 1, 3) := by decide +kernel
theorem dX4_digest_179 : decode cX4_digest 179 = .ok (.goto (-28), 3) := by decide +kernel
theorem dX4_digest_182 : decode cX4_digest 182 = .ok (.iinc 3 1, 3) := by decide +kernel
theorem dX4_digest_185 : decode cX4_digest 185 = .ok (.goto (-48), 3) := by decide +kernel
theorem dX4_digest_188 : decode cX4_digest 188 = .ok (.lload_n 1, 1) := by decide +kernel
theorem dX4_digest_189 : decode cX4_digest 189 = .ok (.lreturn, 1) := by decide +kernel
theorem dJ9_floorMod_7cf53_0 : decode cJ9_floorMod_7cf53 0 = .ok (.iload_n 0, 1) := by decide +kernel
theorem dJ9_floorMod_7cf53_1 : decode cJ9_floorMod_7cf53 1 = .ok (.iload_n 1, 1) := by decide +kernel
theorem dJ9_floorMod_7cf53_2 : decode cJ9_floorMod_7cf53 2 = .ok (.irem, 1) := by decide +kernel
theorem dJ9_floorMod_7cf53_3 : decode cJ9_floorMod_7cf53 3 = .ok (.istore_n 2, 1) := by decide +kernel
theorem dJ9_floorMod_7cf53_4 : decode cJ9_floorMod_7cf53 4 = .ok (.iload_n 0, 1) := by decide +kernel
theorem dJ9_floorMod_7cf53_5 : decode cJ9_floorMod_7cf53 5 = .ok (.iload_n 1, 1) := by decide +kernel
theorem dJ9_floorMod_7cf53_6 : decode cJ9_floorMod_7cf53 6 = .ok (.ixor, 1) := by decide +kernel
theorem dJ9_floorMod_7cf53_7 : decode cJ9_floorMod_7cf53 7 = .ok (.ifCond .ge 11, 3) := by decide +kernel
theorem dJ9_floorMod_7cf53_10 : decode cJ9_floorMod_7cf53 10 = .ok (.iload_n 2, 1) := by decide +kernel
theorem dJ9_floorMod_7cf53_11 : decode cJ9_floorMod_7cf53 11 = .ok (.ifCond .eq 7, 3) := by decide +kernel
theorem dJ9_floorMod_7cf53_14 : decode cJ9_floorMod_7cf53 14 = .ok (.iload_n 2, 1) := by decide +kernel
theorem dJ9_floorMod_7cf53_15 : decode cJ9_floorMod_7cf53 15 = .ok (.iload_n 1, 1) := by decide +kernel
theorem dJ9_floorMod_7cf53_16 : decode cJ9_floorMod_7cf53 16 = .ok (.iadd, 1) := by decide +kernel
theorem dJ9_floorMod_7cf53_17 : decode cJ9_floorMod_7cf53 17 = .ok (.ireturn, 1) := by decide +kernel
theorem dJ9_floorMod_7cf53_18 : decode cJ9_floorMod_7cf53 18 = .ok (.iload_n 2, 1) := by decide +kernel
theorem dJ9_floorMod_7cf53_19 : decode cJ9_floorMod_7cf53 19 = .ok (.ireturn, 1) := by decide +kernel
theorem dJ9_max_7cf53_0 : decode cJ9_max_7cf53 0 = .ok (.iload_n 0, 1) := by decide +kernel
theorem dJ9_max_7cf53_1 : decode cJ9_max_7cf53 1 = .ok (.iload_n 1, 1) := by decide +kernel
theorem dJ9_max_7cf53_2 : decode cJ9_max_7cf53 2 = .ok (.if_icmp .lt 7, 3) := by decide +kernel
theorem dJ9_max_7cf53_5 : decode cJ9_max_7cf53 5 = .ok (.iload_n 0, 1) := by decide +kernel
theorem dJ9_max_7cf53_6 : decode cJ9_max_7cf53 6 = .ok (.goto 4, 3) := by decide +kernel
theorem dJ9_max_7cf53_9 : decode cJ9_max_7cf53 9 = .ok (.iload_n 1, 1) := by decide +kernel
theorem dJ9_max_7cf53_10 : decode cJ9_max_7cf53 10 = .ok (.ireturn, 1) := by decide +kernel
theorem dJ9_min_7cf53_0 : decode cJ9_min_7cf53 0 = .ok (.iload_n 0, 1) := by decide +kernel
theorem dJ9_min_7cf53_1 : decode cJ9_min_7cf53 1 = .ok (.iload_n 1, 1) := by decide +kernel
theorem dJ9_min_7cf53_2 : decode cJ9_min_7cf53 2 = .ok (.if_icmp .gt 7, 3) := by decide +kernel
theorem dJ9_min_7cf53_5 : decode cJ9_min_7cf53 5 = .ok (.iload_n 0, 1) := by decide +kernel
theorem dJ9_min_7cf53_6 : decode cJ9_min_7cf53 6 = .ok (.goto 4, 3) := by decide +kernel
theorem dJ9_min_7cf53_9 : decode cJ9_min_7cf53 9 = .ok (.iload_n 1, 1) := by decide +kernel
theorem dJ9_min_7cf53_10 : decode cJ9_min_7cf53 10 = .ok (.ireturn, 1) := by decide +kernel
set_option maxRecDepth 20000 in
theorem ggL_join_X2_join : GoodIn wsL_join wsX2_join := goodIn_ca (goodIn_ca (goodIn_r _ [7, 8, 9, 10, 11, 12, 13, 14, 15, 16, 6, 17, 18, 19, 20, 21, 22, 23, 24, 25, 26, 27, 28, 29, 30, 31, 32, 33, 34, 35, 36, 37, 38, 39, 40, 41, 42, 43, 44, 45, 46, 47, 48, 49, 50, 51, 52] (by decide +kernel) (by decide +kernel)) (goodIn_sub (fun _ h => List.mem_cons_of_mem _ (List.mem_append_left _ (List.mem_append_right _ h))) (by decide +kernel))) (goodIn_sub (fun _ h => List.mem_cons_of_mem _ (List.mem_append_right _ h)) (by decide +kernel))
set_option maxRecDepth 20000 in
theorem gL_join_X2_join : GoodIn wsL_join (wsV RL 7 RX2 yX2_join wsX2_join) := goodIn_app (goodIn_of _ (by decide +kernel)) ggL_join_X2_join
theorem dL_join_0 : decode cL_join 0 = .ok (.aload_n 3, 1) := by decide +kernel
theorem dL_join_1 : decode cL_join 1 = .ok (.iconst 0, 1) := by decide +kernel
theorem dL_join_2 : decode cL_join 2 = .ok (.aload_n 0, 1) := by decide +kernel
theorem dL_join_3 : decode cL_join 3 = .ok (.iload_n 1, 1) := by decide +kernel
theorem dL_join_4 : decode cL_join 4 = .ok (.iload_n 2, 1) := by decide +kernel
theorem dL_join_5 : decode cL_join 5 = .ok (.invokevirtual 7, 3) := by decide +kernel
theorem dL_join_8 : decode cL_join 8 = .ok (.i2l, 1) := by decide +kernel
theorem dL_join_9 : decode cL_join 9 = .ok (.lastore, 1) := by decide +kernel
theorem dL_join_10 : decode cL_join 10 = .ok (.goto 11, 3) := by decide +kernel
theorem dL_join_13 : decode cL_join 13 = .ok (.astore 4, 2) := by decide +kernel
theorem dL_join_15 : decode cL_join 15 = .ok (.iconst 1, 1) := by decide +kernel
theorem dL_join_16 : decode cL_join 16 = .ok (.ireturn, 1) := by decide +kernel
theorem dL_join_17 : decode cL_join 17 = .ok (.astore 4, 2) := by decide +kernel
theorem dL_join_19 : decode cL_join 19 = .ok (.iconst 2, 1) := by decide +kernel
theorem dL_join_20 : decode cL_join 20 = .ok (.ireturn, 1) := by decide +kernel
theorem dL_join_21 : decode cL_join 21 = .ok (.iconst 0, 1) := by decide +kernel
theorem dL_join_22 : decode cL_join 22 = .ok (.ireturn, 1) := by decide +kernel
set_option maxRecDepth 20000 in
theorem ggL_place_X2_place : GoodIn wsL_place wsX2_place := goodIn_ca (goodIn_ca (goodIn_r _ [7, 8, 9, 10, 11, 12, 13, 14, 15, 16, 17, 18, 19, 20, 21, 22, 23, 24, 6, 25, 26, 27, 28, 29, 30, 31, 32, 33, 34, 35, 36, 37, 38, 39, 40, 41, 42, 43, 44, 45, 46, 47, 48, 49, 50, 51, 52, 53, 54, 55, 56, 57, 58, 59, 60, 61, 62, 63, 64, 65, 66] (by decide +kernel) (by decide +kernel)) (goodIn_sub (fun _ h => List.mem_cons_of_mem _ (List.mem_append_left _ (List.mem_append_right _ h))) (by decide +kernel))) (goodIn_sub (fun _ h => List.mem_cons_of_mem _ (List.mem_append_right _ h)) (by decide +kernel))
set_option maxRecDepth 20000 in
theorem gL_place_X2_place : GoodIn wsL_place (wsV RL 17 RX2 yX2_place wsX2_place) := goodIn_app (goodIn_of _ (by decide +kernel)) ggL_place_X2_place
theorem dL_place_0 : decode cL_place 0 = .ok (.aload_n 3, 1) := by decide +kernel
theorem dL_place_1 : decode cL_place 1 = .ok (.iconst 0, 1) := by decide +kernel
theorem dL_place_2 : decode cL_place 2 = .ok (.aload_n 0, 1) := by decide +kernel
theorem dL_place_3 : decode cL_place 3 = .ok (.iload_n 1, 1) := by decide +kernel
theorem dL_place_4 : decode cL_place 4 = .ok (.iload_n 2, 1) := by decide +kernel
theorem dL_place_5 : decode cL_place 5 = .ok (.invokevirtual 17, 3) := by decide +kernel
theorem dL_place_8 : decode cL_place 8 = .ok (.i2l, 1) := by decide +kernel
theorem dL_place_9 : decode cL_place 9 = .ok (.lastore, 1) := by decide +kernel
theorem dL_place_10 : decode cL_place 10 = .ok (.goto 11, 3) := by decide +kernel
theorem dL_place_13 : decode cL_place 13 = .ok (.astore 4, 2) := by decide +kernel
theorem dL_place_15 : decode cL_place 15 = .ok (.iconst 1, 1) := by decide +kernel
theorem dL_place_16 : decode cL_place 16 = .ok (.ireturn, 1) := by decide +kernel
theorem dL_place_17 : decode cL_place 17 = .ok (.astore 4, 2) := by decide +kernel
theorem dL_place_19 : decode cL_place 19 = .ok (.iconst 2, 1) := by decide +kernel
theorem dL_place_20 : decode cL_place 20 = .ok (.ireturn, 1) := by decide +kernel
theorem dL_place_21 : decode cL_place 21 = .ok (.iconst 0, 1) := by decide +kernel
theorem dL_place_22 : decode cL_place 22 = .ok (.ireturn, 1) := by decide +kernel
set_option maxRecDepth 20000 in
theorem ggL_give_X2_give : GoodIn wsL_give wsX2_give := goodIn_ca (goodIn_ca (goodIn_ca (goodIn_r _ [8, 9, 10, 11, 12, 13, 14, 15, 16, 17, 18, 19, 20, 21, 22, 23, 24, 25, 26, 27, 7, 28, 29, 30, 31, 32, 33, 34, 35, 36, 37, 38, 39, 40, 41, 42, 43, 44, 45, 46, 47, 48, 49, 50, 51, 52, 53, 54] (by decide +kernel) (by decide +kernel)) (goodIn_sub (fun _ h => List.mem_cons_of_mem _ (List.mem_append_left _ (List.mem_append_left _ (List.mem_append_right _ h)))) (by decide +kernel))) (goodIn_sub (fun _ h => List.mem_cons_of_mem _ (List.mem_append_left _ (List.mem_append_right _ h))) (by decide +kernel))) (goodIn_sub (fun _ h => List.mem_cons_of_mem _ (List.mem_append_right _ h)) (by decide +kernel))
set_option maxRecDepth 20000 in
theorem gL_give_X2_give : GoodIn wsL_give (wsV RL 22 RX2 yX2_give wsX2_give) := goodIn_app (goodIn_of _ (by decide +kernel)) ggL_give_X2_give
theorem dL_give_0 : decode cL_give 0 = .ok (.aload 4, 2) := by decide +kernel
theorem dL_give_2 : decode cL_give 2 = .ok (.iconst 0, 1) := by decide +kernel
theorem dL_give_3 : decode cL_give 3 = .ok (.aload_n 0, 1) := by decide +kernel
theorem dL_give_4 : decode cL_give 4 = .ok (.iload_n 1, 1) := by decide +kernel
theorem dL_give_5 : decode cL_give 5 = .ok (.iload_n 2, 1) := by decide +kernel
theorem dL_give_6 : decode cL_give 6 = .ok (.iload_n 3, 1) := by decide +kernel
theorem dL_give_7 : decode cL_give 7 = .ok (.invokevirtual 22, 3) := by decide +kernel
theorem dL_give_10 : decode cL_give 10 = .ok (.i2l, 1) := by decide +kernel
theorem dL_give_11 : decode cL_give 11 = .ok (.lastore, 1) := by decide +kernel
theorem dL_give_12 : decode cL_give 12 = .ok (.goto 15, 3) := by decide +kernel
theorem dL_give_15 : decode cL_give 15 = .ok (.astore 5, 2) := by decide +kernel
theorem dL_give_17 : decode cL_give 17 = .ok (.iconst 1, 1) := by decide +kernel
theorem dL_give_18 : decode cL_give 18 = .ok (.ireturn, 1) := by decide +kernel
theorem dL_give_19 : decode cL_give 19 = .ok (.astore 5, 2) := by decide +kernel
theorem dL_give_21 : decode cL_give 21 = .ok (.iconst 2, 1) := by decide +kernel
theorem dL_give_22 : decode cL_give 22 = .ok (.ireturn, 1) := by decide +kernel
theorem dL_give_23 : decode cL_give 23 = .ok (.astore 5, 2) := by decide +kernel
theorem dL_give_25 : decode cL_give 25 = .ok (.iconst 3, 1) := by decide +kernel
theorem dL_give_26 : decode cL_give 26 = .ok (.ireturn, 1) := by decide +kernel
theorem dL_give_27 : decode cL_give 27 = .ok (.iconst 0, 1) := by decide +kernel
theorem dL_give_28 : decode cL_give 28 = .ok (.ireturn, 1) := by decide +kernel
set_option maxRecDepth 20000 in
theorem ggL_settle_X2_settle : GoodIn wsL_settle wsX2_settle := goodIn_ca (goodIn_ca (goodIn_r _ [7, 8, 9, 10, 11, 12, 13, 14, 15, 16, 17, 18, 19, 20, 21, 22, 23, 24, 25, 26, 27, 28, 29, 30, 31, 32, 33, 34, 35, 36, 37, 38, 39, 40, 41, 42, 43, 44, 45, 46, 47, 48, 49, 50, 51, 52, 53, 54, 55, 56, 57, 58, 59, 60] (by decide +kernel) (by decide +kernel)) (goodIn_sub (fun _ h => List.mem_cons_of_mem _ (List.mem_append_left _ (List.mem_append_right _ h))) (by decide +kernel))) (goodIn_sub (fun _ h => List.mem_cons_of_mem _ (List.mem_append_right _ h)) (by decide +kernel))
set_option maxRecDepth 20000 in
theorem gL_settle_X2_settle : GoodIn wsL_settle (wsV RL 26 RX2 yX2_settle wsX2_settle) := goodIn_app (goodIn_of _ (by decide +kernel)) ggL_settle_X2_settle
theorem dL_settle_0 : decode cL_settle 0 = .ok (.aload_n 2, 1) := by decide +kernel
theorem dL_settle_1 : decode cL_settle 1 = .ok (.iconst 0, 1) := by decide +kernel
theorem dL_settle_2 : decode cL_settle 2 = .ok (.aload_n 0, 1) := by decide +kernel
theorem dL_settle_3 : decode cL_settle 3 = .ok (.iload_n 1, 1) := by decide +kernel
theorem dL_settle_4 : decode cL_settle 4 = .ok (.invokevirtual 26, 3) := by decide +kernel
theorem dL_settle_7 : decode cL_settle 7 = .ok (.i2l, 1) := by decide +kernel
theorem dL_settle_8 : decode cL_settle 8 = .ok (.lastore, 1) := by decide +kernel
theorem dL_settle_9 : decode cL_settle 9 = .ok (.goto 9, 3) := by decide +kernel
theorem dL_settle_12 : decode cL_settle 12 = .ok (.astore_n 3, 1) := by decide +kernel
theorem dL_settle_13 : decode cL_settle 13 = .ok (.iconst 1, 1) := by decide +kernel
theorem dL_settle_14 : decode cL_settle 14 = .ok (.ireturn, 1) := by decide +kernel
theorem dL_settle_15 : decode cL_settle 15 = .ok (.astore_n 3, 1) := by decide +kernel
theorem dL_settle_16 : decode cL_settle 16 = .ok (.iconst 2, 1) := by decide +kernel
theorem dL_settle_17 : decode cL_settle 17 = .ok (.ireturn, 1) := by decide +kernel
theorem dL_settle_18 : decode cL_settle 18 = .ok (.iconst 0, 1) := by decide +kernel
theorem dL_settle_19 : decode cL_settle 19 = .ok (.ireturn, 1) := by decide +kernel
set_option maxRecDepth 20000 in
theorem ggL_told_X2_told : GoodIn wsL_told wsX2_told := goodIn_ca (goodIn_r _ [6, 7, 8, 9, 10, 11, 12, 13, 14, 15, 16, 17, 18, 19, 5, 20, 21, 22, 23, 24, 25, 26, 27, 28, 29, 30, 31, 32, 33, 34, 35, 36, 37, 38, 39, 40, 41, 42, 43, 44, 45, 46, 47, 48, 49, 50, 51, 52, 53, 54, 55, 56, 57, 58, 59, 60] (by decide +kernel) (by decide +kernel)) (goodIn_sub (fun _ h => List.mem_cons_of_mem _ (List.mem_append_right _ h)) (by decide +kernel))
set_option maxRecDepth 20000 in
theorem gL_told_X2_told : GoodIn wsL_told (wsV RL 30 RX2 yX2_told wsX2_told) := goodIn_app (goodIn_of _ (by decide +kernel)) ggL_told_X2_told
theorem dL_told_0 : decode cL_told 0 = .ok (.aload_n 3, 1) := by decide +kernel
theorem dL_told_1 : decode cL_told 1 = .ok (.iconst 0, 1) := by decide +kernel
theorem dL_told_2 : decode cL_told 2 = .ok (.aload_n 0, 1) := by decide +kernel
theorem dL_told_3 : decode cL_told 3 = .ok (.iload_n 1, 1) := by decide +kernel
theorem dL_told_4 : decode cL_told 4 = .ok (.iload_n 2, 1) := by decide +kernel
theorem dL_told_5 : decode cL_told 5 = .ok (.invokevirtual 30, 3) := by decide +kernel
theorem dL_told_8 : decode cL_told 8 = .ok (.i2l, 1) := by decide +kernel
theorem dL_told_9 : decode cL_told 9 = .ok (.lastore, 1) := by decide +kernel
theorem dL_told_10 : decode cL_told 10 = .ok (.goto 7, 3) := by decide +kernel
theorem dL_told_13 : decode cL_told 13 = .ok (.astore 4, 2) := by decide +kernel
theorem dL_told_15 : decode cL_told 15 = .ok (.iconst 1, 1) := by decide +kernel
theorem dL_told_16 : decode cL_told 16 = .ok (.ireturn, 1) := by decide +kernel
theorem dL_told_17 : decode cL_told 17 = .ok (.iconst 0, 1) := by decide +kernel
theorem dL_told_18 : decode cL_told 18 = .ok (.ireturn, 1) := by decide +kernel
set_option maxRecDepth 20000 in
theorem ggL_setFever_X2_setFever : GoodIn wsL_setFever wsX2_setFever := goodIn_ca (goodIn_ca (goodIn_r _ [7, 8, 9, 10, 11, 12, 13, 14, 15, 6, 16, 17, 18, 19, 20, 21, 22, 23, 24, 25, 26, 27, 28, 29, 30, 31, 32] (by decide +kernel) (by decide +kernel)) (goodIn_sub (fun _ h => List.mem_cons_of_mem _ (List.mem_append_left _ (List.mem_append_right _ h))) (by decide +kernel))) (goodIn_sub (fun _ h => List.mem_cons_of_mem _ (List.mem_append_right _ h)) (by decide +kernel))
set_option maxRecDepth 20000 in
theorem gL_setFever_X2_setFever : GoodIn wsL_setFever (wsV RL 33 RX2 yX2_setFever wsX2_setFever) := goodIn_app (goodIn_of _ (by decide +kernel)) ggL_setFever_X2_setFever
theorem dL_setFever_0 : decode cL_setFever 0 = .ok (.aload_n 3, 1) := by decide +kernel
theorem dL_setFever_1 : decode cL_setFever 1 = .ok (.iconst 0, 1) := by decide +kernel
theorem dL_setFever_2 : decode cL_setFever 2 = .ok (.aload_n 0, 1) := by decide +kernel
theorem dL_setFever_3 : decode cL_setFever 3 = .ok (.iload_n 1, 1) := by decide +kernel
theorem dL_setFever_4 : decode cL_setFever 4 = .ok (.iload_n 2, 1) := by decide +kernel
theorem dL_setFever_5 : decode cL_setFever 5 = .ok (.invokevirtual 33, 3) := by decide +kernel
theorem dL_setFever_8 : decode cL_setFever 8 = .ok (.i2l, 1) := by decide +kernel
theorem dL_setFever_9 : decode cL_setFever 9 = .ok (.lastore, 1) := by decide +kernel
theorem dL_setFever_10 : decode cL_setFever 10 = .ok (.goto 11, 3) := by decide +kernel
theorem dL_setFever_13 : decode cL_setFever 13 = .ok (.astore 4, 2) := by decide +kernel
theorem dL_setFever_15 : decode cL_setFever 15 = .ok (.iconst 1, 1) := by decide +kernel
theorem dL_setFever_16 : decode cL_setFever 16 = .ok (.ireturn, 1) := by decide +kernel
theorem dL_setFever_17 : decode cL_setFever 17 = .ok (.astore 4, 2) := by decide +kernel
theorem dL_setFever_19 : decode cL_setFever 19 = .ok (.iconst 2, 1) := by decide +kernel
theorem dL_setFever_20 : decode cL_setFever 20 = .ok (.ireturn, 1) := by decide +kernel
theorem dL_setFever_21 : decode cL_setFever 21 = .ok (.iconst 0, 1) := by decide +kernel
theorem dL_setFever_22 : decode cL_setFever 22 = .ok (.ireturn, 1) := by decide +kernel
set_option maxRecDepth 20000 in
theorem ggL_setDues_X2_setDues : GoodIn wsL_setDues wsX2_setDues := goodIn_ca (goodIn_r _ [6, 7, 8, 9, 10, 11, 12, 5, 13, 14, 15, 16, 17, 18, 19, 20, 21, 22, 23, 24, 25, 26, 27, 28, 29] (by decide +kernel) (by decide +kernel)) (goodIn_sub (fun _ h => List.mem_cons_of_mem _ (List.mem_append_right _ h)) (by decide +kernel))
set_option maxRecDepth 20000 in
theorem gL_setDues_X2_setDues : GoodIn wsL_setDues (wsV RL 36 RX2 yX2_setDues wsX2_setDues) := goodIn_app (goodIn_of _ (by decide +kernel)) ggL_setDues_X2_setDues
theorem dL_setDues_0 : decode cL_setDues 0 = .ok (.aload_n 2, 1) := by decide +kernel
theorem dL_setDues_1 : decode cL_setDues 1 = .ok (.iconst 0, 1) := by decide +kernel
theorem dL_setDues_2 : decode cL_setDues 2 = .ok (.aload_n 0, 1) := by decide +kernel
theorem dL_setDues_3 : decode cL_setDues 3 = .ok (.iload_n 1, 1) := by decide +kernel
theorem dL_setDues_4 : decode cL_setDues 4 = .ok (.invokevirtual 36, 3) := by decide +kernel
theorem dL_setDues_7 : decode cL_setDues 7 = .ok (.i2l, 1) := by decide +kernel
theorem dL_setDues_8 : decode cL_setDues 8 = .ok (.lastore, 1) := by decide +kernel
theorem dL_setDues_9 : decode cL_setDues 9 = .ok (.goto 6, 3) := by decide +kernel
theorem dL_setDues_12 : decode cL_setDues 12 = .ok (.astore_n 3, 1) := by decide +kernel
theorem dL_setDues_13 : decode cL_setDues 13 = .ok (.iconst 1, 1) := by decide +kernel
theorem dL_setDues_14 : decode cL_setDues 14 = .ok (.ireturn, 1) := by decide +kernel
theorem dL_setDues_15 : decode cL_setDues 15 = .ok (.iconst 0, 1) := by decide +kernel
theorem dL_setDues_16 : decode cL_setDues 16 = .ok (.ireturn, 1) := by decide +kernel
set_option maxRecDepth 20000 in
theorem ggL_buy_X2_buy : GoodIn wsL_buy wsX2_buy := goodIn_ca (goodIn_ca (goodIn_ca (goodIn_r _ [8, 9, 10, 11, 12, 13, 14, 15, 16, 17, 18, 19, 20, 7, 21, 22, 23, 24, 25, 26, 27, 28, 29, 30, 31, 32, 33, 34, 35, 36, 37] (by decide +kernel) (by decide +kernel)) (goodIn_sub (fun _ h => List.mem_cons_of_mem _ (List.mem_append_left _ (List.mem_append_left _ (List.mem_append_right _ h)))) (by decide +kernel))) (goodIn_sub (fun _ h => List.mem_cons_of_mem _ (List.mem_append_left _ (List.mem_append_right _ h))) (by decide +kernel))) (goodIn_sub (fun _ h => List.mem_cons_of_mem _ (List.mem_append_right _ h)) (by decide +kernel))
set_option maxRecDepth 20000 in
theorem gL_buy_X2_buy : GoodIn wsL_buy (wsV RL 39 RX2 yX2_buy wsX2_buy) := goodIn_app (goodIn_of _ (by decide +kernel)) ggL_buy_X2_buy
theorem dL_buy_0 : decode cL_buy 0 = .ok (.aload_n 3, 1) := by decide +kernel
theorem dL_buy_1 : decode cL_buy 1 = .ok (.iconst 0, 1) := by decide +kernel
theorem dL_buy_2 : decode cL_buy 2 = .ok (.aload_n 0, 1) := by decide +kernel
theorem dL_buy_3 : decode cL_buy 3 = .ok (.iload_n 1, 1) := by decide +kernel
theorem dL_buy_4 : decode cL_buy 4 = .ok (.iload_n 2, 1) := by decide +kernel
theorem dL_buy_5 : decode cL_buy 5 = .ok (.invokevirtual 39, 3) := by decide +kernel
theorem dL_buy_8 : decode cL_buy 8 = .ok (.i2l, 1) := by decide +kernel
theorem dL_buy_9 : decode cL_buy 9 = .ok (.lastore, 1) := by decide +kernel
theorem dL_buy_10 : decode cL_buy 10 = .ok (.goto 15, 3) := by decide +kernel
theorem dL_buy_13 : decode cL_buy 13 = .ok (.astore 4, 2) := by decide +kernel
theorem dL_buy_15 : decode cL_buy 15 = .ok (.iconst 1, 1) := by decide +kernel
theorem dL_buy_16 : decode cL_buy 16 = .ok (.ireturn, 1) := by decide +kernel
theorem dL_buy_17 : decode cL_buy 17 = .ok (.astore 4, 2) := by decide +kernel
theorem dL_buy_19 : decode cL_buy 19 = .ok (.iconst 2, 1) := by decide +kernel
theorem dL_buy_20 : decode cL_buy 20 = .ok (.ireturn, 1) := by decide +kernel
theorem dL_buy_21 : decode cL_buy 21 = .ok (.astore 4, 2) := by decide +kernel
theorem dL_buy_23 : decode cL_buy 23 = .ok (.iconst 3, 1) := by decide +kernel
theorem dL_buy_24 : decode cL_buy 24 = .ok (.ireturn, 1) := by decide +kernel
theorem dL_buy_25 : decode cL_buy 25 = .ok (.iconst 0, 1) := by decide +kernel
theorem dL_buy_26 : decode cL_buy 26 = .ok (.ireturn, 1) := by decide +kernel
set_option maxRecDepth 20000 in
theorem ggL_sell_X2_sell : GoodIn wsL_sell wsX2_sell := goodIn_ca (goodIn_ca (goodIn_r _ [7, 8, 9, 10, 11, 12, 13, 14, 15, 16, 6, 17, 18, 19, 20, 21, 22, 23, 24, 25, 26, 27, 28, 29, 30, 31, 32, 33] (by decide +kernel) (by decide +kernel)) (goodIn_sub (fun _ h => List.mem_cons_of_mem _ (List.mem_append_left _ (List.mem_append_right _ h))) (by decide +kernel))) (goodIn_sub (fun _ h => List.mem_cons_of_mem _ (List.mem_append_right _ h)) (by decide +kernel))
set_option maxRecDepth 20000 in
theorem gL_sell_X2_sell : GoodIn wsL_sell (wsV RL 42 RX2 yX2_sell wsX2_sell) := goodIn_app (goodIn_of _ (by decide +kernel)) ggL_sell_X2_sell
theorem dL_sell_0 : decode cL_sell 0 = .ok (.aload_n 2, 1) := by decide +kernel
theorem dL_sell_1 : decode cL_sell 1 = .ok (.iconst 0, 1) := by decide +kernel
