theorem dX3_pounds_33 : decode cX3_pounds 33 = .ok (.imul, 1) := by decide +kernel
theorem dX3_pounds_34 : decode cX3_pounds 34 = .ok (.isub, 1) := by decide +kernel
theorem dX3_pounds_35 : decode cX3_pounds 35 = .ok (.invokestatic 74, 3) := by decide +kernel
theorem dX3_pounds_38 : decode cX3_pounds 38 = .ok (.ireturn, 1) := by decide +kernel
set_option maxRecDepth 20000 in
theorem ggX3_comb_X3_combs : GoodIn wsX3_comb wsX3_combs := goodIn_r _ [12, 13, 14, 15, 11, 16, 17, 34, 35, 36, 37, 38, 39, 40, 41, 42, 43, 44, 45] (by decide +kernel) (by decide +kernel)
set_option maxRecDepth 20000 in
theorem gX3_comb_X3_combs : GoodIn wsX3_comb (wsV RX3 61 RX3 yX3_combs wsX3_combs) := goodIn_app (goodIn_of _ (by decide +kernel)) ggX3_comb_X3_combs
set_option maxRecDepth 20000 in
theorem ggX3_comb_X3_pounds : GoodIn wsX3_comb wsX3_pounds := goodIn_r _ [21, 22, 23, 24, 5, 25, 13, 14, 15, 11, 16, 17, 26, 27, 28, 29, 1, 8, 9, 10, 12, 34, 35, 36, 37, 38, 39, 40, 41, 42, 43, 44, 45] (by decide +kernel) (by decide +kernel)
set_option maxRecDepth 20000 in
theorem gX3_comb_X3_pounds : GoodIn wsX3_comb (wsV RX3 77 RX3 yX3_pounds wsX3_pounds) := goodIn_app (goodIn_of _ (by decide +kernel)) ggX3_comb_X3_pounds
set_option maxRecDepth 20000 in
theorem ggX3_comb_X3_of : GoodIn wsX3_comb wsX3_of := goodIn_r _ [16, 17, 34, 35, 36, 37, 38, 39, 40, 41, 42, 43, 44, 45] (by decide +kernel) (by decide +kernel)
set_option maxRecDepth 20000 in
theorem gX3_comb_X3_of : GoodIn wsX3_comb (wsV RX3 57 RX3 yX3_of wsX3_of) := goodIn_app (goodIn_of _ (by decide +kernel)) ggX3_comb_X3_of
set_option maxRecDepth 20000 in
theorem ggX3_comb_X3_set : GoodIn wsX3_comb wsX3_set := goodIn_r _ [33, 17, 34, 35, 36, 37, 38, 39, 40, 41, 42, 43, 44, 45] (by decide +kernel) (by decide +kernel)
set_option maxRecDepth 20000 in
theorem gX3_comb_X3_set : GoodIn wsX3_comb (wsV RX3 80 RX3 yX3_set wsX3_set) := goodIn_app (goodIn_of _ (by decide +kernel)) ggX3_comb_X3_set
theorem dX3_comb_0 : decode cX3_comb 0 = .ok (.iconst 0, 1) := by decide +kernel
theorem dX3_comb_1 : decode cX3_comb 1 = .ok (.istore_n 1, 1) := by decide +kernel
theorem dX3_comb_2 : decode cX3_comb 2 = .ok (.iload_n 1, 1) := by decide +kernel
theorem dX3_comb_3 : decode cX3_comb 3 = .ok (.aload_n 0, 1) := by decide +kernel
theorem dX3_comb_4 : decode cX3_comb 4 = .ok (.getfield 35, 3) := by decide +kernel
theorem dX3_comb_7 : decode cX3_comb 7 = .ok (.if_icmp .ge 69, 3) := by decide +kernel
theorem dX3_comb_10 : decode cX3_comb 10 = .ok (.aload_n 0, 1) := by decide +kernel
theorem dX3_comb_11 : decode cX3_comb 11 = .ok (.iload_n 1, 1) := by decide +kernel
theorem dX3_comb_12 : decode cX3_comb 12 = .ok (.invokevirtual 61, 3) := by decide +kernel
theorem dX3_comb_15 : decode cX3_comb 15 = .ok (.ifCond .ne 6, 3) := by decide +kernel
theorem dX3_comb_18 : decode cX3_comb 18 = .ok (.goto 52, 3) := by decide +kernel
theorem dX3_comb_21 : decode cX3_comb 21 = .ok (.aload_n 0, 1) := by decide +kernel
theorem dX3_comb_22 : decode cX3_comb 22 = .ok (.getfield 22, 3) := by decide +kernel
theorem dX3_comb_25 : decode cX3_comb 25 = .ok (.aload_n 0, 1) := by decide +kernel
theorem dX3_comb_26 : decode cX3_comb 26 = .ok (.iload_n 1, 1) := by decide +kernel
theorem dX3_comb_27 : decode cX3_comb 27 = .ok (.invokevirtual 77, 3) := by decide +kernel
theorem dX3_comb_30 : decode cX3_comb 30 = .ok (.invokestatic 69, 3) := by decide +kernel
theorem dX3_comb_33 : decode cX3_comb 33 = .ok (.istore_n 2, 1) := by decide +kernel
theorem dX3_comb_34 : decode cX3_comb 34 = .ok (.aload_n 0, 1) := by decide +kernel
theorem dX3_comb_35 : decode cX3_comb 35 = .ok (.dup, 1) := by decide +kernel
theorem dX3_comb_36 : decode cX3_comb 36 = .ok (.getfield 22, 3) := by decide +kernel
theorem dX3_comb_39 : decode cX3_comb 39 = .ok (.iload_n 2, 1) := by decide +kernel
theorem dX3_comb_40 : decode cX3_comb 40 = .ok (.isub, 1) := by decide +kernel
theorem dX3_comb_41 : decode cX3_comb 41 = .ok (.putfield 22, 3) := by decide +kernel
theorem dX3_comb_44 : decode cX3_comb 44 = .ok (.aload_n 0, 1) := by decide +kernel
theorem dX3_comb_45 : decode cX3_comb 45 = .ok (.dup, 1) := by decide +kernel
theorem dX3_comb_46 : decode cX3_comb 46 = .ok (.getfield 38, 3) := by decide +kernel
theorem dX3_comb_49 : decode cX3_comb 49 = .ok (.iload_n 2, 1) := by decide +kernel
theorem dX3_comb_50 : decode cX3_comb 50 = .ok (.iadd, 1) := by decide +kernel
theorem dX3_comb_51 : decode cX3_comb 51 = .ok (.putfield 38, 3) := by decide +kernel
theorem dX3_comb_54 : decode cX3_comb 54 = .ok (.aload_n 0, 1) := by decide +kernel
theorem dX3_comb_55 : decode cX3_comb 55 = .ok (.iload_n 1, 1) := by decide +kernel
theorem dX3_comb_56 : decode cX3_comb 56 = .ok (.iconst 2, 1) := by decide +kernel
theorem dX3_comb_57 : decode cX3_comb 57 = .ok (.aload_n 0, 1) := by decide +kernel
theorem dX3_comb_58 : decode cX3_comb 58 = .ok (.iload_n 1, 1) := by decide +kernel
theorem dX3_comb_59 : decode cX3_comb 59 = .ok (.iconst 2, 1) := by decide +kernel
theorem dX3_comb_60 : decode cX3_comb 60 = .ok (.invokevirtual 57, 3) := by decide +kernel
theorem dX3_comb_63 : decode cX3_comb 63 = .ok (.iload_n 2, 1) := by decide +kernel
theorem dX3_comb_64 : decode cX3_comb 64 = .ok (.iconst 2, 1) := by decide +kernel
theorem dX3_comb_65 : decode cX3_comb 65 = .ok (.idiv, 1) := by decide +kernel
theorem dX3_comb_66 : decode cX3_comb 66 = .ok (.iadd, 1) := by decide +kernel
theorem dX3_comb_67 : decode cX3_comb 67 = .ok (.invokevirtual 80, 3) := by decide +kernel
theorem dX3_comb_70 : decode cX3_comb 70 = .ok (.iinc 1 1, 3) := by decide +kernel
theorem dX3_comb_73 : decode cX3_comb 73 = .ok (.goto (-71), 3) := by decide +kernel
theorem dX3_comb_76 : decode cX3_comb 76 = .ok (.return_, 1) := by decide +kernel
set_option maxRecDepth 20000 in
theorem ggX3_fever_X3_combs : GoodIn wsX3_fever wsX3_combs := goodIn_r _ [8, 9, 10, 11, 7, 12, 13, 18, 19, 20, 21, 22, 23, 24, 25, 26, 27, 28, 29] (by decide +kernel) (by decide +kernel)
set_option maxRecDepth 20000 in
theorem gX3_fever_X3_combs : GoodIn wsX3_fever (wsV RX3 61 RX3 yX3_combs wsX3_combs) := goodIn_app (goodIn_of _ (by decide +kernel)) ggX3_fever_X3_combs
set_option maxRecDepth 20000 in
theorem ggX3_fever_X3_of : GoodIn wsX3_fever wsX3_of := goodIn_r _ [12, 13, 18, 19, 20, 21, 22, 23, 24, 25, 26, 27, 28, 29] (by decide +kernel) (by decide +kernel)
set_option maxRecDepth 20000 in
theorem gX3_fever_X3_of : GoodIn wsX3_fever (wsV RX3 57 RX3 yX3_of wsX3_of) := goodIn_app (goodIn_of _ (by decide +kernel)) ggX3_fever_X3_of
set_option maxRecDepth 20000 in
theorem ggX3_fever_X3_set : GoodIn wsX3_fever wsX3_set := goodIn_r _ [17, 13, 18, 19, 20, 21, 22, 23, 24, 25, 26, 27, 28, 29] (by decide +kernel) (by decide +kernel)
set_option maxRecDepth 20000 in
theorem gX3_fever_X3_set : GoodIn wsX3_fever (wsV RX3 80 RX3 yX3_set wsX3_set) := goodIn_app (goodIn_of _ (by decide +kernel)) ggX3_fever_X3_set
theorem dX3_fever_0 : decode cX3_fever 0 = .ok (.aload_n 0, 1) := by decide +kernel
theorem dX3_fever_1 : decode cX3_fever 1 = .ok (.getfield 3, 3) := by decide +kernel
theorem dX3_fever_4 : decode cX3_fever 4 = .ok (.getfield 84, 3) := by decide +kernel
theorem dX3_fever_7 : decode cX3_fever 7 = .ok (.aload_n 0, 1) := by decide +kernel
theorem dX3_fever_8 : decode cX3_fever 8 = .ok (.getfield 32, 3) := by decide +kernel
theorem dX3_fever_11 : decode cX3_fever 11 = .ok (.bipush 8, 2) := by decide +kernel
theorem dX3_fever_13 : decode cX3_fever 13 = .ok (.irem, 1) := by decide +kernel
theorem dX3_fever_14 : decode cX3_fever 14 = .ok (.iaload, 1) := by decide +kernel
theorem dX3_fever_15 : decode cX3_fever 15 = .ok (.istore_n 1, 1) := by decide +kernel
theorem dX3_fever_16 : decode cX3_fever 16 = .ok (.iconst 0, 1) := by decide +kernel
theorem dX3_fever_17 : decode cX3_fever 17 = .ok (.istore_n 2, 1) := by decide +kernel
theorem dX3_fever_18 : decode cX3_fever 18 = .ok (.iload_n 2, 1) := by decide +kernel
theorem dX3_fever_19 : decode cX3_fever 19 = .ok (.aload_n 0, 1) := by decide +kernel
theorem dX3_fever_20 : decode cX3_fever 20 = .ok (.getfield 35, 3) := by decide +kernel
theorem dX3_fever_23 : decode cX3_fever 23 = .ok (.if_icmp .ge 69, 3) := by decide +kernel
theorem dX3_fever_26 : decode cX3_fever 26 = .ok (.iload_n 1, 1) := by decide +kernel
theorem dX3_fever_27 : decode cX3_fever 27 = .ok (.iconst (-1), 1) := by decide +kernel
theorem dX3_fever_28 : decode cX3_fever 28 = .ok (.if_icmp .eq 58, 3) := by decide +kernel
theorem dX3_fever_31 : decode cX3_fever 31 = .ok (.aload_n 0, 1) := by decide +kernel
theorem dX3_fever_32 : decode cX3_fever 32 = .ok (.iload_n 2, 1) := by decide +kernel
theorem dX3_fever_33 : decode cX3_fever 33 = .ok (.invokevirtual 61, 3) := by decide +kernel
theorem dX3_fever_36 : decode cX3_fever 36 = .ok (.ifCond .eq 50, 3) := by decide +kernel
theorem dX3_fever_39 : decode cX3_fever 39 = .ok (.aload_n 0, 1) := by decide +kernel
theorem dX3_fever_40 : decode cX3_fever 40 = .ok (.iload_n 2, 1) := by decide +kernel
theorem dX3_fever_41 : decode cX3_fever 41 = .ok (.iconst 5, 1) := by decide +kernel
theorem dX3_fever_42 : decode cX3_fever 42 = .ok (.invokevirtual 57, 3) := by decide +kernel
theorem dX3_fever_45 : decode cX3_fever 45 = .ok (.iload_n 1, 1) := by decide +kernel
theorem dX3_fever_46 : decode cX3_fever 46 = .ok (.if_icmp .eq 6, 3) := by decide +kernel
theorem dX3_fever_49 : decode cX3_fever 49 = .ok (.goto 37, 3) := by decide +kernel
theorem dX3_fever_52 : decode cX3_fever 52 = .ok (.aload_n 0, 1) := by decide +kernel
theorem dX3_fever_53 : decode cX3_fever 53 = .ok (.iload_n 2, 1) := by decide +kernel
theorem dX3_fever_54 : decode cX3_fever 54 = .ok (.bipush 6, 2) := by decide +kernel
theorem dX3_fever_56 : decode cX3_fever 56 = .ok (.iconst 1, 1) := by decide +kernel
theorem dX3_fever_57 : decode cX3_fever 57 = .ok (.invokevirtual 80, 3) := by decide +kernel
theorem dX3_fever_60 : decode cX3_fever 60 = .ok (.aload_n 0, 1) := by decide +kernel
theorem dX3_fever_61 : decode cX3_fever 61 = .ok (.iload_n 2, 1) := by decide +kernel
theorem dX3_fever_62 : decode cX3_fever 62 = .ok (.bipush 7, 2) := by decide +kernel
theorem dX3_fever_64 : decode cX3_fever 64 = .ok (.bipush 6, 2) := by decide +kernel
theorem dX3_fever_66 : decode cX3_fever 66 = .ok (.aload_n 0, 1) := by decide +kernel
theorem dX3_fever_67 : decode cX3_fever 67 = .ok (.iload_n 2, 1) := by decide +kernel
theorem dX3_fever_68 : decode cX3_fever 68 = .ok (.iconst 1, 1) := by decide +kernel
theorem dX3_fever_69 : decode cX3_fever 69 = .ok (.invokevirtual 57, 3) := by decide +kernel
theorem dX3_fever_72 : decode cX3_fever 72 = .ok (.iconst 4, 1) := by decide +kernel
theorem dX3_fever_73 : decode cX3_fever 73 = .ok (.idiv, 1) := by decide +kernel
theorem dX3_fever_74 : decode cX3_fever 74 = .ok (.isub, 1) := by decide +kernel
theorem dX3_fever_75 : decode cX3_fever 75 = .ok (.invokevirtual 80, 3) := by decide +kernel
theorem dX3_fever_78 : decode cX3_fever 78 = .ok (.aload_n 0, 1) := by decide +kernel
theorem dX3_fever_79 : decode cX3_fever 79 = .ok (.iload_n 2, 1) := by decide +kernel
theorem dX3_fever_80 : decode cX3_fever 80 = .ok (.bipush 8, 2) := by decide +kernel
theorem dX3_fever_82 : decode cX3_fever 82 = .ok (.iconst 0, 1) := by decide +kernel
theorem dX3_fever_83 : decode cX3_fever 83 = .ok (.invokevirtual 80, 3) := by decide +kernel
theorem dX3_fever_86 : decode cX3_fever 86 = .ok (.iinc 2 1, 3) := by decide +kernel
theorem dX3_fever_89 : decode cX3_fever 89 = .ok (.goto (-71), 3) := by decide +kernel
theorem dX3_fever_92 : decode cX3_fever 92 = .ok (.return_, 1) := by decide +kernel
set_option maxRecDepth 20000 in
theorem ggX3_heal_X3_set : GoodIn wsX3_heal wsX3_set := goodIn_r _ [5, 6, 7, 8, 9, 10, 11, 12, 13, 14, 15, 16, 17, 18] (by decide +kernel) (by decide +kernel)
set_option maxRecDepth 20000 in
theorem gX3_heal_X3_set : GoodIn wsX3_heal (wsV RX3 80 RX3 yX3_set wsX3_set) := goodIn_app (goodIn_of _ (by decide +kernel)) ggX3_heal_X3_set
theorem dX3_heal_0 : decode cX3_heal 0 = .ok (.aload_n 0, 1) := by decide +kernel
theorem dX3_heal_1 : decode cX3_heal 1 = .ok (.iload_n 1, 1) := by decide +kernel
theorem dX3_heal_2 : decode cX3_heal 2 = .ok (.bipush 6, 2) := by decide +kernel
theorem dX3_heal_4 : decode cX3_heal 4 = .ok (.iload_n 2, 1) := by decide +kernel
theorem dX3_heal_5 : decode cX3_heal 5 = .ok (.invokevirtual 80, 3) := by decide +kernel
theorem dX3_heal_8 : decode cX3_heal 8 = .ok (.aload_n 0, 1) := by decide +kernel
theorem dX3_heal_9 : decode cX3_heal 9 = .ok (.iload_n 1, 1) := by decide +kernel
theorem dX3_heal_10 : decode cX3_heal 10 = .ok (.bipush 7, 2) := by decide +kernel
theorem dX3_heal_12 : decode cX3_heal 12 = .ok (.iconst 0, 1) := by decide +kernel
theorem dX3_heal_13 : decode cX3_heal 13 = .ok (.invokevirtual 80, 3) := by decide +kernel
theorem dX3_heal_16 : decode cX3_heal 16 = .ok (.aload_n 0, 1) := by decide +kernel
theorem dX3_heal_17 : decode cX3_heal 17 = .ok (.iload_n 1, 1) := by decide +kernel
theorem dX3_heal_18 : decode cX3_heal 18 = .ok (.bipush 8, 2) := by decide +kernel
theorem dX3_heal_20 : decode cX3_heal 20 = .ok (.iconst 0, 1) := by decide +kernel
theorem dX3_heal_21 : decode cX3_heal 21 = .ok (.invokevirtual 80, 3) := by decide +kernel
theorem dX3_heal_24 : decode cX3_heal 24 = .ok (.iload_n 2, 1) := by decide +kernel
theorem dX3_heal_25 : decode cX3_heal 25 = .ok (.ifCond .ne 4, 3) := by decide +kernel
theorem dX3_heal_28 : decode cX3_heal 28 = .ok (.return_, 1) := by decide +kernel
theorem dX3_heal_29 : decode cX3_heal 29 = .ok (.aload_n 0, 1) := by decide +kernel
theorem dX3_heal_30 : decode cX3_heal 30 = .ok (.iload_n 1, 1) := by decide +kernel
theorem dX3_heal_31 : decode cX3_heal 31 = .ok (.iconst 5, 1) := by decide +kernel
theorem dX3_heal_32 : decode cX3_heal 32 = .ok (.iconst (-1), 1) := by decide +kernel
theorem dX3_heal_33 : decode cX3_heal 33 = .ok (.invokevirtual 80, 3) := by decide +kernel
theorem dX3_heal_36 : decode cX3_heal 36 = .ok (.aload_n 0, 1) := by decide +kernel
theorem dX3_heal_37 : decode cX3_heal 37 = .ok (.iload_n 1, 1) := by decide +kernel
theorem dX3_heal_38 : decode cX3_heal 38 = .ok (.iconst 4, 1) := by decide +kernel
theorem dX3_heal_39 : decode cX3_heal 39 = .ok (.iconst 0, 1) := by decide +kernel
theorem dX3_heal_40 : decode cX3_heal 40 = .ok (.invokevirtual 80, 3) := by decide +kernel
theorem dX3_heal_43 : decode cX3_heal 43 = .ok (.aload_n 0, 1) := by decide +kernel
theorem dX3_heal_44 : decode cX3_heal 44 = .ok (.iload_n 1, 1) := by decide +kernel
theorem dX3_heal_45 : decode cX3_heal 45 = .ok (.iconst 3, 1) := by decide +kernel
theorem dX3_heal_46 : decode cX3_heal 46 = .ok (.iconst 0, 1) := by decide +kernel
theorem dX3_heal_47 : decode cX3_heal 47 = .ok (.invokevirtual 80, 3) := by decide +kernel
theorem dX3_heal_50 : decode cX3_heal 50 = .ok (.return_, 1) := by decide +kernel
theorem dX3_pay_0 : decode cX3_pay 0 = .ok (.aload_n 0, 1) := by decide +kernel
theorem dX3_pay_1 : decode cX3_pay 1 = .ok (.getfield 15, 3) := by decide +kernel
theorem dX3_pay_4 : decode cX3_pay 4 = .ok (.iload_n 1, 1) := by decide +kernel
theorem dX3_pay_5 : decode cX3_pay 5 = .ok (.invokestatic 69, 3) := by decide +kernel
theorem dX3_pay_8 : decode cX3_pay 8 = .ok (.istore_n 2, 1) := by decide +kernel
theorem dX3_pay_9 : decode cX3_pay 9 = .ok (.iload_n 2, 1) := by decide +kernel
theorem dX3_pay_10 : decode cX3_pay 10 = .ok (.iload_n 1, 1) := by decide +kernel
theorem dX3_pay_11 : decode cX3_pay 11 = .ok (.if_icmp .ge 8, 3) := by decide +kernel
theorem dX3_pay_14 : decode cX3_pay 14 = .ok (.aload_n 0, 1) := by decide +kernel
theorem dX3_pay_15 : decode cX3_pay 15 = .ok (.iconst 1, 1) := by decide +kernel
theorem dX3_pay_16 : decode cX3_pay 16 = .ok (.putfield 47, 3) := by decide +kernel
theorem dX3_pay_19 : decode cX3_pay 19 = .ok (.aload_n 0, 1) := by decide +kernel
theorem dX3_pay_20 : decode cX3_pay 20 = .ok (.dup, 1) := by decide +kernel
theorem dX3_pay_21 : decode cX3_pay 21 = .ok (.getfield 15, 3) := by decide +kernel
theorem dX3_pay_24 : decode cX3_pay 24 = .ok (.iload_n 2, 1) := by decide +kernel
theorem dX3_pay_25 : decode cX3_pay 25 = .ok (.isub, 1) := by decide +kernel
theorem dX3_pay_26 : decode cX3_pay 26 = .ok (.putfield 15, 3) := by decide +kernel
theorem dX3_pay_29 : decode cX3_pay 29 = .ok (.iload_n 2, 1) := by decide +kernel
theorem dX3_pay_30 : decode cX3_pay 30 = .ok (.ireturn, 1) := by decide +kernel
set_option maxRecDepth 20000 in
theorem ggX3_nurse_X3_of : GoodIn wsX3_nurse wsX3_of := goodIn_r _ [6, 7, 26, 27, 28, 29, 30, 31, 32, 33, 34, 35, 36, 37] (by decide +kernel) (by decide +kernel)
set_option maxRecDepth 20000 in
theorem gX3_nurse_X3_of : GoodIn wsX3_nurse (wsV RX3 57 RX3 yX3_of wsX3_of) := goodIn_app (goodIn_of _ (by decide +kernel)) ggX3_nurse_X3_of
set_option maxRecDepth 20000 in
theorem ggX3_nurse_X3_set : GoodIn wsX3_nurse wsX3_set := goodIn_r _ [11, 7, 26, 27, 28, 29, 30, 31, 32, 33, 34, 35, 36, 37] (by decide +kernel) (by decide +kernel)
set_option maxRecDepth 20000 in
theorem gX3_nurse_X3_set : GoodIn wsX3_nurse (wsV RX3 80 RX3 yX3_set wsX3_set) := goodIn_app (goodIn_of _ (by decide +kernel)) ggX3_nurse_X3_set
set_option maxRecDepth 20000 in
theorem ggX3_nurse_X3_heal : GoodIn wsX3_nurse wsX3_heal := goodIn_r _ [15, 8, 9, 10, 5, 11, 7, 26, 27, 28, 29, 30, 31, 32, 33, 34, 35, 36, 37] (by decide +kernel) (by decide +kernel)
set_option maxRecDepth 20000 in
theorem gX3_nurse_X3_heal : GoodIn wsX3_nurse (wsV RX3 87 RX3 yX3_heal wsX3_heal) := goodIn_app (goodIn_of _ (by decide +kernel)) ggX3_nurse_X3_heal
set_option maxRecDepth 20000 in
theorem ggX3_nurse_X3_pay : GoodIn wsX3_nurse wsX3_pay := goodIn_r _ [19, 20, 21, 22, 23, 24, 25, 26, 27, 28, 29, 30, 31, 32, 33, 34, 35, 36, 37] (by decide +kernel) (by decide +kernel)
set_option maxRecDepth 20000 in
theorem gX3_nurse_X3_pay : GoodIn wsX3_nurse (wsV RX3 91 RX3 yX3_pay wsX3_pay) := goodIn_app (goodIn_of _ (by decide +kernel)) ggX3_nurse_X3_pay
theorem dX3_nurse_0 : decode cX3_nurse 0 = .ok (.aload_n 0, 1) := by decide +kernel
theorem dX3_nurse_1 : decode cX3_nurse 1 = .ok (.iload_n 1, 1) := by decide +kernel
theorem dX3_nurse_2 : decode cX3_nurse 2 = .ok (.iconst 1, 1) := by decide +kernel
theorem dX3_nurse_3 : decode cX3_nurse 3 = .ok (.aload_n 0, 1) := by decide +kernel
theorem dX3_nurse_4 : decode cX3_nurse 4 = .ok (.iload_n 1, 1) := by decide +kernel
theorem dX3_nurse_5 : decode cX3_nurse 5 = .ok (.iconst 1, 1) := by decide +kernel
theorem dX3_nurse_6 : decode cX3_nurse 6 = .ok (.invokevirtual 57, 3) := by decide +kernel
theorem dX3_nurse_9 : decode cX3_nurse 9 = .ok (.iconst 1, 1) := by decide +kernel
theorem dX3_nurse_10 : decode cX3_nurse 10 = .ok (.isub, 1) := by decide +kernel
theorem dX3_nurse_11 : decode cX3_nurse 11 = .ok (.invokevirtual 80, 3) := by decide +kernel
theorem dX3_nurse_14 : decode cX3_nurse 14 = .ok (.aload_n 0, 1) := by decide +kernel
theorem dX3_nurse_15 : decode cX3_nurse 15 = .ok (.iload_n 1, 1) := by decide +kernel
theorem dX3_nurse_16 : decode cX3_nurse 16 = .ok (.iconst 1, 1) := by decide +kernel
theorem dX3_nurse_17 : decode cX3_nurse 17 = .ok (.invokevirtual 57, 3) := by decide +kernel
theorem dX3_nurse_20 : decode cX3_nurse 20 = .ok (.ifCond .ne 10, 3) := by decide +kernel
theorem dX3_nurse_23 : decode cX3_nurse 23 = .ok (.aload_n 0, 1) := by decide +kernel
theorem dX3_nurse_24 : decode cX3_nurse 24 = .ok (.iload_n 1, 1) := by decide +kernel
theorem dX3_nurse_25 : decode cX3_nurse 25 = .ok (.iconst 2, 1) := by decide +kernel
theorem dX3_nurse_26 : decode cX3_nurse 26 = .ok (.invokevirtual 87, 3) := by decide +kernel
theorem dX3_nurse_29 : decode cX3_nurse 29 = .ok (.return_, 1) := by decide +kernel
theorem dX3_nurse_30 : decode cX3_nurse 30 = .ok (.aload_n 0, 1) := by decide +kernel
theorem dX3_nurse_31 : decode cX3_nurse 31 = .ok (.iload_n 1, 1) := by decide +kernel
theorem dX3_nurse_32 : decode cX3_nurse 32 = .ok (.bipush 8, 2) := by decide +kernel
theorem dX3_nurse_34 : decode cX3_nurse 34 = .ok (.aload_n 0, 1) := by decide +kernel
theorem dX3_nurse_35 : decode cX3_nurse 35 = .ok (.iload_n 1, 1) := by decide +kernel
theorem dX3_nurse_36 : decode cX3_nurse 36 = .ok (.bipush 8, 2) := by decide +kernel
theorem dX3_nurse_38 : decode cX3_nurse 38 = .ok (.invokevirtual 57, 3) := by decide +kernel
theorem dX3_nurse_41 : decode cX3_nurse 41 = .ok (.iconst 1, 1) := by decide +kernel
theorem dX3_nurse_42 : decode cX3_nurse 42 = .ok (.iadd, 1) := by decide +kernel
theorem dX3_nurse_43 : decode cX3_nurse 43 = .ok (.invokevirtual 80, 3) := by decide +kernel
theorem dX3_nurse_46 : decode cX3_nurse 46 = .ok (.aload_n 0, 1) := by decide +kernel
theorem dX3_nurse_47 : decode cX3_nurse 47 = .ok (.iload_n 1, 1) := by decide +kernel
theorem dX3_nurse_48 : decode cX3_nurse 48 = .ok (.bipush 7, 2) := by decide +kernel
theorem dX3_nurse_50 : decode cX3_nurse 50 = .ok (.aload_n 0, 1) := by decide +kernel
theorem dX3_nurse_51 : decode cX3_nurse 51 = .ok (.iload_n 1, 1) := by decide +kernel
theorem dX3_nurse_52 : decode cX3_nurse 52 = .ok (.bipush 7, 2) := by decide +kernel
theorem dX3_nurse_54 : decode cX3_nurse 54 = .ok (.invokevirtual 57, 3) := by decide +kernel
theorem dX3_nurse_57 : decode cX3_nurse 57 = .ok (.iconst 1, 1) := by decide +kernel
theorem dX3_nurse_58 : decode cX3_nurse 58 = .ok (.isub, 1) := by decide +kernel
theorem dX3_nurse_59 : decode cX3_nurse 59 = .ok (.invokevirtual 80, 3) := by decide +kernel
theorem dX3_nurse_62 : decode cX3_nurse 62 = .ok (.aload_n 0, 1) := by decide +kernel
theorem dX3_nurse_63 : decode cX3_nurse 63 = .ok (.iload_n 1, 1) := by decide +kernel
theorem dX3_nurse_64 : decode cX3_nurse 64 = .ok (.iconst 4, 1) := by decide +kernel
theorem dX3_nurse_65 : decode cX3_nurse 65 = .ok (.invokevirtual 57, 3) := by decide +kernel
theorem dX3_nurse_68 : decode cX3_nurse 68 = .ok (.iconst 3, 1) := by decide +kernel
theorem dX3_nurse_69 : decode cX3_nurse 69 = .ok (.if_icmp .ge 48, 3) := by decide +kernel
theorem dX3_nurse_72 : decode cX3_nurse 72 = .ok (.aload_n 0, 1) := by decide +kernel
theorem dX3_nurse_73 : decode cX3_nurse 73 = .ok (.aload_n 0, 1) := by decide +kernel
theorem dX3_nurse_74 : decode cX3_nurse 74 = .ok (.iload_n 1, 1) := by decide +kernel
theorem dX3_nurse_75 : decode cX3_nurse 75 = .ok (.bipush 8, 2) := by decide +kernel
theorem dX3_nurse_77 : decode cX3_nurse 77 = .ok (.invokevirtual 57, 3) := by decide +kernel
theorem dX3_nurse_80 : decode cX3_nurse 80 = .ok (.iconst 3, 1) := by decide +kernel
theorem dX3_nurse_81 : decode cX3_nurse 81 = .ok (.if_icmp .gt 7, 3) := by decide +kernel
theorem dX3_nurse_84 : decode cX3_nurse 84 = .ok (.iconst 5, 1) := by decide +kernel
theorem dX3_nurse_85 : decode cX3_nurse 85 = .ok (.goto 4, 3) := by decide +kernel
theorem dX3_nurse_88 : decode cX3_nurse 88 = .ok (.iconst 2, 1) := by decide +kernel
theorem dX3_nurse_89 : decode cX3_nurse 89 = .ok (.invokevirtual 91, 3) := by decide +kernel
theorem dX3_nurse_92 : decode cX3_nurse 92 = .ok (.istore_n 2, 1) := by decide +kernel
theorem dX3_nurse_93 : decode cX3_nurse 93 = .ok (.aload_n 0, 1) := by decide +kernel
theorem dX3_nurse_94 : decode cX3_nurse 94 = .ok (.dup, 1) := by decide +kernel
theorem dX3_nurse_95 : decode cX3_nurse 95 = .ok (.getfield 41, 3) := by decide +kernel
theorem dX3_nurse_98 : decode cX3_nurse 98 = .ok (.iload_n 2, 1) := by decide +kernel
theorem dX3_nurse_99 : decode cX3_nurse 99 = .ok (.iadd, 1) := by decide +kernel
theorem dX3_nurse_100 : decode cX3_nurse 100 = .ok (.putfield 41, 3) := by decide +kernel
theorem dX3_nurse_103 : decode cX3_nurse 103 = .ok (.aload_n 0, 1) := by decide +kernel
theorem dX3_nurse_104 : decode cX3_nurse 104 = .ok (.iload_n 1, 1) := by decide +kernel
theorem dX3_nurse_105 : decode cX3_nurse 105 = .ok (.iconst 2, 1) := by decide +kernel
theorem dX3_nurse_106 : decode cX3_nurse 106 = .ok (.aload_n 0, 1) := by decide +kernel
theorem dX3_nurse_107 : decode cX3_nurse 107 = .ok (.iload_n 1, 1) := by decide +kernel
theorem dX3_nurse_108 : decode cX3_nurse 108 = .ok (.iconst 2, 1) := by decide +kernel
theorem dX3_nurse_109 : decode cX3_nurse 109 = .ok (.invokevirtual 57, 3) := by decide +kernel
theorem dX3_nurse_112 : decode cX3_nurse 112 = .ok (.iload_n 2, 1) := by decide +kernel
theorem dX3_nurse_113 : decode cX3_nurse 113 = .ok (.iadd, 1) := by decide +kernel
theorem dX3_nurse_114 : decode cX3_nurse 114 = .ok (.invokevirtual 80, 3) := by decide +kernel
theorem dX3_nurse_117 : decode cX3_nurse 117 = .ok (.aload_n 0, 1) := by decide +kernel
theorem dX3_nurse_118 : decode cX3_nurse 118 = .ok (.iload_n 1, 1) := by decide +kernel
theorem dX3_nurse_119 : decode cX3_nurse 119 = .ok (.bipush 7, 2) := by decide +kernel
theorem dX3_nurse_121 : decode cX3_nurse 121 = .ok (.invokevirtual 57, 3) := by decide +kernel
theorem dX3_nurse_124 : decode cX3_nurse 124 = .ok (.ifCond .ne 9, 3) := by decide +kernel
theorem dX3_nurse_127 : decode cX3_nurse 127 = .ok (.aload_n 0, 1) := by decide +kernel
theorem dX3_nurse_128 : decode cX3_nurse 128 = .ok (.iload_n 1, 1) := by decide +kernel
theorem dX3_nurse_129 : decode cX3_nurse 129 = .ok (.iconst 0, 1) := by decide +kernel
theorem dX3_nurse_130 : decode cX3_nurse 130 = .ok (.invokevirtual 87, 3) := by decide +kernel
theorem dX3_nurse_133 : decode cX3_nurse 133 = .ok (.return_, 1) := by decide +kernel
set_option maxRecDepth 20000 in
theorem ggX3_payDues_X3_of : GoodIn wsX3_payDues wsX3_of := goodIn_r _ [11, 12, 17, 18, 19, 20, 21, 22, 23, 24, 25, 26, 27, 28] (by decide +kernel) (by decide +kernel)
set_option maxRecDepth 20000 in
theorem gX3_payDues_X3_of : GoodIn wsX3_payDues (wsV RX3 57 RX3 yX3_of wsX3_of) := goodIn_app (goodIn_of _ (by decide +kernel)) ggX3_payDues_X3_of
set_option maxRecDepth 20000 in
theorem ggX3_payDues_X3_set : GoodIn wsX3_payDues wsX3_set := goodIn_r _ [16, 12, 17, 18, 19, 20, 21, 22, 23, 24, 25, 26, 27, 28] (by decide +kernel) (by decide +kernel)
set_option maxRecDepth 20000 in
theorem gX3_payDues_X3_set : GoodIn wsX3_payDues (wsV RX3 80 RX3 yX3_set wsX3_set) := goodIn_app (goodIn_of _ (by decide +kernel)) ggX3_payDues_X3_set
theorem dX3_payDues_0 : decode cX3_payDues 0 = .ok (.aload_n 0, 1) := by decide +kernel
theorem dX3_payDues_1 : decode cX3_payDues 1 = .ok (.iload_n 1, 1) := by decide +kernel
theorem dX3_payDues_2 : decode cX3_payDues 2 = .ok (.iconst 2, 1) := by decide +kernel
theorem dX3_payDues_3 : decode cX3_payDues 3 = .ok (.invokevirtual 57, 3) := by decide +kernel
theorem dX3_payDues_6 : decode cX3_payDues 6 = .ok (.aload_n 0, 1) := by decide +kernel
theorem dX3_payDues_7 : decode cX3_payDues 7 = .ok (.getfield 3, 3) := by decide +kernel
theorem dX3_payDues_10 : decode cX3_payDues 10 = .ok (.getfield 94, 3) := by decide +kernel
theorem dX3_payDues_13 : decode cX3_payDues 13 = .ok (.if_icmp .lt 7, 3) := by decide +kernel
theorem dX3_payDues_16 : decode cX3_payDues 16 = .ok (.iconst 1, 1) := by decide +kernel
theorem dX3_payDues_17 : decode cX3_payDues 17 = .ok (.goto 4, 3) := by decide +kernel
theorem dX3_payDues_20 : decode cX3_payDues 20 = .ok (.iconst 0, 1) := by decide +kernel
theorem dX3_payDues_21 : decode cX3_payDues 21 = .ok (.istore_n 2, 1) := by decide +kernel
theorem dX3_payDues_22 : decode cX3_payDues 22 = .ok (.aload_n 0, 1) := by decide +kernel
theorem dX3_payDues_23 : decode cX3_payDues 23 = .ok (.iload_n 1, 1) := by decide +kernel
theorem dX3_payDues_24 : decode cX3_payDues 24 = .ok (.iconst 4, 1) := by decide +kernel
theorem dX3_payDues_25 : decode cX3_payDues 25 = .ok (.iload_n 2, 1) := by decide +kernel
theorem dX3_payDues_26 : decode cX3_payDues 26 = .ok (.ifCond .eq 7, 3) := by decide +kernel
theorem dX3_payDues_29 : decode cX3_payDues 29 = .ok (.iconst 0, 1) := by decide +kernel
theorem dX3_payDues_30 : decode cX3_payDues 30 = .ok (.goto 16, 3) := by decide +kernel
theorem dX3_payDues_33 : decode cX3_payDues 33 = .ok (.bipush 9, 2) := by decide +kernel
theorem dX3_payDues_35 : decode cX3_payDues 35 = .ok (.aload_n 0, 1) := by decide +kernel
theorem dX3_payDues_36 : decode cX3_payDues 36 = .ok (.iload_n 1, 1) := by decide +kernel
theorem dX3_payDues_37 : decode cX3_payDues 37 = .ok (.iconst 4, 1) := by decide +kernel
theorem dX3_payDues_38 : decode cX3_payDues 38 = .ok (.invokevirtual 57, 3) := by decide +kernel
theorem dX3_payDues_41 : decode cX3_payDues 41 = .ok (.iconst 1, 1) := by decide +kernel
theorem dX3_payDues_42 : decode cX3_payDues 42 = .ok (.iadd, 1) := by decide +kernel
theorem dX3_payDues_43 : decode cX3_payDues 43 = .ok (.invokestatic 69, 3) := by decide +kernel
theorem dX3_payDues_46 : decode cX3_payDues 46 = .ok (.invokevirtual 80, 3) := by decide +kernel
theorem dX3_payDues_49 : decode cX3_payDues 49 = .ok (.iload_n 2, 1) := by decide +kernel
theorem dX3_payDues_50 : decode cX3_payDues 50 = .ok (.ifCond .ne 4, 3) := by decide +kernel
theorem dX3_payDues_53 : decode cX3_payDues 53 = .ok (.return_, 1) := by decide +kernel
theorem dX3_payDues_54 : decode cX3_payDues 54 = .ok (.aload_n 0, 1) := by decide +kernel
theorem dX3_payDues_55 : decode cX3_payDues 55 = .ok (.iload_n 1, 1) := by decide +kernel
theorem dX3_payDues_56 : decode cX3_payDues 56 = .ok (.iconst 2, 1) := by decide +kernel
theorem dX3_payDues_57 : decode cX3_payDues 57 = .ok (.aload_n 0, 1) := by decide +kernel
theorem dX3_payDues_58 : decode cX3_payDues 58 = .ok (.iload_n 1, 1) := by decide +kernel
theorem dX3_payDues_59 : decode cX3_payDues 59 = .ok (.iconst 2, 1) := by decide +kernel
theorem dX3_payDues_60 : decode cX3_payDues 60 = .ok (.invokevirtual 57, 3) := by decide +kernel
theorem dX3_payDues_63 : decode cX3_payDues 63 = .ok (.aload_n 0, 1) := by decide +kernel
theorem dX3_payDues_64 : decode cX3_payDues 64 = .ok (.getfield 3, 3) := by decide +kernel
theorem dX3_payDues_67 : decode cX3_payDues 67 = .ok (.getfield 94, 3) := by decide +kernel
theorem dX3_payDues_70 : decode cX3_payDues 70 = .ok (.isub, 1) := by decide +kernel
theorem dX3_payDues_71 : decode cX3_payDues 71 = .ok (.invokevirtual 80, 3) := by decide +kernel
theorem dX3_payDues_74 : decode cX3_payDues 74 = .ok (.aload_n 0, 1) := by decide +kernel
theorem dX3_payDues_75 : decode cX3_payDues 75 = .ok (.dup, 1) := by decide +kernel
theorem dX3_payDues_76 : decode cX3_payDues 76 = .ok (.getfield 15, 3) := by decide +kernel
theorem dX3_payDues_79 : decode cX3_payDues 79 = .ok (.aload_n 0, 1) := by decide +kernel
theorem dX3_payDues_80 : decode cX3_payDues 80 = .ok (.getfield 3, 3) := by decide +kernel
theorem dX3_payDues_83 : decode cX3_payDues 83 = .ok (.getfield 94, 3) := by decide +kernel
theorem dX3_payDues_86 : decode cX3_payDues 86 = .ok (.iadd, 1) := by decide +kernel
theorem dX3_payDues_87 : decode cX3_payDues 87 = .ok (.putfield 15, 3) := by decide +kernel
theorem dX3_payDues_90 : decode cX3_payDues 90 = .ok (.return_, 1) := by decide +kernel
set_option maxRecDepth 20000 in
theorem ggX3_settle_X3_of : GoodIn wsX3_settle wsX3_of := goodIn_r _ [10, 11, 16, 17, 18, 19, 20, 21, 22, 23, 24, 25, 26, 27] (by decide +kernel) (by decide +kernel)
set_option maxRecDepth 20000 in
theorem gX3_settle_X3_of : GoodIn wsX3_settle (wsV RX3 57 RX3 yX3_of wsX3_of) := goodIn_app (goodIn_of _ (by decide +kernel)) ggX3_settle_X3_of
set_option maxRecDepth 20000 in
theorem ggX3_settle_X3_set : GoodIn wsX3_settle wsX3_set := goodIn_r _ [15, 11, 16, 17, 18, 19, 20, 21, 22, 23, 24, 25, 26, 27] (by decide +kernel) (by decide +kernel)
set_option maxRecDepth 20000 in
theorem gX3_settle_X3_set : GoodIn wsX3_settle (wsV RX3 80 RX3 yX3_set wsX3_set) := goodIn_app (goodIn_of _ (by decide +kernel)) ggX3_settle_X3_set
theorem dX3_settle_0 : decode cX3_settle 0 = .ok (.aload_n 0, 1) := by decide +kernel
theorem dX3_settle_1 : decode cX3_settle 1 = .ok (.iload_n 1, 1) := by decide +kernel
theorem dX3_settle_2 : decode cX3_settle 2 = .ok (.iconst 3, 1) := by decide +kernel
theorem dX3_settle_3 : decode cX3_settle 3 = .ok (.invokevirtual 57, 3) := by decide +kernel
theorem dX3_settle_6 : decode cX3_settle 6 = .ok (.aload_n 0, 1) := by decide +kernel
theorem dX3_settle_7 : decode cX3_settle 7 = .ok (.iload_n 1, 1) := by decide +kernel
theorem dX3_settle_8 : decode cX3_settle 8 = .ok (.iconst 2, 1) := by decide +kernel
theorem dX3_settle_9 : decode cX3_settle 9 = .ok (.invokevirtual 57, 3) := by decide +kernel
theorem dX3_settle_12 : decode cX3_settle 12 = .ok (.invokestatic 69, 3) := by decide +kernel
theorem dX3_settle_15 : decode cX3_settle 15 = .ok (.istore_n 2, 1) := by decide +kernel
theorem dX3_settle_16 : decode cX3_settle 16 = .ok (.aload_n 0, 1) := by decide +kernel
theorem dX3_settle_17 : decode cX3_settle 17 = .ok (.iload_n 1, 1) := by decide +kernel
theorem dX3_settle_18 : decode cX3_settle 18 = .ok (.iconst 3, 1) := by decide +kernel
theorem dX3_settle_19 : decode cX3_settle 19 = .ok (.aload_n 0, 1) := by decide +kernel
theorem dX3_settle_20 : decode cX3_settle 20 = .ok (.iload_n 1, 1) := by decide +kernel
theorem dX3_settle_21 : decode cX3_settle 21 = .ok (.iconst 3, 1) := by decide +kernel
theorem dX3_settle_22 : decode cX3_settle 22 = .ok (.invokevirtual 57, 3) := by decide +kernel
theorem dX3_settle_25 : decode cX3_settle 25 = .ok (.iload_n 2, 1) := by decide +kernel
theorem dX3_settle_26 : decode cX3_settle 26 = .ok (.isub, 1) := by decide +kernel
theorem dX3_settle_27 : decode cX3_settle 27 = .ok (.invokevirtual 80, 3) := by decide +kernel
theorem dX3_settle_30 : decode cX3_settle 30 = .ok (.aload_n 0, 1) := by decide +kernel
theorem dX3_settle_31 : decode cX3_settle 31 = .ok (.iload_n 1, 1) := by decide +kernel
theorem dX3_settle_32 : decode cX3_settle 32 = .ok (.iconst 2, 1) := by decide +kernel
theorem dX3_settle_33 : decode cX3_settle 33 = .ok (.aload_n 0, 1) := by decide +kernel
theorem dX3_settle_34 : decode cX3_settle 34 = .ok (.iload_n 1, 1) := by decide +kernel
theorem dX3_settle_35 : decode cX3_settle 35 = .ok (.iconst 2, 1) := by decide +kernel
theorem dX3_settle_36 : decode cX3_settle 36 = .ok (.invokevirtual 57, 3) := by decide +kernel
theorem dX3_settle_39 : decode cX3_settle 39 = .ok (.iload_n 2, 1) := by decide +kernel
theorem dX3_settle_40 : decode cX3_settle 40 = .ok (.isub, 1) := by decide +kernel
theorem dX3_settle_41 : decode cX3_settle 41 = .ok (.invokevirtual 80, 3) := by decide +kernel
theorem dX3_settle_44 : decode cX3_settle 44 = .ok (.aload_n 0, 1) := by decide +kernel
theorem dX3_settle_45 : decode cX3_settle 45 = .ok (.dup, 1) := by decide +kernel
theorem dX3_settle_46 : decode cX3_settle 46 = .ok (.getfield 15, 3) := by decide +kernel
theorem dX3_settle_49 : decode cX3_settle 49 = .ok (.iload_n 2, 1) := by decide +kernel
theorem dX3_settle_50 : decode cX3_settle 50 = .ok (.iadd, 1) := by decide +kernel
theorem dX3_settle_51 : decode cX3_settle 51 = .ok (.putfield 15, 3) := by decide +kernel
theorem dX3_settle_54 : decode cX3_settle 54 = .ok (.aload_n 0, 1) := by decide +kernel
theorem dX3_settle_55 : decode cX3_settle 55 = .ok (.iload_n 1, 1) := by decide +kernel
theorem dX3_settle_56 : decode cX3_settle 56 = .ok (.iconst 3, 1) := by decide +kernel
theorem dX3_settle_57 : decode cX3_settle 57 = .ok (.invokevirtual 57, 3) := by decide +kernel
theorem dX3_settle_60 : decode cX3_settle 60 = .ok (.ireturn, 1) := by decide +kernel
set_option maxRecDepth 20000 in
theorem ggX3_drink_X3_of : GoodIn wsX3_drink wsX3_of := goodIn_r _ [9, 10, 20, 21, 22, 23, 24, 25, 26, 27, 28, 29, 30, 31] (by decide +kernel) (by decide +kernel)
set_option maxRecDepth 20000 in
theorem gX3_drink_X3_of : GoodIn wsX3_drink (wsV RX3 57 RX3 yX3_of wsX3_of) := goodIn_app (goodIn_of _ (by decide +kernel)) ggX3_drink_X3_of
set_option maxRecDepth 20000 in
theorem ggX3_drink_X3_set : GoodIn wsX3_drink wsX3_set := goodIn_r _ [14, 10, 20, 21, 22, 23, 24, 25, 26, 27, 28, 29, 30, 31] (by decide +kernel) (by decide +kernel)
set_option maxRecDepth 20000 in
theorem gX3_drink_X3_set : GoodIn wsX3_drink (wsV RX3 80 RX3 yX3_set wsX3_set) := goodIn_app (goodIn_of _ (by decide +kernel)) ggX3_drink_X3_set
set_option maxRecDepth 20000 in
theorem ggX3_drink_X3_settle : GoodIn wsX3_drink wsX3_settle := goodIn_r _ [18, 1, 2, 3, 4, 19, 5, 6, 7, 8, 9, 10, 11, 12, 13, 14, 20, 21, 22, 23, 24, 25, 26, 27, 28, 29, 30, 31] (by decide +kernel) (by decide +kernel)
set_option maxRecDepth 20000 in
theorem gX3_drink_X3_settle : GoodIn wsX3_drink (wsV RX3 97 RX3 yX3_settle wsX3_settle) := goodIn_app (goodIn_of _ (by decide +kernel)) ggX3_drink_X3_settle
theorem dX3_drink_0 : decode cX3_drink 0 = .ok (.aload_n 0, 1) := by decide +kernel
theorem dX3_drink_1 : decode cX3_drink 1 = .ok (.iload_n 1, 1) := by decide +kernel
theorem dX3_drink_2 : decode cX3_drink 2 = .ok (.iconst 3, 1) := by decide +kernel
theorem dX3_drink_3 : decode cX3_drink 3 = .ok (.invokevirtual 57, 3) := by decide +kernel
theorem dX3_drink_6 : decode cX3_drink 6 = .ok (.bipush 12, 2) := by decide +kernel
theorem dX3_drink_8 : decode cX3_drink 8 = .ok (.if_icmp .ge 27, 3) := by decide +kernel
theorem dX3_drink_11 : decode cX3_drink 11 = .ok (.aload_n 0, 1) := by decide +kernel
theorem dX3_drink_12 : decode cX3_drink 12 = .ok (.iload_n 1, 1) := by decide +kernel
theorem dX3_drink_13 : decode cX3_drink 13 = .ok (.iconst 3, 1) := by decide +kernel
theorem dX3_drink_14 : decode cX3_drink 14 = .ok (.aload_n 0, 1) := by decide +kernel
theorem dX3_drink_15 : decode cX3_drink 15 = .ok (.iload_n 1, 1) := by decide +kernel
theorem dX3_drink_16 : decode cX3_drink 16 = .ok (.iconst 3, 1) := by decide +kernel
theorem dX3_drink_17 : decode cX3_drink 17 = .ok (.invokevirtual 57, 3) := by decide +kernel
theorem dX3_drink_20 : decode cX3_drink 20 = .ok (.iconst 1, 1) := by decide +kernel
theorem dX3_drink_21 : decode cX3_drink 21 = .ok (.iadd, 1) := by decide +kernel
theorem dX3_drink_22 : decode cX3_drink 22 = .ok (.aload_n 0, 1) := by decide +kernel
theorem dX3_drink_23 : decode cX3_drink 23 = .ok (.iload_n 1, 1) := by decide +kernel
theorem dX3_drink_24 : decode cX3_drink 24 = .ok (.iconst 2, 1) := by decide +kernel
theorem dX3_drink_25 : decode cX3_drink 25 = .ok (.invokevirtual 57, 3) := by decide +kernel
theorem dX3_drink_28 : decode cX3_drink 28 = .ok (.bipush 8, 2) := by decide +kernel
theorem dX3_drink_30 : decode cX3_drink 30 = .ok (.idiv, 1) := by decide +kernel
theorem dX3_drink_31 : decode cX3_drink 31 = .ok (.iadd, 1) := by decide +kernel
theorem dX3_drink_32 : decode cX3_drink 32 = .ok (.invokevirtual 80, 3) := by decide +kernel
theorem dX3_drink_35 : decode cX3_drink 35 = .ok (.aload_n 0, 1) := by decide +kernel
theorem dX3_drink_36 : decode cX3_drink 36 = .ok (.iload_n 1, 1) := by decide +kernel
theorem dX3_drink_37 : decode cX3_drink 37 = .ok (.invokevirtual 97, 3) := by decide +kernel
theorem dX3_drink_40 : decode cX3_drink 40 = .ok (.pop, 1) := by decide +kernel
theorem dX3_drink_41 : decode cX3_drink 41 = .ok (.aload_n 0, 1) := by decide +kernel
theorem dX3_drink_42 : decode cX3_drink 42 = .ok (.iload_n 1, 1) := by decide +kernel
theorem dX3_drink_43 : decode cX3_drink 43 = .ok (.iconst 1, 1) := by decide +kernel
theorem dX3_drink_44 : decode cX3_drink 44 = .ok (.bipush 20, 2) := by decide +kernel
theorem dX3_drink_46 : decode cX3_drink 46 = .ok (.aload_n 0, 1) := by decide +kernel
theorem dX3_drink_47 : decode cX3_drink 47 = .ok (.iload_n 1, 1) := by decide +kernel
theorem dX3_drink_48 : decode cX3_drink 48 = .ok (.iconst 1, 1) := by decide +kernel
theorem dX3_drink_49 : decode cX3_drink 49 = .ok (.invokevirtual 57, 3) := by decide +kernel
theorem dX3_drink_52 : decode cX3_drink 52 = .ok (.iconst 1, 1) := by decide +kernel
theorem dX3_drink_53 : decode cX3_drink 53 = .ok (.iadd, 1) := by decide +kernel
theorem dX3_drink_54 : decode cX3_drink 54 = .ok (.invokestatic 69, 3) := by decide +kernel
theorem dX3_drink_57 : decode cX3_drink 57 = .ok (.invokevirtual 80, 3) := by decide +kernel
theorem dX3_drink_60 : decode cX3_drink 60 = .ok (.return_, 1) := by decide +kernel
set_option maxRecDepth 20000 in
theorem ggX3_bury_X3_pay : GoodIn wsX3_bury wsX3_pay := goodIn_r _ [8, 2, 9, 10, 11, 12, 13, 23, 24, 25, 26, 27, 28, 29, 30, 31, 32, 33, 34] (by decide +kernel) (by decide +kernel)
set_option maxRecDepth 20000 in
theorem gX3_bury_X3_pay : GoodIn wsX3_bury (wsV RX3 91 RX3 yX3_pay wsX3_pay) := goodIn_app (goodIn_of _ (by decide +kernel)) ggX3_bury_X3_pay
set_option maxRecDepth 20000 in
theorem ggX3_bury_X3_of : GoodIn wsX3_bury wsX3_of := goodIn_r _ [17, 18, 23, 24, 25, 26, 27, 28, 29, 30, 31, 32, 33, 34] (by decide +kernel) (by decide +kernel)
set_option maxRecDepth 20000 in
theorem gX3_bury_X3_of : GoodIn wsX3_bury (wsV RX3 57 RX3 yX3_of wsX3_of) := goodIn_app (goodIn_of _ (by decide +kernel)) ggX3_bury_X3_of
set_option maxRecDepth 20000 in
theorem ggX3_bury_X3_set : GoodIn wsX3_bury wsX3_set := goodIn_r _ [22, 18, 23, 24, 25, 26, 27, 28, 29, 30, 31, 32, 33, 34] (by decide +kernel) (by decide +kernel)
set_option maxRecDepth 20000 in
theorem gX3_bury_X3_set : GoodIn wsX3_bury (wsV RX3 80 RX3 yX3_set wsX3_set) := goodIn_app (goodIn_of _ (by decide +kernel)) ggX3_bury_X3_set
theorem dX3_bury_0 : decode cX3_bury 0 = .ok (.aload_n 0, 1) := by decide +kernel
theorem dX3_bury_1 : decode cX3_bury 1 = .ok (.dup, 1) := by decide +kernel
theorem dX3_bury_2 : decode cX3_bury 2 = .ok (.getfield 44, 3) := by decide +kernel
theorem dX3_bury_5 : decode cX3_bury 5 = .ok (.aload_n 0, 1) := by decide +kernel
theorem dX3_bury_6 : decode cX3_bury 6 = .ok (.bipush 12, 2) := by decide +kernel
theorem dX3_bury_8 : decode cX3_bury 8 = .ok (.invokevirtual 91, 3) := by decide +kernel
theorem dX3_bury_11 : decode cX3_bury 11 = .ok (.iadd, 1) := by decide +kernel
theorem dX3_bury_12 : decode cX3_bury 12 = .ok (.putfield 44, 3) := by decide +kernel
theorem dX3_bury_15 : decode cX3_bury 15 = .ok (.aload_n 0, 1) := by decide +kernel
theorem dX3_bury_16 : decode cX3_bury 16 = .ok (.dup, 1) := by decide +kernel
theorem dX3_bury_17 : decode cX3_bury 17 = .ok (.getfield 15, 3) := by decide +kernel
theorem dX3_bury_20 : decode cX3_bury 20 = .ok (.aload_n 0, 1) := by decide +kernel
theorem dX3_bury_21 : decode cX3_bury 21 = .ok (.iload_n 1, 1) := by decide +kernel
theorem dX3_bury_22 : decode cX3_bury 22 = .ok (.iconst 2, 1) := by decide +kernel
theorem dX3_bury_23 : decode cX3_bury 23 = .ok (.invokevirtual 57, 3) := by decide +kernel
theorem dX3_bury_26 : decode cX3_bury 26 = .ok (.iadd, 1) := by decide +kernel
theorem dX3_bury_27 : decode cX3_bury 27 = .ok (.putfield 15, 3) := by decide +kernel
theorem dX3_bury_30 : decode cX3_bury 30 = .ok (.aload_n 0, 1) := by decide +kernel
theorem dX3_bury_31 : decode cX3_bury 31 = .ok (.iload_n 1, 1) := by decide +kernel
theorem dX3_bury_32 : decode cX3_bury 32 = .ok (.iconst 2, 1) := by decide +kernel
theorem dX3_bury_33 : decode cX3_bury 33 = .ok (.iconst 0, 1) := by decide +kernel
theorem dX3_bury_34 : decode cX3_bury 34 = .ok (.invokevirtual 80, 3) := by decide +kernel
theorem dX3_bury_37 : decode cX3_bury 37 = .ok (.iconst 0, 1) := by decide +kernel
theorem dX3_bury_38 : decode cX3_bury 38 = .ok (.istore_n 2, 1) := by decide +kernel
theorem dX3_bury_39 : decode cX3_bury 39 = .ok (.iload_n 2, 1) := by decide +kernel
theorem dX3_bury_40 : decode cX3_bury 40 = .ok (.aload_n 0, 1) := by decide +kernel
theorem dX3_bury_41 : decode cX3_bury 41 = .ok (.getfield 35, 3) := by decide +kernel
theorem dX3_bury_44 : decode cX3_bury 44 = .ok (.if_icmp .ge 56, 3) := by decide +kernel
theorem dX3_bury_47 : decode cX3_bury 47 = .ok (.aload_n 0, 1) := by decide +kernel
theorem dX3_bury_48 : decode cX3_bury 48 = .ok (.iload_n 2, 1) := by decide +kernel
theorem dX3_bury_49 : decode cX3_bury 49 = .ok (.bipush 6, 2) := by decide +kernel
theorem dX3_bury_51 : decode cX3_bury 51 = .ok (.invokevirtual 57, 3) := by decide +kernel
theorem dX3_bury_54 : decode cX3_bury 54 = .ok (.iconst 2, 1) := by decide +kernel
theorem dX3_bury_55 : decode cX3_bury 55 = .ok (.if_icmp .eq 39, 3) := by decide +kernel
theorem dX3_bury_58 : decode cX3_bury 58 = .ok (.aload_n 0, 1) := by decide +kernel
theorem dX3_bury_59 : decode cX3_bury 59 = .ok (.iload_n 2, 1) := by decide +kernel
theorem dX3_bury_60 : decode cX3_bury 60 = .ok (.iconst 2, 1) := by decide +kernel
theorem dX3_bury_61 : decode cX3_bury 61 = .ok (.invokevirtual 57, 3) := by decide +kernel
theorem dX3_bury_64 : decode cX3_bury 64 = .ok (.ifCond .ne 6, 3) := by decide +kernel
theorem dX3_bury_67 : decode cX3_bury 67 = .ok (.goto 27, 3) := by decide +kernel
theorem dX3_bury_70 : decode cX3_bury 70 = .ok (.aload_n 0, 1) := by decide +kernel
theorem dX3_bury_71 : decode cX3_bury 71 = .ok (.iload_n 2, 1) := by decide +kernel
theorem dX3_bury_72 : decode cX3_bury 72 = .ok (.iconst 2, 1) := by decide +kernel
theorem dX3_bury_73 : decode cX3_bury 73 = .ok (.aload_n 0, 1) := by decide +kernel
theorem dX3_bury_74 : decode cX3_bury 74 = .ok (.iload_n 2, 1) := by decide +kernel
theorem dX3_bury_75 : decode cX3_bury 75 = .ok (.iconst 2, 1) := by decide +kernel
theorem dX3_bury_76 : decode cX3_bury 76 = .ok (.invokevirtual 57, 3) := by decide +kernel
theorem dX3_bury_79 : decode cX3_bury 79 = .ok (.iconst 1, 1) := by decide +kernel
theorem dX3_bury_80 : decode cX3_bury 80 = .ok (.isub, 1) := by decide +kernel
theorem dX3_bury_81 : decode cX3_bury 81 = .ok (.invokevirtual 80, 3) := by decide +kernel
theorem dX3_bury_84 : decode cX3_bury 84 = .ok (.aload_n 0, 1) := by decide +kernel
theorem dX3_bury_85 : decode cX3_bury 85 = .ok (.dup, 1) := by decide +kernel
theorem dX3_bury_86 : decode cX3_bury 86 = .ok (.getfield 15, 3) := by decide +kernel
theorem dX3_bury_89 : decode cX3_bury 89 = .ok (.iconst 1, 1) := by decide +kernel
theorem dX3_bury_90 : decode cX3_bury 90 = .ok (.iadd, 1) := by decide +kernel
theorem dX3_bury_91 : decode cX3_bury 91 = .ok (.putfield 15, 3) := by decide +kernel
theorem dX3_bury_94 : decode cX3_bury 94 = .ok (.iinc 2 1, 3) := by decide +kernel
theorem dX3_bury_97 : decode cX3_bury 97 = .ok (.goto (-58), 3) := by decide +kernel
theorem dX3_bury_100 : decode cX3_bury 100 = .ok (.return_, 1) := by decide +kernel
set_option maxRecDepth 20000 in
theorem ggX3_pass_X3_fire : GoodIn wsX3_pass wsX3_fire := goodIn_r _ [7, 8, 9, 10, 11, 12, 13, 14, 15, 16, 17, 18, 19, 6, 20, 1, 21, 22, 23, 24, 25, 26, 27, 28, 29, 81, 82, 83, 84, 85, 86, 87, 88, 89, 90, 91, 92] (by decide +kernel) (by decide +kernel)
set_option maxRecDepth 20000 in
theorem gX3_pass_X3_fire : GoodIn wsX3_pass (wsV RX3 100 RX3 yX3_fire wsX3_fire) := goodIn_app (goodIn_of _ (by decide +kernel)) ggX3_pass_X3_fire
set_option maxRecDepth 20000 in
theorem ggX3_pass_X3_comb : GoodIn wsX3_pass wsX3_comb := goodIn_r _ [33, 1, 34, 10, 11, 12, 13, 35, 21, 22, 23, 6, 24, 25, 26, 27, 28, 29, 36, 37, 38, 39, 9, 14, 15, 16, 17, 18, 19, 20, 40, 41, 42, 43, 81, 82, 83, 84, 85, 86, 87, 88, 89, 90, 91, 92] (by decide +kernel) (by decide +kernel)
set_option maxRecDepth 20000 in
theorem gX3_pass_X3_comb : GoodIn wsX3_pass (wsV RX3 103 RX3 yX3_comb wsX3_comb) := goodIn_app (goodIn_of _ (by decide +kernel)) ggX3_pass_X3_comb
set_option maxRecDepth 20000 in
theorem ggX3_pass_X3_fever : GoodIn wsX3_pass wsX3_fever := goodIn_r _ [47, 48, 2, 1, 21, 22, 23, 6, 24, 25, 26, 27, 28, 29, 40, 41, 42, 43, 81, 82, 83, 84, 85, 86, 87, 88, 89, 90, 91, 92, 93, 94, 95, 96, 97] (by decide +kernel) (by decide +kernel)
set_option maxRecDepth 20000 in
theorem gX3_pass_X3_fever : GoodIn wsX3_pass (wsV RX3 106 RX3 yX3_fever wsX3_fever) := goodIn_app (goodIn_of _ (by decide +kernel)) ggX3_pass_X3_fever
set_option maxRecDepth 20000 in
theorem ggX3_pass_X3_of : GoodIn wsX3_pass wsX3_of := goodIn_r _ [28, 29, 81, 82, 83, 84, 85, 86, 87, 88, 89, 90, 91, 92] (by decide +kernel) (by decide +kernel)
set_option maxRecDepth 20000 in
theorem gX3_pass_X3_of : GoodIn wsX3_pass (wsV RX3 57 RX3 yX3_of wsX3_of) := goodIn_app (goodIn_of _ (by decide +kernel)) ggX3_pass_X3_of
set_option maxRecDepth 20000 in
theorem ggX3_pass_X3_nurse : GoodIn wsX3_pass wsX3_nurse := goodIn_r _ [52, 53, 25, 26, 27, 6, 28, 29, 40, 41, 42, 43, 54, 55, 56, 57, 58, 59, 60, 61, 62, 10, 11, 12, 13, 63, 81, 82, 83, 84, 85, 86, 87, 88, 89, 90, 91, 92] (by decide +kernel) (by decide +kernel)
set_option maxRecDepth 20000 in
theorem gX3_pass_X3_nurse : GoodIn wsX3_pass (wsV RX3 109 RX3 yX3_nurse wsX3_nurse) := goodIn_app (goodIn_of _ (by decide +kernel)) ggX3_pass_X3_nurse
set_option maxRecDepth 20000 in
theorem ggX3_pass_X3_payDues : GoodIn wsX3_pass wsX3_payDues := goodIn_r _ [67, 48, 10, 11, 12, 13, 62, 25, 26, 27, 6, 28, 29, 40, 41, 42, 43, 81, 82, 83, 84, 85, 86, 87, 88, 89, 90, 91, 92, 93, 94, 95, 96, 97] (by decide +kernel) (by decide +kernel)
set_option maxRecDepth 20000 in
theorem gX3_pass_X3_payDues : GoodIn wsX3_pass (wsV RX3 113 RX3 yX3_payDues wsX3_payDues) := goodIn_app (goodIn_of _ (by decide +kernel)) ggX3_pass_X3_payDues
set_option maxRecDepth 20000 in
theorem ggX3_pass_X3_drink : GoodIn wsX3_pass wsX3_drink := goodIn_r _ [71, 10, 11, 12, 13, 25, 26, 27, 6, 28, 29, 40, 41, 42, 43, 72, 73, 74, 75, 62, 81, 82, 83, 84, 85, 86, 87, 88, 89, 90, 91, 92] (by decide +kernel) (by decide +kernel)
set_option maxRecDepth 20000 in
theorem gX3_pass_X3_drink : GoodIn wsX3_pass (wsV RX3 116 RX3 yX3_drink wsX3_drink) := goodIn_app (goodIn_of _ (by decide +kernel)) ggX3_pass_X3_drink
set_option maxRecDepth 20000 in
theorem ggX3_pass_X3_bury : GoodIn wsX3_pass wsX3_bury := goodIn_r _ [79, 80, 62, 1, 58, 59, 60, 6, 61, 10, 11, 12, 13, 63, 25, 26, 27, 28, 29, 40, 41, 42, 43, 81, 82, 83, 84, 85, 86, 87, 88, 89, 90, 91, 92] (by decide +kernel) (by decide +kernel)
set_option maxRecDepth 20000 in
theorem gX3_pass_X3_bury : GoodIn wsX3_pass (wsV RX3 119 RX3 yX3_bury wsX3_bury) := goodIn_app (goodIn_of _ (by decide +kernel)) ggX3_pass_X3_bury
theorem dX3_pass_0 : decode cX3_pass 0 = .ok (.aload_n 0, 1) := by decide +kernel
theorem dX3_pass_1 : decode cX3_pass 1 = .ok (.invokevirtual 100, 3) := by decide +kernel
theorem dX3_pass_4 : decode cX3_pass 4 = .ok (.aload_n 0, 1) := by decide +kernel
theorem dX3_pass_5 : decode cX3_pass 5 = .ok (.invokevirtual 103, 3) := by decide +kernel
theorem dX3_pass_8 : decode cX3_pass 8 = .ok (.aload_n 0, 1) := by decide +kernel
theorem dX3_pass_9 : decode cX3_pass 9 = .ok (.invokevirtual 106, 3) := by decide +kernel
theorem dX3_pass_12 : decode cX3_pass 12 = .ok (.iconst 0, 1) := by decide +kernel
theorem dX3_pass_13 : decode cX3_pass 13 = .ok (.istore_n 1, 1) := by decide +kernel
theorem dX3_pass_14 : decode cX3_pass 14 = .ok (.iconst 0, 1) := by decide +kernel
theorem dX3_pass_15 : decode cX3_pass 15 = .ok (.istore_n 2, 1) := by decide +kernel
theorem dX3_pass_16 : decode cX3_pass 16 = .ok (.iload_n 2, 1) := by decide +kernel
theorem dX3_pass_17 : decode cX3_pass 17 = .ok (.aload_n 0, 1) := by decide +kernel
theorem dX3_pass_18 : decode cX3_pass 18 = .ok (.getfield 35, 3) := by decide +kernel
theorem dX3_pass_21 : decode cX3_pass 21 = .ok (.if_icmp .ge 49, 3) := by decide +kernel
theorem dX3_pass_24 : decode cX3_pass 24 = .ok (.aload_n 0, 1) := by decide +kernel
theorem dX3_pass_25 : decode cX3_pass 25 = .ok (.iload_n 2, 1) := by decide +kernel
theorem dX3_pass_26 : decode cX3_pass 26 = .ok (.bipush 6, 2) := by decide +kernel
theorem dX3_pass_28 : decode cX3_pass 28 = .ok (.invokevirtual 57, 3) := by decide +kernel
theorem dX3_pass_31 : decode cX3_pass 31 = .ok (.iconst 1, 1) := by decide +kernel
theorem dX3_pass_32 : decode cX3_pass 32 = .ok (.if_icmp .eq 6, 3) := by decide +kernel
theorem dX3_pass_35 : decode cX3_pass 35 = .ok (.goto 29, 3) := by decide +kernel
theorem dX3_pass_38 : decode cX3_pass 38 = .ok (.aload_n 0, 1) := by decide +kernel
theorem dX3_pass_39 : decode cX3_pass 39 = .ok (.iload_n 2, 1) := by decide +kernel
theorem dX3_pass_40 : decode cX3_pass 40 = .ok (.invokevirtual 109, 3) := by decide +kernel
theorem dX3_pass_43 : decode cX3_pass 43 = .ok (.iload_n 1, 1) := by decide +kernel
theorem dX3_pass_44 : decode cX3_pass 44 = .ok (.aload_n 0, 1) := by decide +kernel
theorem dX3_pass_45 : decode cX3_pass 45 = .ok (.iload_n 2, 1) := by decide +kernel
theorem dX3_pass_46 : decode cX3_pass 46 = .ok (.bipush 6, 2) := by decide +kernel
theorem dX3_pass_48 : decode cX3_pass 48 = .ok (.invokevirtual 57, 3) := by decide +kernel
theorem dX3_pass_51 : decode cX3_pass 51 = .ok (.iconst 2, 1) := by decide +kernel
theorem dX3_pass_52 : decode cX3_pass 52 = .ok (.if_icmp .ne 9, 3) := by decide +kernel
theorem dX3_pass_55 : decode cX3_pass 55 = .ok (.iconst 1, 1) := by decide +kernel
theorem dX3_pass_56 : decode cX3_pass 56 = .ok (.iload_n 2, 1) := by decide +kernel
theorem dX3_pass_57 : decode cX3_pass 57 = .ok (.ishl, 1) := by decide +kernel
theorem dX3_pass_58 : decode cX3_pass 58 = .ok (.goto 4, 3) := by decide +kernel
theorem dX3_pass_61 : decode cX3_pass 61 = .ok (.iconst 0, 1) := by decide +kernel
theorem dX3_pass_62 : decode cX3_pass 62 = .ok (.ior, 1) := by decide +kernel
theorem dX3_pass_63 : decode cX3_pass 63 = .ok (.istore_n 1, 1) := by decide +kernel
theorem dX3_pass_64 : decode cX3_pass 64 = .ok (.iinc 2 1, 3) := by decide +kernel
theorem dX3_pass_67 : decode cX3_pass 67 = .ok (.goto (-51), 3) := by decide +kernel
theorem dX3_pass_70 : decode cX3_pass 70 = .ok (.iconst 0, 1) := by decide +kernel
theorem dX3_pass_71 : decode cX3_pass 71 = .ok (.istore_n 2, 1) := by decide +kernel
theorem dX3_pass_72 : decode cX3_pass 72 = .ok (.iload_n 2, 1) := by decide +kernel
theorem dX3_pass_73 : decode cX3_pass 73 = .ok (.aload_n 0, 1) := by decide +kernel
theorem dX3_pass_74 : decode cX3_pass 74 = .ok (.getfield 35, 3) := by decide +kernel
theorem dX3_pass_77 : decode cX3_pass 77 = .ok (.if_icmp .ge 24, 3) := by decide +kernel
theorem dX3_pass_80 : decode cX3_pass 80 = .ok (.aload_n 0, 1) := by decide +kernel
theorem dX3_pass_81 : decode cX3_pass 81 = .ok (.iload_n 2, 1) := by decide +kernel
theorem dX3_pass_82 : decode cX3_pass 82 = .ok (.bipush 6, 2) := by decide +kernel
theorem dX3_pass_84 : decode cX3_pass 84 = .ok (.invokevirtual 57, 3) := by decide +kernel
theorem dX3_pass_87 : decode cX3_pass 87 = .ok (.ifCond .ne 8, 3) := by decide +kernel
theorem dX3_pass_90 : decode cX3_pass 90 = .ok (.aload_n 0, 1) := by decide +kernel
theorem dX3_pass_91 : decode cX3_pass 91 = .ok (.iload_n 2, 1) := by decide +kernel
theorem dX3_pass_92 : decode cX3_pass 92 = .ok (.invokevirtual 113, 3) := by decide +kernel
theorem dX3_pass_95 : decode cX3_pass 95 = .ok (.iinc 2 1, 3) := by decide +kernel
theorem dX3_pass_98 : decode cX3_pass 98 = .ok (.goto (-26), 3) := by decide +kernel
theorem dX3_pass_101 : decode cX3_pass 101 = .ok (.iconst 0, 1) := by decide +kernel
theorem dX3_pass_102 : decode cX3_pass 102 = .ok (.istore_n 2, 1) := by decide +kernel
theorem dX3_pass_103 : decode cX3_pass 103 = .ok (.iload_n 2, 1) := by decide +kernel
theorem dX3_pass_104 : decode cX3_pass 104 = .ok (.aload_n 0, 1) := by decide +kernel
theorem dX3_pass_105 : decode cX3_pass 105 = .ok (.getfield 35, 3) := by decide +kernel
theorem dX3_pass_108 : decode cX3_pass 108 = .ok (.if_icmp .ge 34, 3) := by decide +kernel
theorem dX3_pass_111 : decode cX3_pass 111 = .ok (.aload_n 0, 1) := by decide +kernel
theorem dX3_pass_112 : decode cX3_pass 112 = .ok (.getfield 32, 3) := by decide +kernel
theorem dX3_pass_115 : decode cX3_pass 115 = .ok (.iconst 4, 1) := by decide +kernel
theorem dX3_pass_116 : decode cX3_pass 116 = .ok (.irem, 1) := by decide +kernel
theorem dX3_pass_117 : decode cX3_pass 117 = .ok (.iconst 3, 1) := by decide +kernel
theorem dX3_pass_118 : decode cX3_pass 118 = .ok (.if_icmp .ne 18, 3) := by decide +kernel
theorem dX3_pass_121 : decode cX3_pass 121 = .ok (.aload_n 0, 1) := by decide +kernel
theorem dX3_pass_122 : decode cX3_pass 122 = .ok (.iload_n 2, 1) := by decide +kernel
theorem dX3_pass_123 : decode cX3_pass 123 = .ok (.bipush 6, 2) := by decide +kernel
theorem dX3_pass_125 : decode cX3_pass 125 = .ok (.invokevirtual 57, 3) := by decide +kernel
theorem dX3_pass_128 : decode cX3_pass 128 = .ok (.ifCond .ne 8, 3) := by decide +kernel
theorem dX3_pass_131 : decode cX3_pass 131 = .ok (.aload_n 0, 1) := by decide +kernel
theorem dX3_pass_132 : decode cX3_pass 132 = .ok (.iload_n 2, 1) := by decide +kernel
theorem dX3_pass_133 : decode cX3_pass 133 = .ok (.invokevirtual 116, 3) := by decide +kernel
theorem dX3_pass_136 : decode cX3_pass 136 = .ok (.iinc 2 1, 3) := by decide +kernel
theorem dX3_pass_139 : decode cX3_pass 139 = .ok (.goto (-36), 3) := by decide +kernel
theorem dX3_pass_142 : decode cX3_pass 142 = .ok (.iconst 0, 1) := by decide +kernel
theorem dX3_pass_143 : decode cX3_pass 143 = .ok (.istore_n 2, 1) := by decide +kernel
theorem dX3_pass_144 : decode cX3_pass 144 = .ok (.iload_n 2, 1) := by decide +kernel
theorem dX3_pass_145 : decode cX3_pass 145 = .ok (.aload_n 0, 1) := by decide +kernel
theorem dX3_pass_146 : decode cX3_pass 146 = .ok (.getfield 35, 3) := by decide +kernel
theorem dX3_pass_149 : decode cX3_pass 149 = .ok (.if_icmp .ge 23, 3) := by decide +kernel
theorem dX3_pass_152 : decode cX3_pass 152 = .ok (.iload_n 1, 1) := by decide +kernel
theorem dX3_pass_153 : decode cX3_pass 153 = .ok (.iload_n 2, 1) := by decide +kernel
theorem dX3_pass_154 : decode cX3_pass 154 = .ok (.ishr, 1) := by decide +kernel
theorem dX3_pass_155 : decode cX3_pass 155 = .ok (.iconst 1, 1) := by decide +kernel
theorem dX3_pass_156 : decode cX3_pass 156 = .ok (.iand, 1) := by decide +kernel
theorem dX3_pass_157 : decode cX3_pass 157 = .ok (.iconst 1, 1) := by decide +kernel
theorem dX3_pass_158 : decode cX3_pass 158 = .ok (.if_icmp .ne 8, 3) := by decide +kernel
theorem dX3_pass_161 : decode cX3_pass 161 = .ok (.aload_n 0, 1) := by decide +kernel
theorem dX3_pass_162 : decode cX3_pass 162 = .ok (.iload_n 2, 1) := by decide +kernel
theorem dX3_pass_163 : decode cX3_pass 163 = .ok (.invokevirtual 119, 3) := by decide +kernel
theorem dX3_pass_166 : decode cX3_pass 166 = .ok (.iinc 2 1, 3) := by decide +kernel
theorem dX3_pass_169 : decode cX3_pass 169 = .ok (.goto (-25), 3) := by decide +kernel
theorem dX3_pass_172 : decode cX3_pass 172 = .ok (.aload_n 0, 1) := by decide +kernel
theorem dX3_pass_173 : decode cX3_pass 173 = .ok (.dup, 1) := by decide +kernel
theorem dX3_pass_174 : decode cX3_pass 174 = .ok (.getfield 32, 3) := by decide +kernel
theorem dX3_pass_177 : decode cX3_pass 177 = .ok (.iconst 1, 1) := by decide +kernel
theorem dX3_pass_178 : decode cX3_pass 178 = .ok (.iadd, 1) := by decide +kernel
theorem dX3_pass_179 : decode cX3_pass 179 = .ok (.putfield 32, 3) := by decide +kernel
theorem dX3_pass_182 : decode cX3_pass 182 = .ok (.return_, 1) := by decide +kernel
set_option maxRecDepth 20000 in
theorem ggX4_init_X3_init : GoodIn wsX4_init wsX3_init := goodIn_r _ [13, 14, 15, 2, 3, 16, 17, 18, 5, 19, 20, 26, 27, 28, 29, 30, 31, 32, 33, 34, 35, 36, 37] (by decide +kernel) (by decide +kernel)
set_option maxRecDepth 20000 in
theorem gX4_init_X3_init_n19 : GoodIn wsX4_init (wsX3_init) := ggX4_init_X3_init
theorem dX4_init_0 : decode cX4_init 0 = .ok (.aload_n 0, 1) := by decide +kernel
theorem dX4_init_1 : decode cX4_init 1 = .ok (.invokespecial 1, 3) := by decide +kernel
theorem dX4_init_4 : decode cX4_init 4 = .ok (.aload_n 0, 1) := by decide +kernel
theorem dX4_init_5 : decode cX4_init 5 = .ok (.iconst 1, 1) := by decide +kernel
theorem dX4_init_6 : decode cX4_init 6 = .ok (.putfield 7, 3) := by decide +kernel
theorem dX4_init_9 : decode cX4_init 9 = .ok (.aload_n 0, 1) := by decide +kernel
theorem dX4_init_10 : decode cX4_init 10 = .ok (.bipush 8, 2) := by decide +kernel
theorem dX4_init_12 : decode cX4_init 12 = .ok (.newarray .int, 2) := by decide +kernel
theorem dX4_init_14 : decode cX4_init 14 = .ok (.dup, 1) := by decide +kernel
theorem dX4_init_15 : decode cX4_init 15 = .ok (.iconst 0, 1) := by decide +kernel
theorem dX4_init_16 : decode cX4_init 16 = .ok (.iconst (-1), 1) := by decide +kernel
theorem dX4_init_17 : decode cX4_init 17 = .ok (.iastore, 1) := by decide +kernel
theorem dX4_init_18 : decode cX4_init 18 = .ok (.dup, 1) := by decide +kernel
theorem dX4_init_19 : decode cX4_init 19 = .ok (.iconst 1, 1) := by decide +kernel
theorem dX4_init_20 : decode cX4_init 20 = .ok (.iconst (-1), 1) := by decide +kernel
theorem dX4_init_21 : decode cX4_init 21 = .ok (.iastore, 1) := by decide +kernel
theorem dX4_init_22 : decode cX4_init 22 = .ok (.dup, 1) := by decide +kernel
theorem dX4_init_23 : decode cX4_init 23 = .ok (.iconst 2, 1) := by decide +kernel
theorem dX4_init_24 : decode cX4_init 24 = .ok (.iconst (-1), 1) := by decide +kernel
theorem dX4_init_25 : decode cX4_init 25 = .ok (.iastore, 1) := by decide +kernel
theorem dX4_init_26 : decode cX4_init 26 = .ok (.dup, 1) := by decide +kernel
theorem dX4_init_27 : decode cX4_init 27 = .ok (.iconst 3, 1) := by decide +kernel
theorem dX4_init_28 : decode cX4_init 28 = .ok (.iconst (-1), 1) := by decide +kernel
theorem dX4_init_29 : decode cX4_init 29 = .ok (.iastore, 1) := by decide +kernel
theorem dX4_init_30 : decode cX4_init 30 = .ok (.dup, 1) := by decide +kernel
theorem dX4_init_31 : decode cX4_init 31 = .ok (.iconst 4, 1) := by decide +kernel
theorem dX4_init_32 : decode cX4_init 32 = .ok (.iconst (-1), 1) := by decide +kernel
theorem dX4_init_33 : decode cX4_init 33 = .ok (.iastore, 1) := by decide +kernel
theorem dX4_init_34 : decode cX4_init 34 = .ok (.dup, 1) := by decide +kernel
theorem dX4_init_35 : decode cX4_init 35 = .ok (.iconst 5, 1) := by decide +kernel
theorem dX4_init_36 : decode cX4_init 36 = .ok (.iconst (-1), 1) := by decide +kernel
theorem dX4_init_37 : decode cX4_init 37 = .ok (.iastore, 1) := by decide +kernel
theorem dX4_init_38 : decode cX4_init 38 = .ok (.dup, 1) := by decide +kernel
theorem dX4_init_39 : decode cX4_init 39 = .ok (.bipush 6, 2) := by decide +kernel
theorem dX4_init_41 : decode cX4_init 41 = .ok (.iconst (-1), 1) := by decide +kernel
theorem dX4_init_42 : decode cX4_init 42 = .ok (.iastore, 1) := by decide +kernel
theorem dX4_init_43 : decode cX4_init 43 = .ok (.dup, 1) := by decide +kernel
theorem dX4_init_44 : decode cX4_init 44 = .ok (.bipush 7, 2) := by decide +kernel
theorem dX4_init_46 : decode cX4_init 46 = .ok (.iconst (-1), 1) := by decide +kernel
theorem dX4_init_47 : decode cX4_init 47 = .ok (.iastore, 1) := by decide +kernel
theorem dX4_init_48 : decode cX4_init 48 = .ok (.putfield 13, 3) := by decide +kernel
theorem dX4_init_51 : decode cX4_init 51 = .ok (.aload_n 0, 1) := by decide +kernel
theorem dX4_init_52 : decode cX4_init 52 = .ok (.new 17, 3) := by decide +kernel
theorem dX4_init_55 : decode cX4_init 55 = .ok (.dup, 1) := by decide +kernel
theorem dX4_init_56 : decode cX4_init 56 = .ok (.aload_n 0, 1) := by decide +kernel
theorem dX4_init_57 : decode cX4_init 57 = .ok (.invokespecial 19, 3) := by decide +kernel
theorem dX4_init_60 : decode cX4_init 60 = .ok (.putfield 22, 3) := by decide +kernel
theorem dX4_init_63 : decode cX4_init 63 = .ok (.aload_n 0, 1) := by decide +kernel
theorem dX4_init_64 : decode cX4_init 64 = .ok (.new 17, 3) := by decide +kernel
theorem dX4_init_67 : decode cX4_init 67 = .ok (.dup, 1) := by decide +kernel
theorem dX4_init_68 : decode cX4_init 68 = .ok (.aload_n 0, 1) := by decide +kernel
theorem dX4_init_69 : decode cX4_init 69 = .ok (.invokespecial 19, 3) := by decide +kernel
theorem dX4_init_72 : decode cX4_init 72 = .ok (.putfield 26, 3) := by decide +kernel
theorem dX4_init_75 : decode cX4_init 75 = .ok (.return_, 1) := by decide +kernel
theorem dX4_thrown_0 : decode cX4_thrown 0 = .ok (.aload_n 0, 1) := by decide +kernel
theorem dX4_thrown_1 : decode cX4_thrown 1 = .ok (.getfield 29, 3) := by decide +kernel
theorem dX4_thrown_4 : decode cX4_thrown 4 = .ok (.ireturn, 1) := by decide +kernel
theorem dX4_no_0 : decode cX4_no 0 = .ok (.aload_n 0, 1) := by decide +kernel
theorem dX4_no_1 : decode cX4_no 1 = .ok (.iload_n 1, 1) := by decide +kernel
theorem dX4_no_2 : decode cX4_no 2 = .ok (.putfield 29, 3) := by decide +kernel
theorem dX4_no_5 : decode cX4_no 5 = .ok (.iconst 0, 1) := by decide +kernel
theorem dX4_no_6 : decode cX4_no 6 = .ok (.ireturn, 1) := by decide +kernel
theorem dX4_isIn_0 : decode cX4_isIn 0 = .ok (.iload_n 0, 1) := by decide +kernel
theorem dX4_isIn_1 : decode cX4_isIn 1 = .ok (.iload_n 1, 1) := by decide +kernel
theorem dX4_isIn_2 : decode cX4_isIn 2 = .ok (.if_icmp .lt 12, 3) := by decide +kernel
theorem dX4_isIn_5 : decode cX4_isIn 5 = .ok (.iload_n 0, 1) := by decide +kernel
theorem dX4_isIn_6 : decode cX4_isIn 6 = .ok (.iload_n 2, 1) := by decide +kernel
theorem dX4_isIn_7 : decode cX4_isIn 7 = .ok (.if_icmp .gt 7, 3) := by decide +kernel
theorem dX4_isIn_10 : decode cX4_isIn 10 = .ok (.iconst 1, 1) := by decide +kernel
theorem dX4_isIn_11 : decode cX4_isIn 11 = .ok (.goto 4, 3) := by decide +kernel
theorem dX4_isIn_14 : decode cX4_isIn 14 = .ok (.iconst 0, 1) := by decide +kernel
theorem dX4_isIn_15 : decode cX4_isIn 15 = .ok (.ireturn, 1) := by decide +kernel
set_option maxRecDepth 20000 in
theorem ggX4_isMember_X4_isIn : GoodIn wsX4_isMember wsX4_isIn := goodIn_r _ [5] (by decide +kernel) (by decide +kernel)
set_option maxRecDepth 20000 in
theorem gX4_isMember_X4_isIn : GoodIn wsX4_isMember (va_wsS RX4 35 yX4_isIn wsX4_isIn) := goodIn_app (goodIn_of _ (by decide +kernel)) ggX4_isMember_X4_isIn
theorem dX4_isMember_0 : decode cX4_isMember 0 = .ok (.iload_n 1, 1) := by decide +kernel
theorem dX4_isMember_1 : decode cX4_isMember 1 = .ok (.iconst 0, 1) := by decide +kernel
theorem dX4_isMember_2 : decode cX4_isMember 2 = .ok (.aload_n 0, 1) := by decide +kernel
theorem dX4_isMember_3 : decode cX4_isMember 3 = .ok (.getfield 22, 3) := by decide +kernel
theorem dX4_isMember_6 : decode cX4_isMember 6 = .ok (.getfield 32, 3) := by decide +kernel
theorem dX4_isMember_9 : decode cX4_isMember 9 = .ok (.iconst 1, 1) := by decide +kernel
theorem dX4_isMember_10 : decode cX4_isMember 10 = .ok (.isub, 1) := by decide +kernel
theorem dX4_isMember_11 : decode cX4_isMember 11 = .ok (.invokestatic 35, 3) := by decide +kernel
theorem dX4_isMember_14 : decode cX4_isMember 14 = .ok (.ireturn, 1) := by decide +kernel
set_option maxRecDepth 20000 in
theorem ggX4_isDead_X3_of : GoodIn wsX4_isDead wsX3_of := goodIn_r _ [6, 7, 13, 14, 15, 16, 17, 18, 19, 20, 21, 22, 23, 24] (by decide +kernel) (by decide +kernel)
set_option maxRecDepth 20000 in
theorem gX4_isDead_X3_of : GoodIn wsX4_isDead (wsV RX4 39 RX3 yX3_of wsX3_of) := goodIn_app (goodIn_of _ (by decide +kernel)) ggX4_isDead_X3_of
theorem dX4_isDead_0 : decode cX4_isDead 0 = .ok (.aload_n 0, 1) := by decide +kernel
theorem dX4_isDead_1 : decode cX4_isDead 1 = .ok (.getfield 22, 3) := by decide +kernel
theorem dX4_isDead_4 : decode cX4_isDead 4 = .ok (.iload_n 1, 1) := by decide +kernel
theorem dX4_isDead_5 : decode cX4_isDead 5 = .ok (.bipush 6, 2) := by decide +kernel
theorem dX4_isDead_7 : decode cX4_isDead 7 = .ok (.invokevirtual 39, 3) := by decide +kernel
theorem dX4_isDead_10 : decode cX4_isDead 10 = .ok (.iconst 2, 1) := by decide +kernel
theorem dX4_isDead_11 : decode cX4_isDead 11 = .ok (.if_icmp .ne 7, 3) := by decide +kernel
theorem dX4_isDead_14 : decode cX4_isDead 14 = .ok (.iconst 1, 1) := by decide +kernel
theorem dX4_isDead_15 : decode cX4_isDead 15 = .ok (.goto 4, 3) := by decide +kernel
theorem dX4_isDead_18 : decode cX4_isDead 18 = .ok (.iconst 0, 1) := by decide +kernel
theorem dX4_isDead_19 : decode cX4_isDead 19 = .ok (.ireturn, 1) := by decide +kernel
set_option maxRecDepth 20000 in
theorem ggX4_others_X3_there : GoodIn wsX4_others wsX3_there := goodIn_r _ [6, 7, 8, 9, 10, 5, 11, 12, 19, 20, 21, 22, 23, 24, 25, 26, 27, 28, 29, 30] (by decide +kernel) (by decide +kernel)
set_option maxRecDepth 20000 in
theorem gX4_others_X3_there : GoodIn wsX4_others (wsV RX4 43 RX3 yX3_there wsX3_there) := goodIn_app (goodIn_of _ (by decide +kernel)) ggX4_others_X3_there
set_option maxRecDepth 20000 in
theorem ggX4_others_X3_of : GoodIn wsX4_others wsX3_of := goodIn_r _ [11, 12, 19, 20, 21, 22, 23, 24, 25, 26, 27, 28, 29, 30] (by decide +kernel) (by decide +kernel)
set_option maxRecDepth 20000 in
theorem gX4_others_X3_of : GoodIn wsX4_others (wsV RX4 39 RX3 yX3_of wsX3_of) := goodIn_app (goodIn_of _ (by decide +kernel)) ggX4_others_X3_of
theorem dX4_others_0 : decode cX4_others 0 = .ok (.aload_n 0, 1) := by decide +kernel
theorem dX4_others_1 : decode cX4_others 1 = .ok (.getfield 22, 3) := by decide +kernel
theorem dX4_others_4 : decode cX4_others 4 = .ok (.iload_n 2, 1) := by decide +kernel
theorem dX4_others_5 : decode cX4_others 5 = .ok (.invokevirtual 43, 3) := by decide +kernel
theorem dX4_others_8 : decode cX4_others 8 = .ok (.aload_n 0, 1) := by decide +kernel
theorem dX4_others_9 : decode cX4_others 9 = .ok (.getfield 22, 3) := by decide +kernel
theorem dX4_others_12 : decode cX4_others 12 = .ok (.iload_n 1, 1) := by decide +kernel
theorem dX4_others_13 : decode cX4_others 13 = .ok (.iconst 5, 1) := by decide +kernel
theorem dX4_others_14 : decode cX4_others 14 = .ok (.invokevirtual 39, 3) := by decide +kernel
theorem dX4_others_17 : decode cX4_others 17 = .ok (.iload_n 2, 1) := by decide +kernel
theorem dX4_others_18 : decode cX4_others 18 = .ok (.if_icmp .ne 7, 3) := by decide +kernel
theorem dX4_others_21 : decode cX4_others 21 = .ok (.iconst 1, 1) := by decide +kernel
theorem dX4_others_22 : decode cX4_others 22 = .ok (.goto 4, 3) := by decide +kernel
theorem dX4_others_25 : decode cX4_others 25 = .ok (.iconst 0, 1) := by decide +kernel
theorem dX4_others_26 : decode cX4_others 26 = .ok (.isub, 1) := by decide +kernel
theorem dX4_others_27 : decode cX4_others 27 = .ok (.ireturn, 1) := by decide +kernel
set_option maxRecDepth 20000 in
theorem ggX4_join_X4_isIn : GoodIn wsX4_join wsX4_isIn := goodIn_r _ [11] (by decide +kernel) (by decide +kernel)
set_option maxRecDepth 20000 in
theorem gX4_join_X4_isIn : GoodIn wsX4_join (va_wsS RX4 35 yX4_isIn wsX4_isIn) := goodIn_app (goodIn_of _ (by decide +kernel)) ggX4_join_X4_isIn
set_option maxRecDepth 20000 in
theorem ggX4_join_X4_no : GoodIn wsX4_join wsX4_no := goodIn_r _ [15, 1, 16, 17, 18, 19, 20] (by decide +kernel) (by decide +kernel)
set_option maxRecDepth 20000 in
theorem gX4_join_X4_no : GoodIn wsX4_join (wsV RX4 47 RX4 yX4_no wsX4_no) := goodIn_app (goodIn_of _ (by decide +kernel)) ggX4_join_X4_no
theorem dX4_join_0 : decode cX4_join 0 = .ok (.aload_n 0, 1) := by decide +kernel
theorem dX4_join_1 : decode cX4_join 1 = .ok (.iconst 0, 1) := by decide +kernel
theorem dX4_join_2 : decode cX4_join 2 = .ok (.putfield 29, 3) := by decide +kernel
theorem dX4_join_5 : decode cX4_join 5 = .ok (.iload_n 1, 1) := by decide +kernel
theorem dX4_join_6 : decode cX4_join 6 = .ok (.iconst 1, 1) := by decide +kernel
theorem dX4_join_7 : decode cX4_join 7 = .ok (.bipush 9, 2) := by decide +kernel
theorem dX4_join_9 : decode cX4_join 9 = .ok (.invokestatic 35, 3) := by decide +kernel
theorem dX4_join_12 : decode cX4_join 12 = .ok (.ifCond .eq 13, 3) := by decide +kernel
theorem dX4_join_15 : decode cX4_join 15 = .ok (.iload_n 2, 1) := by decide +kernel
theorem dX4_join_16 : decode cX4_join 16 = .ok (.iconst 1, 1) := by decide +kernel
theorem dX4_join_17 : decode cX4_join 17 = .ok (.bipush 20, 2) := by decide +kernel
theorem dX4_join_19 : decode cX4_join 19 = .ok (.invokestatic 35, 3) := by decide +kernel
theorem dX4_join_22 : decode cX4_join 22 = .ok (.ifCond .ne 9, 3) := by decide +kernel
theorem dX4_join_25 : decode cX4_join 25 = .ok (.aload_n 0, 1) := by decide +kernel
theorem dX4_join_26 : decode cX4_join 26 = .ok (.iconst 1, 1) := by decide +kernel
theorem dX4_join_27 : decode cX4_join 27 = .ok (.invokevirtual 47, 3) := by decide +kernel
theorem dX4_join_30 : decode cX4_join 30 = .ok (.ireturn, 1) := by decide +kernel
theorem dX4_join_31 : decode cX4_join 31 = .ok (.aload_n 0, 1) := by decide +kernel
theorem dX4_join_32 : decode cX4_join 32 = .ok (.getfield 22, 3) := by decide +kernel
theorem dX4_join_35 : decode cX4_join 35 = .ok (.getfield 32, 3) := by decide +kernel
theorem dX4_join_38 : decode cX4_join 38 = .ok (.bipush 12, 2) := by decide +kernel
theorem dX4_join_40 : decode cX4_join 40 = .ok (.if_icmp .ne 9, 3) := by decide +kernel
theorem dX4_join_43 : decode cX4_join 43 = .ok (.aload_n 0, 1) := by decide +kernel
theorem dX4_join_44 : decode cX4_join 44 = .ok (.iconst 2, 1) := by decide +kernel
theorem dX4_join_45 : decode cX4_join 45 = .ok (.invokevirtual 47, 3) := by decide +kernel
theorem dX4_join_48 : decode cX4_join 48 = .ok (.ireturn, 1) := by decide +kernel
theorem dX4_join_49 : decode cX4_join 49 = .ok (.bipush 9, 2) := by decide +kernel
theorem dX4_join_51 : decode cX4_join 51 = .ok (.newarray .int, 2) := by decide +kernel
theorem dX4_join_53 : decode cX4_join 53 = .ok (.dup, 1) := by decide +kernel
theorem dX4_join_54 : decode cX4_join 54 = .ok (.iconst 0, 1) := by decide +kernel
theorem dX4_join_55 : decode cX4_join 55 = .ok (.iload_n 1, 1) := by decide +kernel
theorem dX4_join_56 : decode cX4_join 56 = .ok (.iastore, 1) := by decide +kernel
theorem dX4_join_57 : decode cX4_join 57 = .ok (.dup, 1) := by decide +kernel
theorem dX4_join_58 : decode cX4_join 58 = .ok (.iconst 1, 1) := by decide +kernel
theorem dX4_join_59 : decode cX4_join 59 = .ok (.iload_n 2, 1) := by decide +kernel
theorem dX4_join_60 : decode cX4_join 60 = .ok (.iastore, 1) := by decide +kernel
theorem dX4_join_61 : decode cX4_join 61 = .ok (.dup, 1) := by decide +kernel
theorem dX4_join_62 : decode cX4_join 62 = .ok (.iconst 2, 1) := by decide +kernel
theorem dX4_join_63 : decode cX4_join 63 = .ok (.bipush 10, 2) := by decide +kernel
theorem dX4_join_65 : decode cX4_join 65 = .ok (.iastore, 1) := by decide +kernel
theorem dX4_join_66 : decode cX4_join 66 = .ok (.dup, 1) := by decide +kernel
theorem dX4_join_67 : decode cX4_join 67 = .ok (.iconst 3, 1) := by decide +kernel
theorem dX4_join_68 : decode cX4_join 68 = .ok (.iconst 0, 1) := by decide +kernel
theorem dX4_join_69 : decode cX4_join 69 = .ok (.iastore, 1) := by decide +kernel
theorem dX4_join_70 : decode cX4_join 70 = .ok (.dup, 1) := by decide +kernel
theorem dX4_join_71 : decode cX4_join 71 = .ok (.iconst 4, 1) := by decide +kernel
theorem dX4_join_72 : decode cX4_join 72 = .ok (.iconst 0, 1) := by decide +kernel
theorem dX4_join_73 : decode cX4_join 73 = .ok (.iastore, 1) := by decide +kernel
theorem dX4_join_74 : decode cX4_join 74 = .ok (.dup, 1) := by decide +kernel
theorem dX4_join_75 : decode cX4_join 75 = .ok (.iconst 5, 1) := by decide +kernel
theorem dX4_join_76 : decode cX4_join 76 = .ok (.iconst (-1), 1) := by decide +kernel
theorem dX4_join_77 : decode cX4_join 77 = .ok (.iastore, 1) := by decide +kernel
theorem dX4_join_78 : decode cX4_join 78 = .ok (.dup, 1) := by decide +kernel
theorem dX4_join_79 : decode cX4_join 79 = .ok (.bipush 6, 2) := by decide +kernel
theorem dX4_join_81 : decode cX4_join 81 = .ok (.iconst 0, 1) := by decide +kernel
theorem dX4_join_82 : decode cX4_join 82 = .ok (.iastore, 1) := by decide +kernel
theorem dX4_join_83 : decode cX4_join 83 = .ok (.dup, 1) := by decide +kernel
theorem dX4_join_84 : decode cX4_join 84 = .ok (.bipush 7, 2) := by decide +kernel
theorem dX4_join_86 : decode cX4_join 86 = .ok (.iconst 0, 1) := by decide +kernel
theorem dX4_join_87 : decode cX4_join 87 = .ok (.iastore, 1) := by decide +kernel
theorem dX4_join_88 : decode cX4_join 88 = .ok (.dup, 1) := by decide +kernel
theorem dX4_join_89 : decode cX4_join 89 = .ok (.bipush 8, 2) := by decide +kernel
theorem dX4_join_91 : decode cX4_join 91 = .ok (.iconst 0, 1) := by decide +kernel
theorem dX4_join_92 : decode cX4_join 92 = .ok (.iastore, 1) := by decide +kernel
theorem dX4_join_93 : decode cX4_join 93 = .ok (.astore_n 3, 1) := by decide +kernel
theorem dX4_join_94 : decode cX4_join 94 = .ok (.aload_n 3, 1) := by decide +kernel
theorem dX4_join_95 : decode cX4_join 95 = .ok (.iconst 0, 1) := by decide +kernel
theorem dX4_join_96 : decode cX4_join 96 = .ok (.aload_n 0, 1) := by decide +kernel
theorem dX4_join_97 : decode cX4_join 97 = .ok (.getfield 22, 3) := by decide +kernel
theorem dX4_join_100 : decode cX4_join 100 = .ok (.getfield 50, 3) := by decide +kernel
theorem dX4_join_103 : decode cX4_join 103 = .ok (.bipush 9, 2) := by decide +kernel
theorem dX4_join_105 : decode cX4_join 105 = .ok (.aload_n 0, 1) := by decide +kernel
theorem dX4_join_106 : decode cX4_join 106 = .ok (.getfield 22, 3) := by decide +kernel
theorem dX4_join_109 : decode cX4_join 109 = .ok (.getfield 32, 3) := by decide +kernel
theorem dX4_join_112 : decode cX4_join 112 = .ok (.imul, 1) := by decide +kernel
theorem dX4_join_113 : decode cX4_join 113 = .ok (.bipush 9, 2) := by decide +kernel
theorem dX4_join_115 : decode cX4_join 115 = .ok (.invokestatic 53, 3) := by decide +kernel
theorem dX4_join_118 : decode cX4_join 118 = .ok (.aload_n 0, 1) := by decide +kernel
theorem dX4_join_119 : decode cX4_join 119 = .ok (.getfield 22, 3) := by decide +kernel
theorem dX4_join_122 : decode cX4_join 122 = .ok (.dup, 1) := by decide +kernel
theorem dX4_join_123 : decode cX4_join 123 = .ok (.getfield 32, 3) := by decide +kernel
theorem dX4_join_126 : decode cX4_join 126 = .ok (.iconst 1, 1) := by decide +kernel
theorem dX4_join_127 : decode cX4_join 127 = .ok (.iadd, 1) := by decide +kernel
theorem dX4_join_128 : decode cX4_join 128 = .ok (.putfield 32, 3) := by decide +kernel
theorem dX4_join_131 : decode cX4_join 131 = .ok (.aload_n 0, 1) := by decide +kernel
theorem dX4_join_132 : decode cX4_join 132 = .ok (.getfield 22, 3) := by decide +kernel
theorem dX4_join_135 : decode cX4_join 135 = .ok (.getfield 32, 3) := by decide +kernel
theorem dX4_join_138 : decode cX4_join 138 = .ok (.iconst 1, 1) := by decide +kernel
theorem dX4_join_139 : decode cX4_join 139 = .ok (.isub, 1) := by decide +kernel
theorem dX4_join_140 : decode cX4_join 140 = .ok (.ireturn, 1) := by decide +kernel
set_option maxRecDepth 20000 in
theorem ggX4_place_X4_isMember : GoodIn wsX4_place wsX4_isMember := goodIn_r _ [7, 2, 8, 9, 6, 10, 39, 40, 41, 42, 43, 44, 45, 46, 47, 48, 49, 50, 51, 52, 53, 54, 55] (by decide +kernel) (by decide +kernel)
set_option maxRecDepth 20000 in
theorem gX4_place_X4_isMember : GoodIn wsX4_place (wsV RX4 59 RX4 yX4_isMember wsX4_isMember) := goodIn_app (goodIn_of _ (by decide +kernel)) ggX4_place_X4_isMember
set_option maxRecDepth 20000 in
theorem ggX4_place_X4_isIn : GoodIn wsX4_place wsX4_isIn := goodIn_r _ [10] (by decide +kernel) (by decide +kernel)
set_option maxRecDepth 20000 in
theorem gX4_place_X4_isIn : GoodIn wsX4_place (va_wsS RX4 35 yX4_isIn wsX4_isIn) := goodIn_app (goodIn_of _ (by decide +kernel)) ggX4_place_X4_isIn
set_option maxRecDepth 20000 in
theorem ggX4_place_X4_no : GoodIn wsX4_place wsX4_no := goodIn_r _ [14, 1, 39, 40, 41, 42, 43] (by decide +kernel) (by decide +kernel)
set_option maxRecDepth 20000 in
theorem gX4_place_X4_no : GoodIn wsX4_place (wsV RX4 47 RX4 yX4_no wsX4_no) := goodIn_app (goodIn_of _ (by decide +kernel)) ggX4_place_X4_no
set_option maxRecDepth 20000 in
theorem ggX4_place_X4_isDead : GoodIn wsX4_place wsX4_isDead := goodIn_r _ [18, 2, 19, 20, 21, 22, 23, 24, 39, 40, 41, 42, 43, 44, 45, 46, 47, 48, 49, 50, 51, 52, 53, 54, 55] (by decide +kernel) (by decide +kernel)
set_option maxRecDepth 20000 in
theorem gX4_place_X4_isDead : GoodIn wsX4_place (wsV RX4 63 RX4 yX4_isDead wsX4_isDead) := goodIn_app (goodIn_of _ (by decide +kernel)) ggX4_place_X4_isDead
set_option maxRecDepth 20000 in
theorem ggX4_place_X4_others : GoodIn wsX4_place wsX4_others := goodIn_r _ [28, 2, 29, 30, 31, 22, 32, 33, 34, 20, 21, 23, 24, 19, 39, 40, 41, 42, 43, 44, 45, 46, 47, 48, 49, 50, 51, 52, 53, 54, 55] (by decide +kernel) (by decide +kernel)
set_option maxRecDepth 20000 in
theorem gX4_place_X4_others : GoodIn wsX4_place (wsV RX4 66 RX4 yX4_others wsX4_others) := goodIn_app (goodIn_of _ (by decide +kernel)) ggX4_place_X4_others
set_option maxRecDepth 20000 in
theorem ggX4_place_X3_of : GoodIn wsX4_place wsX3_of := goodIn_r _ [23, 24, 44, 45, 46, 47, 48, 49, 50, 51, 52, 53, 54, 55] (by decide +kernel) (by decide +kernel)
set_option maxRecDepth 20000 in
theorem gX4_place_X3_of : GoodIn wsX4_place (wsV RX4 39 RX3 yX3_of wsX3_of) := goodIn_app (goodIn_of _ (by decide +kernel)) ggX4_place_X3_of
set_option maxRecDepth 20000 in
theorem ggX4_place_X3_set : GoodIn wsX4_place wsX3_set := goodIn_r _ [38, 24, 44, 45, 46, 47, 48, 49, 50, 51, 52, 53, 54, 55] (by decide +kernel) (by decide +kernel)
set_option maxRecDepth 20000 in
theorem gX4_place_X3_set : GoodIn wsX4_place (wsV RX4 69 RX3 yX3_set wsX3_set) := goodIn_app (goodIn_of _ (by decide +kernel)) ggX4_place_X3_set
theorem dX4_place_0 : decode cX4_place 0 = .ok (.aload_n 0, 1) := by decide +kernel
theorem dX4_place_1 : decode cX4_place 1 = .ok (.iconst 0, 1) := by decide +kernel
theorem dX4_place_2 : decode cX4_place 2 = .ok (.putfield 29, 3) := by decide +kernel
theorem dX4_place_5 : decode cX4_place 5 = .ok (.aload_n 0, 1) := by decide +kernel
theorem dX4_place_6 : decode cX4_place 6 = .ok (.iload_n 1, 1) := by decide +kernel
theorem dX4_place_7 : decode cX4_place 7 = .ok (.invokevirtual 59, 3) := by decide +kernel
theorem dX4_place_10 : decode cX4_place 10 = .ok (.ifCond .eq 12, 3) := by decide +kernel
theorem dX4_place_13 : decode cX4_place 13 = .ok (.iload_n 2, 1) := by decide +kernel
theorem dX4_place_14 : decode cX4_place 14 = .ok (.iconst (-1), 1) := by decide +kernel
theorem dX4_place_15 : decode cX4_place 15 = .ok (.iconst 2, 1) := by decide +kernel
theorem dX4_place_16 : decode cX4_place 16 = .ok (.invokestatic 35, 3) := by decide +kernel
theorem dX4_place_19 : decode cX4_place 19 = .ok (.ifCond .ne 9, 3) := by decide +kernel
theorem dX4_place_22 : decode cX4_place 22 = .ok (.aload_n 0, 1) := by decide +kernel
theorem dX4_place_23 : decode cX4_place 23 = .ok (.iconst 1, 1) := by decide +kernel
theorem dX4_place_24 : decode cX4_place 24 = .ok (.invokevirtual 47, 3) := by decide +kernel
theorem dX4_place_27 : decode cX4_place 27 = .ok (.ireturn, 1) := by decide +kernel
theorem dX4_place_28 : decode cX4_place 28 = .ok (.aload_n 0, 1) := by decide +kernel
theorem dX4_place_29 : decode cX4_place 29 = .ok (.iload_n 1, 1) := by decide +kernel
theorem dX4_place_30 : decode cX4_place 30 = .ok (.invokevirtual 63, 3) := by decide +kernel
theorem dX4_place_33 : decode cX4_place 33 = .ok (.ifCond .ne 18, 3) := by decide +kernel
theorem dX4_place_36 : decode cX4_place 36 = .ok (.iload_n 2, 1) := by decide +kernel
theorem dX4_place_37 : decode cX4_place 37 = .ok (.iconst (-1), 1) := by decide +kernel
theorem dX4_place_38 : decode cX4_place 38 = .ok (.if_icmp .eq 19, 3) := by decide +kernel
theorem dX4_place_41 : decode cX4_place 41 = .ok (.aload_n 0, 1) := by decide +kernel
theorem dX4_place_42 : decode cX4_place 42 = .ok (.iload_n 1, 1) := by decide +kernel
theorem dX4_place_43 : decode cX4_place 43 = .ok (.iload_n 2, 1) := by decide +kernel
theorem dX4_place_44 : decode cX4_place 44 = .ok (.invokevirtual 66, 3) := by decide +kernel
theorem dX4_place_47 : decode cX4_place 47 = .ok (.iconst 4, 1) := by decide +kernel
theorem dX4_place_48 : decode cX4_place 48 = .ok (.if_icmp .lt 9, 3) := by decide +kernel
theorem dX4_place_51 : decode cX4_place 51 = .ok (.aload_n 0, 1) := by decide +kernel
theorem dX4_place_52 : decode cX4_place 52 = .ok (.iconst 2, 1) := by decide +kernel
theorem dX4_place_53 : decode cX4_place 53 = .ok (.invokevirtual 47, 3) := by decide +kernel
theorem dX4_place_56 : decode cX4_place 56 = .ok (.ireturn, 1) := by decide +kernel
theorem dX4_place_57 : decode cX4_place 57 = .ok (.aload_n 0, 1) := by decide +kernel
theorem dX4_place_58 : decode cX4_place 58 = .ok (.getfield 22, 3) := by decide +kernel
theorem dX4_place_61 : decode cX4_place 61 = .ok (.iload_n 1, 1) := by decide +kernel
theorem dX4_place_62 : decode cX4_place 62 = .ok (.iconst 5, 1) := by decide +kernel
theorem dX4_place_63 : decode cX4_place 63 = .ok (.invokevirtual 39, 3) := by decide +kernel
theorem dX4_place_66 : decode cX4_place 66 = .ok (.istore_n 3, 1) := by decide +kernel
theorem dX4_place_67 : decode cX4_place 67 = .ok (.aload_n 0, 1) := by decide +kernel
theorem dX4_place_68 : decode cX4_place 68 = .ok (.getfield 22, 3) := by decide +kernel
theorem dX4_place_71 : decode cX4_place 71 = .ok (.iload_n 1, 1) := by decide +kernel
theorem dX4_place_72 : decode cX4_place 72 = .ok (.iconst 5, 1) := by decide +kernel
theorem dX4_place_73 : decode cX4_place 73 = .ok (.iload_n 2, 1) := by decide +kernel
theorem dX4_place_74 : decode cX4_place 74 = .ok (.invokevirtual 69, 3) := by decide +kernel
theorem dX4_place_77 : decode cX4_place 77 = .ok (.iload_n 3, 1) := by decide +kernel
theorem dX4_place_78 : decode cX4_place 78 = .ok (.ireturn, 1) := by decide +kernel
set_option maxRecDepth 20000 in
theorem ggX4_give_X4_isMember : GoodIn wsX4_give wsX4_isMember := goodIn_r _ [7, 2, 8, 9, 6, 10, 29, 30, 31, 32, 33, 34, 35, 36, 37, 38, 39, 40, 41, 42, 43, 44, 45] (by decide +kernel) (by decide +kernel)
set_option maxRecDepth 20000 in
theorem gX4_give_X4_isMember : GoodIn wsX4_give (wsV RX4 59 RX4 yX4_isMember wsX4_isMember) := goodIn_app (goodIn_of _ (by decide +kernel)) ggX4_give_X4_isMember
set_option maxRecDepth 20000 in
theorem ggX4_give_X4_no : GoodIn wsX4_give wsX4_no := goodIn_r _ [14, 1, 29, 30, 31, 32, 33] (by decide +kernel) (by decide +kernel)
set_option maxRecDepth 20000 in
theorem gX4_give_X4_no : GoodIn wsX4_give (wsV RX4 47 RX4 yX4_no wsX4_no) := goodIn_app (goodIn_of _ (by decide +kernel)) ggX4_give_X4_no
set_option maxRecDepth 20000 in
theorem ggX4_give_X4_isIn : GoodIn wsX4_give wsX4_isIn := goodIn_r _ [10] (by decide +kernel) (by decide +kernel)
set_option maxRecDepth 20000 in
theorem gX4_give_X4_isIn : GoodIn wsX4_give (va_wsS RX4 35 yX4_isIn wsX4_isIn) := goodIn_app (goodIn_of _ (by decide +kernel)) ggX4_give_X4_isIn
set_option maxRecDepth 20000 in
theorem ggX4_give_X4_isDead : GoodIn wsX4_give wsX4_isDead := goodIn_r _ [18, 2, 19, 20, 21, 22, 23, 24, 29, 30, 31, 32, 33, 34, 35, 36, 37, 38, 39, 40, 41, 42, 43, 44, 45] (by decide +kernel) (by decide +kernel)
set_option maxRecDepth 20000 in
theorem gX4_give_X4_isDead : GoodIn wsX4_give (wsV RX4 63 RX4 yX4_isDead wsX4_isDead) := goodIn_app (goodIn_of _ (by decide +kernel)) ggX4_give_X4_isDead
set_option maxRecDepth 20000 in
theorem ggX4_give_X3_of : GoodIn wsX4_give wsX3_of := goodIn_r _ [23, 24, 34, 35, 36, 37, 38, 39, 40, 41, 42, 43, 44, 45] (by decide +kernel) (by decide +kernel)
set_option maxRecDepth 20000 in
theorem gX4_give_X3_of : GoodIn wsX4_give (wsV RX4 39 RX3 yX3_of wsX3_of) := goodIn_app (goodIn_of _ (by decide +kernel)) ggX4_give_X3_of
set_option maxRecDepth 20000 in
theorem ggX4_give_X3_set : GoodIn wsX4_give wsX3_set := goodIn_r _ [28, 24, 34, 35, 36, 37, 38, 39, 40, 41, 42, 43, 44, 45] (by decide +kernel) (by decide +kernel)
set_option maxRecDepth 20000 in
theorem gX4_give_X3_set : GoodIn wsX4_give (wsV RX4 69 RX3 yX3_set wsX3_set) := goodIn_app (goodIn_of _ (by decide +kernel)) ggX4_give_X3_set
theorem dX4_give_0 : decode cX4_give 0 = .ok (.aload_n 0, 1) := by decide +kernel
theorem dX4_give_1 : decode cX4_give 1 = .ok (.iconst 0, 1) := by decide +kernel
theorem dX4_give_2 : decode cX4_give 2 = .ok (.putfield 29, 3) := by decide +kernel
theorem dX4_give_5 : decode cX4_give 5 = .ok (.aload_n 0, 1) := by decide +kernel
theorem dX4_give_6 : decode cX4_give 6 = .ok (.iload_n 1, 1) := by decide +kernel
theorem dX4_give_7 : decode cX4_give 7 = .ok (.invokevirtual 59, 3) := by decide +kernel
theorem dX4_give_10 : decode cX4_give 10 = .ok (.ifCond .eq 11, 3) := by decide +kernel
theorem dX4_give_13 : decode cX4_give 13 = .ok (.aload_n 0, 1) := by decide +kernel
theorem dX4_give_14 : decode cX4_give 14 = .ok (.iload_n 2, 1) := by decide +kernel
theorem dX4_give_15 : decode cX4_give 15 = .ok (.invokevirtual 59, 3) := by decide +kernel
theorem dX4_give_18 : decode cX4_give 18 = .ok (.ifCond .ne 9, 3) := by decide +kernel
theorem dX4_give_21 : decode cX4_give 21 = .ok (.aload_n 0, 1) := by decide +kernel
theorem dX4_give_22 : decode cX4_give 22 = .ok (.iconst 1, 1) := by decide +kernel
theorem dX4_give_23 : decode cX4_give 23 = .ok (.invokevirtual 47, 3) := by decide +kernel
theorem dX4_give_26 : decode cX4_give 26 = .ok (.ireturn, 1) := by decide +kernel
theorem dX4_give_27 : decode cX4_give 27 = .ok (.iload_n 3, 1) := by decide +kernel
theorem dX4_give_28 : decode cX4_give 28 = .ok (.iconst 1, 1) := by decide +kernel
theorem dX4_give_29 : decode cX4_give 29 = .ok (.bipush 99, 2) := by decide +kernel
theorem dX4_give_31 : decode cX4_give 31 = .ok (.invokestatic 35, 3) := by decide +kernel
theorem dX4_give_34 : decode cX4_give 34 = .ok (.ifCond .ne 9, 3) := by decide +kernel
theorem dX4_give_37 : decode cX4_give 37 = .ok (.aload_n 0, 1) := by decide +kernel
theorem dX4_give_38 : decode cX4_give 38 = .ok (.iconst 2, 1) := by decide +kernel
theorem dX4_give_39 : decode cX4_give 39 = .ok (.invokevirtual 47, 3) := by decide +kernel
theorem dX4_give_42 : decode cX4_give 42 = .ok (.ireturn, 1) := by decide +kernel
theorem dX4_give_43 : decode cX4_give 43 = .ok (.iload_n 1, 1) := by decide +kernel
theorem dX4_give_44 : decode cX4_give 44 = .ok (.iload_n 2, 1) := by decide +kernel
theorem dX4_give_45 : decode cX4_give 45 = .ok (.if_icmp .eq 32, 3) := by decide +kernel
theorem dX4_give_48 : decode cX4_give 48 = .ok (.aload_n 0, 1) := by decide +kernel
theorem dX4_give_49 : decode cX4_give 49 = .ok (.iload_n 1, 1) := by decide +kernel
theorem dX4_give_50 : decode cX4_give 50 = .ok (.invokevirtual 63, 3) := by decide +kernel
theorem dX4_give_53 : decode cX4_give 53 = .ok (.ifCond .ne 24, 3) := by decide +kernel
theorem dX4_give_56 : decode cX4_give 56 = .ok (.aload_n 0, 1) := by decide +kernel
theorem dX4_give_57 : decode cX4_give 57 = .ok (.iload_n 2, 1) := by decide +kernel
theorem dX4_give_58 : decode cX4_give 58 = .ok (.invokevirtual 63, 3) := by decide +kernel
theorem dX4_give_61 : decode cX4_give 61 = .ok (.ifCond .ne 16, 3) := by decide +kernel
theorem dX4_give_64 : decode cX4_give 64 = .ok (.aload_n 0, 1) := by decide +kernel
theorem dX4_give_65 : decode cX4_give 65 = .ok (.getfield 22, 3) := by decide +kernel
theorem dX4_give_68 : decode cX4_give 68 = .ok (.iload_n 1, 1) := by decide +kernel
theorem dX4_give_69 : decode cX4_give 69 = .ok (.iconst 2, 1) := by decide +kernel
theorem dX4_give_70 : decode cX4_give 70 = .ok (.invokevirtual 39, 3) := by decide +kernel
theorem dX4_give_73 : decode cX4_give 73 = .ok (.iload_n 3, 1) := by decide +kernel
theorem dX4_give_74 : decode cX4_give 74 = .ok (.if_icmp .ge 9, 3) := by decide +kernel
theorem dX4_give_77 : decode cX4_give 77 = .ok (.aload_n 0, 1) := by decide +kernel
theorem dX4_give_78 : decode cX4_give 78 = .ok (.iconst 3, 1) := by decide +kernel
theorem dX4_give_79 : decode cX4_give 79 = .ok (.invokevirtual 47, 3) := by decide +kernel
theorem dX4_give_82 : decode cX4_give 82 = .ok (.ireturn, 1) := by decide +kernel
theorem dX4_give_83 : decode cX4_give 83 = .ok (.aload_n 0, 1) := by decide +kernel
theorem dX4_give_84 : decode cX4_give 84 = .ok (.getfield 22, 3) := by decide +kernel
theorem dX4_give_87 : decode cX4_give 87 = .ok (.iload_n 1, 1) := by decide +kernel
theorem dX4_give_88 : decode cX4_give 88 = .ok (.iconst 2, 1) := by decide +kernel
theorem dX4_give_89 : decode cX4_give 89 = .ok (.aload_n 0, 1) := by decide +kernel
theorem dX4_give_90 : decode cX4_give 90 = .ok (.getfield 22, 3) := by decide +kernel
theorem dX4_give_93 : decode cX4_give 93 = .ok (.iload_n 1, 1) := by decide +kernel
theorem dX4_give_94 : decode cX4_give 94 = .ok (.iconst 2, 1) := by decide +kernel
theorem dX4_give_95 : decode cX4_give 95 = .ok (.invokevirtual 39, 3) := by decide +kernel
theorem dX4_give_98 : decode cX4_give 98 = .ok (.iload_n 3, 1) := by decide +kernel
theorem dX4_give_99 : decode cX4_give 99 = .ok (.isub, 1) := by decide +kernel
theorem dX4_give_100 : decode cX4_give 100 = .ok (.invokevirtual 69, 3) := by decide +kernel
theorem dX4_give_103 : decode cX4_give 103 = .ok (.aload_n 0, 1) := by decide +kernel
theorem dX4_give_104 : decode cX4_give 104 = .ok (.getfield 22, 3) := by decide +kernel
theorem dX4_give_107 : decode cX4_give 107 = .ok (.iload_n 2, 1) := by decide +kernel
theorem dX4_give_108 : decode cX4_give 108 = .ok (.iconst 2, 1) := by decide +kernel
theorem dX4_give_109 : decode cX4_give 109 = .ok (.aload_n 0, 1) := by decide +kernel
theorem dX4_give_110 : decode cX4_give 110 = .ok (.getfield 22, 3) := by decide +kernel
theorem dX4_give_113 : decode cX4_give 113 = .ok (.iload_n 2, 1) := by decide +kernel
theorem dX4_give_114 : decode cX4_give 114 = .ok (.iconst 2, 1) := by decide +kernel
theorem dX4_give_115 : decode cX4_give 115 = .ok (.invokevirtual 39, 3) := by decide +kernel
theorem dX4_give_118 : decode cX4_give 118 = .ok (.iload_n 3, 1) := by decide +kernel
theorem dX4_give_119 : decode cX4_give 119 = .ok (.iadd, 1) := by decide +kernel
theorem dX4_give_120 : decode cX4_give 120 = .ok (.invokevirtual 69, 3) := by decide +kernel
theorem dX4_give_123 : decode cX4_give 123 = .ok (.aload_n 0, 1) := by decide +kernel
theorem dX4_give_124 : decode cX4_give 124 = .ok (.getfield 22, 3) := by decide +kernel
theorem dX4_give_127 : decode cX4_give 127 = .ok (.iload_n 1, 1) := by decide +kernel
theorem dX4_give_128 : decode cX4_give 128 = .ok (.iconst 2, 1) := by decide +kernel
theorem dX4_give_129 : decode cX4_give 129 = .ok (.invokevirtual 39, 3) := by decide +kernel
theorem dX4_give_132 : decode cX4_give 132 = .ok (.ireturn, 1) := by decide +kernel
set_option maxRecDepth 20000 in
theorem ggX4_settle_X4_isMember : GoodIn wsX4_settle wsX4_isMember := goodIn_r _ [7, 2, 8, 9, 6, 10, 39, 40, 41, 42, 43, 44, 45, 46, 47, 48, 49, 50, 51, 52, 53, 54, 55] (by decide +kernel) (by decide +kernel)
set_option maxRecDepth 20000 in
theorem gX4_settle_X4_isMember : GoodIn wsX4_settle (wsV RX4 59 RX4 yX4_isMember wsX4_isMember) := goodIn_app (goodIn_of _ (by decide +kernel)) ggX4_settle_X4_isMember
set_option maxRecDepth 20000 in
theorem ggX4_settle_X4_no : GoodIn wsX4_settle wsX4_no := goodIn_r _ [14, 1, 39, 40, 41, 42, 43] (by decide +kernel) (by decide +kernel)
set_option maxRecDepth 20000 in
theorem gX4_settle_X4_no : GoodIn wsX4_settle (wsV RX4 47 RX4 yX4_no wsX4_no) := goodIn_app (goodIn_of _ (by decide +kernel)) ggX4_settle_X4_no
set_option maxRecDepth 20000 in
theorem ggX4_settle_X4_isDead : GoodIn wsX4_settle wsX4_isDead := goodIn_r _ [18, 2, 19, 20, 21, 22, 23, 24, 39, 40, 41, 42, 43, 44, 45, 46, 47, 48, 49, 50, 51, 52, 53, 54, 55] (by decide +kernel) (by decide +kernel)
set_option maxRecDepth 20000 in
theorem gX4_settle_X4_isDead : GoodIn wsX4_settle (wsV RX4 63 RX4 yX4_isDead wsX4_isDead) := goodIn_app (goodIn_of _ (by decide +kernel)) ggX4_settle_X4_isDead
set_option maxRecDepth 20000 in
theorem ggX4_settle_X3_settle : GoodIn wsX4_settle wsX3_settle := goodIn_r _ [28, 29, 30, 31, 32, 33, 34, 20, 21, 22, 23, 24, 35, 36, 37, 38, 44, 45, 46, 47, 48, 49, 50, 51, 52, 53, 54, 55] (by decide +kernel) (by decide +kernel)
set_option maxRecDepth 20000 in
theorem gX4_settle_X3_settle : GoodIn wsX4_settle (wsV RX4 73 RX3 yX3_settle wsX3_settle) := goodIn_app (goodIn_of _ (by decide +kernel)) ggX4_settle_X3_settle
theorem dX4_settle_0 : decode cX4_settle 0 = .ok (.aload_n 0, 1) := by decide +kernel
theorem dX4_settle_1 : decode cX4_settle 1 = .ok (.iconst 0, 1) := by decide +kernel
theorem dX4_settle_2 : decode cX4_settle 2 = .ok (.putfield 29, 3) := by decide +kernel
theorem dX4_settle_5 : decode cX4_settle 5 = .ok (.aload_n 0, 1) := by decide +kernel
theorem dX4_settle_6 : decode cX4_settle 6 = .ok (.iload_n 1, 1) := by decide +kernel
theorem dX4_settle_7 : decode cX4_settle 7 = .ok (.invokevirtual 59, 3) := by decide +kernel
theorem dX4_settle_10 : decode cX4_settle 10 = .ok (.ifCond .ne 9, 3) := by decide +kernel
theorem dX4_settle_13 : decode cX4_settle 13 = .ok (.aload_n 0, 1) := by decide +kernel
theorem dX4_settle_14 : decode cX4_settle 14 = .ok (.iconst 1, 1) := by decide +kernel
theorem dX4_settle_15 : decode cX4_settle 15 = .ok (.invokevirtual 47, 3) := by decide +kernel
theorem dX4_settle_18 : decode cX4_settle 18 = .ok (.ireturn, 1) := by decide +kernel
theorem dX4_settle_19 : decode cX4_settle 19 = .ok (.aload_n 0, 1) := by decide +kernel
theorem dX4_settle_20 : decode cX4_settle 20 = .ok (.iload_n 1, 1) := by decide +kernel
theorem dX4_settle_21 : decode cX4_settle 21 = .ok (.invokevirtual 63, 3) := by decide +kernel
theorem dX4_settle_24 : decode cX4_settle 24 = .ok (.ifCond .eq 11, 3) := by decide +kernel
theorem dX4_settle_27 : decode cX4_settle 27 = .ok (.aload_n 0, 1) := by decide +kernel
theorem dX4_settle_28 : decode cX4_settle 28 = .ok (.iconst 2, 1) := by decide +kernel
theorem dX4_settle_29 : decode cX4_settle 29 = .ok (.invokevirtual 47, 3) := by decide +kernel
theorem dX4_settle_32 : decode cX4_settle 32 = .ok (.goto 11, 3) := by decide +kernel
theorem dX4_settle_35 : decode cX4_settle 35 = .ok (.aload_n 0, 1) := by decide +kernel
theorem dX4_settle_36 : decode cX4_settle 36 = .ok (.getfield 22, 3) := by decide +kernel
theorem dX4_settle_39 : decode cX4_settle 39 = .ok (.iload_n 1, 1) := by decide +kernel
theorem dX4_settle_40 : decode cX4_settle 40 = .ok (.invokevirtual 73, 3) := by decide +kernel
theorem dX4_settle_43 : decode cX4_settle 43 = .ok (.ireturn, 1) := by decide +kernel
set_option maxRecDepth 20000 in
theorem ggX4_told_X4_isMember : GoodIn wsX4_told wsX4_isMember := goodIn_r _ [7, 2, 8, 9, 6, 10, 21, 22, 23, 24, 25, 26, 27, 28, 29, 30, 31, 32, 33, 34, 35, 36, 37] (by decide +kernel) (by decide +kernel)
set_option maxRecDepth 20000 in
theorem gX4_told_X4_isMember : GoodIn wsX4_told (wsV RX4 59 RX4 yX4_isMember wsX4_isMember) := goodIn_app (goodIn_of _ (by decide +kernel)) ggX4_told_X4_isMember
set_option maxRecDepth 20000 in
theorem ggX4_told_X4_isIn : GoodIn wsX4_told wsX4_isIn := goodIn_r _ [10] (by decide +kernel) (by decide +kernel)
set_option maxRecDepth 20000 in
theorem gX4_told_X4_isIn : GoodIn wsX4_told (va_wsS RX4 35 yX4_isIn wsX4_isIn) := goodIn_app (goodIn_of _ (by decide +kernel)) ggX4_told_X4_isIn
set_option maxRecDepth 20000 in
theorem ggX4_told_X3_of : GoodIn wsX4_told wsX3_of := goodIn_r _ [15, 16, 26, 27, 28, 29, 30, 31, 32, 33, 34, 35, 36, 37] (by decide +kernel) (by decide +kernel)
set_option maxRecDepth 20000 in
theorem gX4_told_X3_of : GoodIn wsX4_told (wsV RX4 39 RX3 yX3_of wsX3_of) := goodIn_app (goodIn_of _ (by decide +kernel)) ggX4_told_X3_of
set_option maxRecDepth 20000 in
theorem ggX4_told_X4_no : GoodIn wsX4_told wsX4_no := goodIn_r _ [20, 1, 21, 22, 23, 24, 25] (by decide +kernel) (by decide +kernel)
set_option maxRecDepth 20000 in
theorem gX4_told_X4_no : GoodIn wsX4_told (wsV RX4 47 RX4 yX4_no wsX4_no) := goodIn_app (goodIn_of _ (by decide +kernel)) ggX4_told_X4_no
theorem dX4_told_0 : decode cX4_told 0 = .ok (.aload_n 0, 1) := by decide +kernel
theorem dX4_told_1 : decode cX4_told 1 = .ok (.iconst 0, 1) := by decide +kernel
theorem dX4_told_2 : decode cX4_told 2 = .ok (.putfield 29, 3) := by decide +kernel
theorem dX4_told_5 : decode cX4_told 5 = .ok (.aload_n 0, 1) := by decide +kernel
theorem dX4_told_6 : decode cX4_told 6 = .ok (.iload_n 1, 1) := by decide +kernel
theorem dX4_told_7 : decode cX4_told 7 = .ok (.invokevirtual 59, 3) := by decide +kernel
theorem dX4_told_10 : decode cX4_told 10 = .ok (.ifCond .eq 25, 3) := by decide +kernel
theorem dX4_told_13 : decode cX4_told 13 = .ok (.iload_n 2, 1) := by decide +kernel
theorem dX4_told_14 : decode cX4_told 14 = .ok (.iconst 0, 1) := by decide +kernel
theorem dX4_told_15 : decode cX4_told 15 = .ok (.bipush 8, 2) := by decide +kernel
theorem dX4_told_17 : decode cX4_told 17 = .ok (.invokestatic 35, 3) := by decide +kernel
theorem dX4_told_20 : decode cX4_told 20 = .ok (.ifCond .eq 15, 3) := by decide +kernel
theorem dX4_told_23 : decode cX4_told 23 = .ok (.aload_n 0, 1) := by decide +kernel
theorem dX4_told_24 : decode cX4_told 24 = .ok (.getfield 22, 3) := by decide +kernel
theorem dX4_told_27 : decode cX4_told 27 = .ok (.iload_n 1, 1) := by decide +kernel
theorem dX4_told_28 : decode cX4_told 28 = .ok (.iload_n 2, 1) := by decide +kernel
theorem dX4_told_29 : decode cX4_told 29 = .ok (.invokevirtual 39, 3) := by decide +kernel
theorem dX4_told_32 : decode cX4_told 32 = .ok (.goto 8, 3) := by decide +kernel
theorem dX4_told_35 : decode cX4_told 35 = .ok (.aload_n 0, 1) := by decide +kernel
theorem dX4_told_36 : decode cX4_told 36 = .ok (.iconst 1, 1) := by decide +kernel
theorem dX4_told_37 : decode cX4_told 37 = .ok (.invokevirtual 47, 3) := by decide +kernel
theorem dX4_told_40 : decode cX4_told 40 = .ok (.ireturn, 1) := by decide +kernel
set_option maxRecDepth 20000 in
theorem ggX4_owes_X3_of : GoodIn wsX4_owes wsX3_of := goodIn_r _ [7, 8, 14, 15, 16, 17, 18, 19, 20, 21, 22, 23, 24, 25] (by decide +kernel) (by decide +kernel)
set_option maxRecDepth 20000 in
theorem gX4_owes_X3_of : GoodIn wsX4_owes (wsV RX4 39 RX3 yX3_of wsX3_of) := goodIn_app (goodIn_of _ (by decide +kernel)) ggX4_owes_X3_of
theorem dX4_owes_0 : decode cX4_owes 0 = .ok (.aload_n 0, 1) := by decide +kernel
theorem dX4_owes_1 : decode cX4_owes 1 = .ok (.iconst 0, 1) := by decide +kernel
theorem dX4_owes_2 : decode cX4_owes 2 = .ok (.putfield 29, 3) := by decide +kernel
theorem dX4_owes_5 : decode cX4_owes 5 = .ok (.iconst (-1), 1) := by decide +kernel
theorem dX4_owes_6 : decode cX4_owes 6 = .ok (.istore_n 1, 1) := by decide +kernel
theorem dX4_owes_7 : decode cX4_owes 7 = .ok (.iconst 0, 1) := by decide +kernel
theorem dX4_owes_8 : decode cX4_owes 8 = .ok (.istore_n 2, 1) := by decide +kernel
theorem dX4_owes_9 : decode cX4_owes 9 = .ok (.iconst 0, 1) := by decide +kernel
theorem dX4_owes_10 : decode cX4_owes 10 = .ok (.istore_n 3, 1) := by decide +kernel
theorem dX4_owes_11 : decode cX4_owes 11 = .ok (.iload_n 3, 1) := by decide +kernel
theorem dX4_owes_12 : decode cX4_owes 12 = .ok (.aload_n 0, 1) := by decide +kernel
theorem dX4_owes_13 : decode cX4_owes 13 = .ok (.getfield 22, 3) := by decide +kernel
