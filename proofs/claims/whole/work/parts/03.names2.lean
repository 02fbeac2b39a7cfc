theorem dX1_copyFrom_111 : decode cX1_copyFrom 111 = .ok (.getfield 28, 3) := by decide +kernel
theorem dX1_copyFrom_114 : decode cX1_copyFrom 114 = .ok (.iload_n 2, 1) := by decide +kernel
theorem dX1_copyFrom_115 : decode cX1_copyFrom 115 = .ok (.iaload, 1) := by decide +kernel
theorem dX1_copyFrom_116 : decode cX1_copyFrom 116 = .ok (.iastore, 1) := by decide +kernel
theorem dX1_copyFrom_117 : decode cX1_copyFrom 117 = .ok (.iinc 2 1, 3) := by decide +kernel
theorem dX1_copyFrom_120 : decode cX1_copyFrom 120 = .ok (.goto (-20), 3) := by decide +kernel
theorem dX1_copyFrom_123 : decode cX1_copyFrom 123 = .ok (.iconst 0, 1) := by decide +kernel
theorem dX1_copyFrom_124 : decode cX1_copyFrom 124 = .ok (.istore_n 2, 1) := by decide +kernel
theorem dX1_copyFrom_125 : decode cX1_copyFrom 125 = .ok (.iload_n 2, 1) := by decide +kernel
theorem dX1_copyFrom_126 : decode cX1_copyFrom 126 = .ok (.bipush 12, 2) := by decide +kernel
theorem dX1_copyFrom_128 : decode cX1_copyFrom 128 = .ok (.if_icmp .ge 24, 3) := by decide +kernel
theorem dX1_copyFrom_131 : decode cX1_copyFrom 131 = .ok (.aload_n 0, 1) := by decide +kernel
theorem dX1_copyFrom_132 : decode cX1_copyFrom 132 = .ok (.getfield 36, 3) := by decide +kernel
theorem dX1_copyFrom_135 : decode cX1_copyFrom 135 = .ok (.iload_n 2, 1) := by decide +kernel
theorem dX1_copyFrom_136 : decode cX1_copyFrom 136 = .ok (.aaload, 1) := by decide +kernel
theorem dX1_copyFrom_137 : decode cX1_copyFrom 137 = .ok (.aload_n 1, 1) := by decide +kernel
theorem dX1_copyFrom_138 : decode cX1_copyFrom 138 = .ok (.getfield 36, 3) := by decide +kernel
theorem dX1_copyFrom_141 : decode cX1_copyFrom 141 = .ok (.iload_n 2, 1) := by decide +kernel
theorem dX1_copyFrom_142 : decode cX1_copyFrom 142 = .ok (.aaload, 1) := by decide +kernel
theorem dX1_copyFrom_143 : decode cX1_copyFrom 143 = .ok (.invokevirtual 56, 3) := by decide +kernel
theorem dX1_copyFrom_146 : decode cX1_copyFrom 146 = .ok (.iinc 2 1, 3) := by decide +kernel
theorem dX1_copyFrom_149 : decode cX1_copyFrom 149 = .ok (.goto (-24), 3) := by decide +kernel
theorem dX1_copyFrom_152 : decode cX1_copyFrom 152 = .ok (.return_, 1) := by decide +kernel
theorem dX1_hasMember_0 : decode cX1_hasMember 0 = .ok (.iload_n 1, 1) := by decide +kernel
theorem dX1_hasMember_1 : decode cX1_hasMember 1 = .ok (.ifCond .lt 26, 3) := by decide +kernel
theorem dX1_hasMember_4 : decode cX1_hasMember 4 = .ok (.iload_n 1, 1) := by decide +kernel
theorem dX1_hasMember_5 : decode cX1_hasMember 5 = .ok (.bipush 12, 2) := by decide +kernel
theorem dX1_hasMember_7 : decode cX1_hasMember 7 = .ok (.if_icmp .ge 20, 3) := by decide +kernel
theorem dX1_hasMember_10 : decode cX1_hasMember 10 = .ok (.aload_n 0, 1) := by decide +kernel
theorem dX1_hasMember_11 : decode cX1_hasMember 11 = .ok (.getfield 36, 3) := by decide +kernel
theorem dX1_hasMember_14 : decode cX1_hasMember 14 = .ok (.iload_n 1, 1) := by decide +kernel
theorem dX1_hasMember_15 : decode cX1_hasMember 15 = .ok (.aaload, 1) := by decide +kernel
theorem dX1_hasMember_16 : decode cX1_hasMember 16 = .ok (.getfield 60, 3) := by decide +kernel
theorem dX1_hasMember_19 : decode cX1_hasMember 19 = .ok (.iconst 3, 1) := by decide +kernel
theorem dX1_hasMember_20 : decode cX1_hasMember 20 = .ok (.if_icmp .eq 7, 3) := by decide +kernel
theorem dX1_hasMember_23 : decode cX1_hasMember 23 = .ok (.iconst 1, 1) := by decide +kernel
theorem dX1_hasMember_24 : decode cX1_hasMember 24 = .ok (.goto 4, 3) := by decide +kernel
theorem dX1_hasMember_27 : decode cX1_hasMember 27 = .ok (.iconst 0, 1) := by decide +kernel
theorem dX1_hasMember_28 : decode cX1_hasMember 28 = .ok (.ireturn, 1) := by decide +kernel
set_option maxRecDepth 20000 in
theorem ggX1_hasRoom_X1_atPot : GoodIn wsX1_hasRoom wsX1_atPot := goodIn_r _ [6, 7, 1, 8, 9, 10, 11, 12, 13, 24, 25, 26, 27, 28, 29, 30, 31, 32, 33, 34, 35, 36, 37, 14, 15, 16, 17, 18, 19, 20, 21, 22, 23] (by decide +kernel) (by decide +kernel)
set_option maxRecDepth 20000 in
theorem gX1_hasRoom_X1_atPot : GoodIn wsX1_hasRoom (wsV RX1 66 RX1 yX1_atPot wsX1_atPot) := goodIn_app (goodIn_of _ (by decide +kernel)) ggX1_hasRoom_X1_atPot
theorem dX1_hasRoom_0 : decode cX1_hasRoom 0 = .ok (.iload_n 1, 1) := by decide +kernel
theorem dX1_hasRoom_1 : decode cX1_hasRoom 1 = .ok (.iconst (-1), 1) := by decide +kernel
theorem dX1_hasRoom_2 : decode cX1_hasRoom 2 = .ok (.if_icmp .ne 5, 3) := by decide +kernel
theorem dX1_hasRoom_5 : decode cX1_hasRoom 5 = .ok (.iconst 1, 1) := by decide +kernel
theorem dX1_hasRoom_6 : decode cX1_hasRoom 6 = .ok (.ireturn, 1) := by decide +kernel
theorem dX1_hasRoom_7 : decode cX1_hasRoom 7 = .ok (.aload_n 2, 1) := by decide +kernel
theorem dX1_hasRoom_8 : decode cX1_hasRoom 8 = .ok (.getfield 63, 3) := by decide +kernel
theorem dX1_hasRoom_11 : decode cX1_hasRoom 11 = .ok (.iload_n 1, 1) := by decide +kernel
theorem dX1_hasRoom_12 : decode cX1_hasRoom 12 = .ok (.if_icmp .ne 13, 3) := by decide +kernel
theorem dX1_hasRoom_15 : decode cX1_hasRoom 15 = .ok (.aload_n 0, 1) := by decide +kernel
theorem dX1_hasRoom_16 : decode cX1_hasRoom 16 = .ok (.iload_n 1, 1) := by decide +kernel
theorem dX1_hasRoom_17 : decode cX1_hasRoom 17 = .ok (.invokevirtual 66, 3) := by decide +kernel
theorem dX1_hasRoom_20 : decode cX1_hasRoom 20 = .ok (.iconst 1, 1) := by decide +kernel
theorem dX1_hasRoom_21 : decode cX1_hasRoom 21 = .ok (.isub, 1) := by decide +kernel
theorem dX1_hasRoom_22 : decode cX1_hasRoom 22 = .ok (.goto 8, 3) := by decide +kernel
theorem dX1_hasRoom_25 : decode cX1_hasRoom 25 = .ok (.aload_n 0, 1) := by decide +kernel
theorem dX1_hasRoom_26 : decode cX1_hasRoom 26 = .ok (.iload_n 1, 1) := by decide +kernel
theorem dX1_hasRoom_27 : decode cX1_hasRoom 27 = .ok (.invokevirtual 66, 3) := by decide +kernel
theorem dX1_hasRoom_30 : decode cX1_hasRoom 30 = .ok (.istore_n 3, 1) := by decide +kernel
theorem dX1_hasRoom_31 : decode cX1_hasRoom 31 = .ok (.iload_n 3, 1) := by decide +kernel
theorem dX1_hasRoom_32 : decode cX1_hasRoom 32 = .ok (.iconst 4, 1) := by decide +kernel
theorem dX1_hasRoom_33 : decode cX1_hasRoom 33 = .ok (.if_icmp .ge 7, 3) := by decide +kernel
theorem dX1_hasRoom_36 : decode cX1_hasRoom 36 = .ok (.iconst 1, 1) := by decide +kernel
theorem dX1_hasRoom_37 : decode cX1_hasRoom 37 = .ok (.goto 4, 3) := by decide +kernel
theorem dX1_hasRoom_40 : decode cX1_hasRoom 40 = .ok (.iconst 0, 1) := by decide +kernel
theorem dX1_hasRoom_41 : decode cX1_hasRoom 41 = .ok (.ireturn, 1) := by decide +kernel
theorem dX1_heatOf_0 : decode cX1_heatOf 0 = .ok (.iload_n 1, 1) := by decide +kernel
theorem dX1_heatOf_1 : decode cX1_heatOf 1 = .ok (.ifCond .lt 17, 3) := by decide +kernel
theorem dX1_heatOf_4 : decode cX1_heatOf 4 = .ok (.iload_n 1, 1) := by decide +kernel
theorem dX1_heatOf_5 : decode cX1_heatOf 5 = .ok (.iconst 3, 1) := by decide +kernel
theorem dX1_heatOf_6 : decode cX1_heatOf 6 = .ok (.if_icmp .ge 12, 3) := by decide +kernel
theorem dX1_heatOf_9 : decode cX1_heatOf 9 = .ok (.aload_n 0, 1) := by decide +kernel
theorem dX1_heatOf_10 : decode cX1_heatOf 10 = .ok (.getfield 28, 3) := by decide +kernel
theorem dX1_heatOf_13 : decode cX1_heatOf 13 = .ok (.iload_n 1, 1) := by decide +kernel
theorem dX1_heatOf_14 : decode cX1_heatOf 14 = .ok (.iaload, 1) := by decide +kernel
theorem dX1_heatOf_15 : decode cX1_heatOf 15 = .ok (.goto 4, 3) := by decide +kernel
theorem dX1_heatOf_18 : decode cX1_heatOf 18 = .ok (.iconst 0, 1) := by decide +kernel
theorem dX1_heatOf_19 : decode cX1_heatOf 19 = .ok (.ireturn, 1) := by decide +kernel
set_option maxRecDepth 20000 in
theorem ggX1_atPot_X0_lives : GoodIn wsX1_atPot wsX0_lives := goodIn_r _ [7, 8, 23, 24, 25, 26, 27, 28, 29, 30, 31, 32] (by decide +kernel) (by decide +kernel)
set_option maxRecDepth 20000 in
theorem gX1_atPot_X0_lives : GoodIn wsX1_atPot (wsV RX1 70 RX0 yX0_lives wsX0_lives) := goodIn_app (goodIn_of _ (by decide +kernel)) ggX1_atPot_X0_lives
theorem dX1_atPot_0 : decode cX1_atPot 0 = .ok (.iconst 0, 1) := by decide +kernel
theorem dX1_atPot_1 : decode cX1_atPot 1 = .ok (.istore_n 2, 1) := by decide +kernel
theorem dX1_atPot_2 : decode cX1_atPot 2 = .ok (.aload_n 0, 1) := by decide +kernel
theorem dX1_atPot_3 : decode cX1_atPot 3 = .ok (.getfield 36, 3) := by decide +kernel
theorem dX1_atPot_6 : decode cX1_atPot 6 = .ok (.astore_n 3, 1) := by decide +kernel
theorem dX1_atPot_7 : decode cX1_atPot 7 = .ok (.aload_n 3, 1) := by decide +kernel
theorem dX1_atPot_8 : decode cX1_atPot 8 = .ok (.arraylength, 1) := by decide +kernel
theorem dX1_atPot_9 : decode cX1_atPot 9 = .ok (.istore 4, 2) := by decide +kernel
theorem dX1_atPot_11 : decode cX1_atPot 11 = .ok (.iconst 0, 1) := by decide +kernel
theorem dX1_atPot_12 : decode cX1_atPot 12 = .ok (.istore 5, 2) := by decide +kernel
theorem dX1_atPot_14 : decode cX1_atPot 14 = .ok (.iload 5, 2) := by decide +kernel
theorem dX1_atPot_16 : decode cX1_atPot 16 = .ok (.iload 4, 2) := by decide +kernel
theorem dX1_atPot_18 : decode cX1_atPot 18 = .ok (.if_icmp .ge 35, 3) := by decide +kernel
theorem dX1_atPot_21 : decode cX1_atPot 21 = .ok (.aload_n 3, 1) := by decide +kernel
theorem dX1_atPot_22 : decode cX1_atPot 22 = .ok (.iload 5, 2) := by decide +kernel
theorem dX1_atPot_24 : decode cX1_atPot 24 = .ok (.aaload, 1) := by decide +kernel
theorem dX1_atPot_25 : decode cX1_atPot 25 = .ok (.astore 6, 2) := by decide +kernel
theorem dX1_atPot_27 : decode cX1_atPot 27 = .ok (.aload 6, 2) := by decide +kernel
theorem dX1_atPot_29 : decode cX1_atPot 29 = .ok (.invokevirtual 70, 3) := by decide +kernel
theorem dX1_atPot_32 : decode cX1_atPot 32 = .ok (.ifCond .eq 15, 3) := by decide +kernel
theorem dX1_atPot_35 : decode cX1_atPot 35 = .ok (.aload 6, 2) := by decide +kernel
theorem dX1_atPot_37 : decode cX1_atPot 37 = .ok (.getfield 63, 3) := by decide +kernel
theorem dX1_atPot_40 : decode cX1_atPot 40 = .ok (.iload_n 1, 1) := by decide +kernel
theorem dX1_atPot_41 : decode cX1_atPot 41 = .ok (.if_icmp .ne 6, 3) := by decide +kernel
theorem dX1_atPot_44 : decode cX1_atPot 44 = .ok (.iinc 2 1, 3) := by decide +kernel
theorem dX1_atPot_47 : decode cX1_atPot 47 = .ok (.iinc 5 1, 3) := by decide +kernel
theorem dX1_atPot_50 : decode cX1_atPot 50 = .ok (.goto (-36), 3) := by decide +kernel
theorem dX1_atPot_53 : decode cX1_atPot 53 = .ok (.iload_n 2, 1) := by decide +kernel
theorem dX1_atPot_54 : decode cX1_atPot 54 = .ok (.ireturn, 1) := by decide +kernel
set_option maxRecDepth 20000 in
theorem ggX1_combersAt_X1_countCombers : GoodIn wsX1_combersAt wsX1_countCombers := goodIn_r _ [6, 1, 7, 8, 9, 10, 11, 12, 13, 14, 15, 16, 17, 18, 19, 20, 21, 22, 23, 24, 25, 26, 27, 28, 29, 30, 31, 32, 33, 34, 35, 36, 37, 38, 39] (by decide +kernel) (by decide +kernel)
set_option maxRecDepth 20000 in
theorem gX1_combersAt_X1_countCombers : GoodIn wsX1_combersAt (wsV RX1 74 RX1 yX1_countCombers wsX1_countCombers) := goodIn_app (goodIn_of _ (by decide +kernel)) ggX1_combersAt_X1_countCombers
theorem dX1_combersAt_0 : decode cX1_combersAt 0 = .ok (.aload_n 0, 1) := by decide +kernel
theorem dX1_combersAt_1 : decode cX1_combersAt 1 = .ok (.invokevirtual 74, 3) := by decide +kernel
theorem dX1_combersAt_4 : decode cX1_combersAt 4 = .ok (.iload_n 1, 1) := by decide +kernel
theorem dX1_combersAt_5 : decode cX1_combersAt 5 = .ok (.ifCond .lt 17, 3) := by decide +kernel
theorem dX1_combersAt_8 : decode cX1_combersAt 8 = .ok (.iload_n 1, 1) := by decide +kernel
theorem dX1_combersAt_9 : decode cX1_combersAt 9 = .ok (.iconst 3, 1) := by decide +kernel
theorem dX1_combersAt_10 : decode cX1_combersAt 10 = .ok (.if_icmp .ge 12, 3) := by decide +kernel
theorem dX1_combersAt_13 : decode cX1_combersAt 13 = .ok (.aload_n 0, 1) := by decide +kernel
theorem dX1_combersAt_14 : decode cX1_combersAt 14 = .ok (.getfield 31, 3) := by decide +kernel
theorem dX1_combersAt_17 : decode cX1_combersAt 17 = .ok (.iload_n 1, 1) := by decide +kernel
theorem dX1_combersAt_18 : decode cX1_combersAt 18 = .ok (.iaload, 1) := by decide +kernel
theorem dX1_combersAt_19 : decode cX1_combersAt 19 = .ok (.goto 4, 3) := by decide +kernel
theorem dX1_combersAt_22 : decode cX1_combersAt 22 = .ok (.iconst 0, 1) := by decide +kernel
theorem dX1_combersAt_23 : decode cX1_combersAt 23 = .ok (.ireturn, 1) := by decide +kernel
set_option maxRecDepth 20000 in
theorem ggX1_countCombers_X0_combs : GoodIn wsX1_countCombers wsX0_combs := goodIn_r _ [8, 9, 10, 25, 26, 27, 28, 29, 30, 31, 32, 33, 34] (by decide +kernel) (by decide +kernel)
set_option maxRecDepth 20000 in
theorem gX1_countCombers_X0_combs : GoodIn wsX1_countCombers (wsV RX1 77 RX0 yX0_combs wsX0_combs) := goodIn_app (goodIn_of _ (by decide +kernel)) ggX1_countCombers_X0_combs
theorem dX1_countCombers_0 : decode cX1_countCombers 0 = .ok (.iconst 0, 1) := by decide +kernel
theorem dX1_countCombers_1 : decode cX1_countCombers 1 = .ok (.istore_n 1, 1) := by decide +kernel
theorem dX1_countCombers_2 : decode cX1_countCombers 2 = .ok (.iload_n 1, 1) := by decide +kernel
theorem dX1_countCombers_3 : decode cX1_countCombers 3 = .ok (.iconst 3, 1) := by decide +kernel
theorem dX1_countCombers_4 : decode cX1_countCombers 4 = .ok (.if_icmp .ge 16, 3) := by decide +kernel
theorem dX1_countCombers_7 : decode cX1_countCombers 7 = .ok (.aload_n 0, 1) := by decide +kernel
theorem dX1_countCombers_8 : decode cX1_countCombers 8 = .ok (.getfield 31, 3) := by decide +kernel
theorem dX1_countCombers_11 : decode cX1_countCombers 11 = .ok (.iload_n 1, 1) := by decide +kernel
theorem dX1_countCombers_12 : decode cX1_countCombers 12 = .ok (.iconst 0, 1) := by decide +kernel
theorem dX1_countCombers_13 : decode cX1_countCombers 13 = .ok (.iastore, 1) := by decide +kernel
theorem dX1_countCombers_14 : decode cX1_countCombers 14 = .ok (.iinc 1 1, 3) := by decide +kernel
theorem dX1_countCombers_17 : decode cX1_countCombers 17 = .ok (.goto (-15), 3) := by decide +kernel
theorem dX1_countCombers_20 : decode cX1_countCombers 20 = .ok (.aload_n 0, 1) := by decide +kernel
theorem dX1_countCombers_21 : decode cX1_countCombers 21 = .ok (.getfield 36, 3) := by decide +kernel
theorem dX1_countCombers_24 : decode cX1_countCombers 24 = .ok (.astore_n 1, 1) := by decide +kernel
theorem dX1_countCombers_25 : decode cX1_countCombers 25 = .ok (.aload_n 1, 1) := by decide +kernel
theorem dX1_countCombers_26 : decode cX1_countCombers 26 = .ok (.arraylength, 1) := by decide +kernel
theorem dX1_countCombers_27 : decode cX1_countCombers 27 = .ok (.istore_n 2, 1) := by decide +kernel
theorem dX1_countCombers_28 : decode cX1_countCombers 28 = .ok (.iconst 0, 1) := by decide +kernel
theorem dX1_countCombers_29 : decode cX1_countCombers 29 = .ok (.istore_n 3, 1) := by decide +kernel
theorem dX1_countCombers_30 : decode cX1_countCombers 30 = .ok (.iload_n 3, 1) := by decide +kernel
theorem dX1_countCombers_31 : decode cX1_countCombers 31 = .ok (.iload_n 2, 1) := by decide +kernel
theorem dX1_countCombers_32 : decode cX1_countCombers 32 = .ok (.if_icmp .ge 36, 3) := by decide +kernel
theorem dX1_countCombers_35 : decode cX1_countCombers 35 = .ok (.aload_n 1, 1) := by decide +kernel
theorem dX1_countCombers_36 : decode cX1_countCombers 36 = .ok (.iload_n 3, 1) := by decide +kernel
theorem dX1_countCombers_37 : decode cX1_countCombers 37 = .ok (.aaload, 1) := by decide +kernel
theorem dX1_countCombers_38 : decode cX1_countCombers 38 = .ok (.astore 4, 2) := by decide +kernel
theorem dX1_countCombers_40 : decode cX1_countCombers 40 = .ok (.aload 4, 2) := by decide +kernel
theorem dX1_countCombers_42 : decode cX1_countCombers 42 = .ok (.invokevirtual 77, 3) := by decide +kernel
theorem dX1_countCombers_45 : decode cX1_countCombers 45 = .ok (.ifCond .eq 17, 3) := by decide +kernel
theorem dX1_countCombers_48 : decode cX1_countCombers 48 = .ok (.aload_n 0, 1) := by decide +kernel
theorem dX1_countCombers_49 : decode cX1_countCombers 49 = .ok (.getfield 31, 3) := by decide +kernel
theorem dX1_countCombers_52 : decode cX1_countCombers 52 = .ok (.aload 4, 2) := by decide +kernel
theorem dX1_countCombers_54 : decode cX1_countCombers 54 = .ok (.getfield 63, 3) := by decide +kernel
theorem dX1_countCombers_57 : decode cX1_countCombers 57 = .ok (.dup2, 1) := by decide +kernel
theorem dX1_countCombers_58 : decode cX1_countCombers 58 = .ok (.iaload, 1) := by decide +kernel
theorem dX1_countCombers_59 : decode cX1_countCombers 59 = .ok (.iconst 1, 1) := by decide +kernel
theorem dX1_countCombers_60 : decode cX1_countCombers 60 = .ok (.iadd, 1) := by decide +kernel
theorem dX1_countCombers_61 : decode cX1_countCombers 61 = .ok (.iastore, 1) := by decide +kernel
theorem dX1_countCombers_62 : decode cX1_countCombers 62 = .ok (.iinc 3 1, 3) := by decide +kernel
theorem dX1_countCombers_65 : decode cX1_countCombers 65 = .ok (.goto (-35), 3) := by decide +kernel
theorem dX1_countCombers_68 : decode cX1_countCombers 68 = .ok (.return_, 1) := by decide +kernel
theorem dX1_howMany_0 : decode cX1_howMany 0 = .ok (.iconst 0, 1) := by decide +kernel
theorem dX1_howMany_1 : decode cX1_howMany 1 = .ok (.istore_n 2, 1) := by decide +kernel
theorem dX1_howMany_2 : decode cX1_howMany 2 = .ok (.aload_n 0, 1) := by decide +kernel
theorem dX1_howMany_3 : decode cX1_howMany 3 = .ok (.getfield 36, 3) := by decide +kernel
theorem dX1_howMany_6 : decode cX1_howMany 6 = .ok (.astore_n 3, 1) := by decide +kernel
theorem dX1_howMany_7 : decode cX1_howMany 7 = .ok (.aload_n 3, 1) := by decide +kernel
theorem dX1_howMany_8 : decode cX1_howMany 8 = .ok (.arraylength, 1) := by decide +kernel
theorem dX1_howMany_9 : decode cX1_howMany 9 = .ok (.istore 4, 2) := by decide +kernel
theorem dX1_howMany_11 : decode cX1_howMany 11 = .ok (.iconst 0, 1) := by decide +kernel
theorem dX1_howMany_12 : decode cX1_howMany 12 = .ok (.istore 5, 2) := by decide +kernel
theorem dX1_howMany_14 : decode cX1_howMany 14 = .ok (.iload 5, 2) := by decide +kernel
theorem dX1_howMany_16 : decode cX1_howMany 16 = .ok (.iload 4, 2) := by decide +kernel
theorem dX1_howMany_18 : decode cX1_howMany 18 = .ok (.if_icmp .ge 27, 3) := by decide +kernel
theorem dX1_howMany_21 : decode cX1_howMany 21 = .ok (.aload_n 3, 1) := by decide +kernel
theorem dX1_howMany_22 : decode cX1_howMany 22 = .ok (.iload 5, 2) := by decide +kernel
theorem dX1_howMany_24 : decode cX1_howMany 24 = .ok (.aaload, 1) := by decide +kernel
theorem dX1_howMany_25 : decode cX1_howMany 25 = .ok (.astore 6, 2) := by decide +kernel
theorem dX1_howMany_27 : decode cX1_howMany 27 = .ok (.aload 6, 2) := by decide +kernel
theorem dX1_howMany_29 : decode cX1_howMany 29 = .ok (.getfield 60, 3) := by decide +kernel
theorem dX1_howMany_32 : decode cX1_howMany 32 = .ok (.iload_n 1, 1) := by decide +kernel
theorem dX1_howMany_33 : decode cX1_howMany 33 = .ok (.if_icmp .ne 6, 3) := by decide +kernel
theorem dX1_howMany_36 : decode cX1_howMany 36 = .ok (.iinc 2 1, 3) := by decide +kernel
theorem dX1_howMany_39 : decode cX1_howMany 39 = .ok (.iinc 5 1, 3) := by decide +kernel
theorem dX1_howMany_42 : decode cX1_howMany 42 = .ok (.goto (-28), 3) := by decide +kernel
theorem dX1_howMany_45 : decode cX1_howMany 45 = .ok (.iload_n 2, 1) := by decide +kernel
theorem dX1_howMany_46 : decode cX1_howMany 46 = .ok (.ireturn, 1) := by decide +kernel
theorem dX1_coinsInPurses_0 : decode cX1_coinsInPurses 0 = .ok (.iconst 0, 1) := by decide +kernel
theorem dX1_coinsInPurses_1 : decode cX1_coinsInPurses 1 = .ok (.istore_n 1, 1) := by decide +kernel
theorem dX1_coinsInPurses_2 : decode cX1_coinsInPurses 2 = .ok (.aload_n 0, 1) := by decide +kernel
theorem dX1_coinsInPurses_3 : decode cX1_coinsInPurses 3 = .ok (.getfield 36, 3) := by decide +kernel
theorem dX1_coinsInPurses_6 : decode cX1_coinsInPurses 6 = .ok (.astore_n 2, 1) := by decide +kernel
theorem dX1_coinsInPurses_7 : decode cX1_coinsInPurses 7 = .ok (.aload_n 2, 1) := by decide +kernel
theorem dX1_coinsInPurses_8 : decode cX1_coinsInPurses 8 = .ok (.arraylength, 1) := by decide +kernel
theorem dX1_coinsInPurses_9 : decode cX1_coinsInPurses 9 = .ok (.istore_n 3, 1) := by decide +kernel
theorem dX1_coinsInPurses_10 : decode cX1_coinsInPurses 10 = .ok (.iconst 0, 1) := by decide +kernel
theorem dX1_coinsInPurses_11 : decode cX1_coinsInPurses 11 = .ok (.istore 4, 2) := by decide +kernel
theorem dX1_coinsInPurses_13 : decode cX1_coinsInPurses 13 = .ok (.iload 4, 2) := by decide +kernel
theorem dX1_coinsInPurses_15 : decode cX1_coinsInPurses 15 = .ok (.iload_n 3, 1) := by decide +kernel
theorem dX1_coinsInPurses_16 : decode cX1_coinsInPurses 16 = .ok (.if_icmp .ge 23, 3) := by decide +kernel
theorem dX1_coinsInPurses_19 : decode cX1_coinsInPurses 19 = .ok (.aload_n 2, 1) := by decide +kernel
theorem dX1_coinsInPurses_20 : decode cX1_coinsInPurses 20 = .ok (.iload 4, 2) := by decide +kernel
theorem dX1_coinsInPurses_22 : decode cX1_coinsInPurses 22 = .ok (.aaload, 1) := by decide +kernel
theorem dX1_coinsInPurses_23 : decode cX1_coinsInPurses 23 = .ok (.astore 5, 2) := by decide +kernel
theorem dX1_coinsInPurses_25 : decode cX1_coinsInPurses 25 = .ok (.iload_n 1, 1) := by decide +kernel
theorem dX1_coinsInPurses_26 : decode cX1_coinsInPurses 26 = .ok (.aload 5, 2) := by decide +kernel
theorem dX1_coinsInPurses_28 : decode cX1_coinsInPurses 28 = .ok (.getfield 80, 3) := by decide +kernel
theorem dX1_coinsInPurses_31 : decode cX1_coinsInPurses 31 = .ok (.iadd, 1) := by decide +kernel
theorem dX1_coinsInPurses_32 : decode cX1_coinsInPurses 32 = .ok (.istore_n 1, 1) := by decide +kernel
theorem dX1_coinsInPurses_33 : decode cX1_coinsInPurses 33 = .ok (.iinc 4 1, 3) := by decide +kernel
theorem dX1_coinsInPurses_36 : decode cX1_coinsInPurses 36 = .ok (.goto (-23), 3) := by decide +kernel
theorem dX1_coinsInPurses_39 : decode cX1_coinsInPurses 39 = .ok (.iload_n 1, 1) := by decide +kernel
theorem dX1_coinsInPurses_40 : decode cX1_coinsInPurses 40 = .ok (.ireturn, 1) := by decide +kernel
theorem dX1_marksOfAll_0 : decode cX1_marksOfAll 0 = .ok (.iconst 0, 1) := by decide +kernel
theorem dX1_marksOfAll_1 : decode cX1_marksOfAll 1 = .ok (.istore_n 1, 1) := by decide +kernel
theorem dX1_marksOfAll_2 : decode cX1_marksOfAll 2 = .ok (.aload_n 0, 1) := by decide +kernel
theorem dX1_marksOfAll_3 : decode cX1_marksOfAll 3 = .ok (.getfield 36, 3) := by decide +kernel
theorem dX1_marksOfAll_6 : decode cX1_marksOfAll 6 = .ok (.astore_n 2, 1) := by decide +kernel
theorem dX1_marksOfAll_7 : decode cX1_marksOfAll 7 = .ok (.aload_n 2, 1) := by decide +kernel
theorem dX1_marksOfAll_8 : decode cX1_marksOfAll 8 = .ok (.arraylength, 1) := by decide +kernel
theorem dX1_marksOfAll_9 : decode cX1_marksOfAll 9 = .ok (.istore_n 3, 1) := by decide +kernel
theorem dX1_marksOfAll_10 : decode cX1_marksOfAll 10 = .ok (.iconst 0, 1) := by decide +kernel
theorem dX1_marksOfAll_11 : decode cX1_marksOfAll 11 = .ok (.istore 4, 2) := by decide +kernel
theorem dX1_marksOfAll_13 : decode cX1_marksOfAll 13 = .ok (.iload 4, 2) := by decide +kernel
theorem dX1_marksOfAll_15 : decode cX1_marksOfAll 15 = .ok (.iload_n 3, 1) := by decide +kernel
theorem dX1_marksOfAll_16 : decode cX1_marksOfAll 16 = .ok (.if_icmp .ge 23, 3) := by decide +kernel
theorem dX1_marksOfAll_19 : decode cX1_marksOfAll 19 = .ok (.aload_n 2, 1) := by decide +kernel
theorem dX1_marksOfAll_20 : decode cX1_marksOfAll 20 = .ok (.iload 4, 2) := by decide +kernel
theorem dX1_marksOfAll_22 : decode cX1_marksOfAll 22 = .ok (.aaload, 1) := by decide +kernel
theorem dX1_marksOfAll_23 : decode cX1_marksOfAll 23 = .ok (.astore 5, 2) := by decide +kernel
theorem dX1_marksOfAll_25 : decode cX1_marksOfAll 25 = .ok (.iload_n 1, 1) := by decide +kernel
theorem dX1_marksOfAll_26 : decode cX1_marksOfAll 26 = .ok (.aload 5, 2) := by decide +kernel
theorem dX1_marksOfAll_28 : decode cX1_marksOfAll 28 = .ok (.getfield 83, 3) := by decide +kernel
theorem dX1_marksOfAll_31 : decode cX1_marksOfAll 31 = .ok (.iadd, 1) := by decide +kernel
theorem dX1_marksOfAll_32 : decode cX1_marksOfAll 32 = .ok (.istore_n 1, 1) := by decide +kernel
theorem dX1_marksOfAll_33 : decode cX1_marksOfAll 33 = .ok (.iinc 4 1, 3) := by decide +kernel
theorem dX1_marksOfAll_36 : decode cX1_marksOfAll 36 = .ok (.goto (-23), 3) := by decide +kernel
theorem dX1_marksOfAll_39 : decode cX1_marksOfAll 39 = .ok (.iload_n 1, 1) := by decide +kernel
theorem dX1_marksOfAll_40 : decode cX1_marksOfAll 40 = .ok (.ireturn, 1) := by decide +kernel
set_option maxRecDepth 20000 in
theorem ggX1_tally_X1_howMany : GoodIn wsX1_tally wsX1_howMany := goodIn_r _ [13, 14, 15, 26, 27, 28, 29, 30, 31, 32, 33, 34, 35, 36, 37, 38, 39, 40, 41, 42, 43, 44, 45, 46, 47, 48, 49] (by decide +kernel) (by decide +kernel)
set_option maxRecDepth 20000 in
theorem gX1_tally_X1_howMany : GoodIn wsX1_tally (wsV RX1 86 RX1 yX1_howMany wsX1_howMany) := goodIn_app (goodIn_of _ (by decide +kernel)) ggX1_tally_X1_howMany
set_option maxRecDepth 20000 in
theorem ggX1_tally_X1_coinsInPurses : GoodIn wsX1_tally wsX1_coinsInPurses := goodIn_r _ [19, 14, 20, 26, 27, 28, 29, 30, 31, 32, 33, 34, 35, 36, 37, 38, 39, 40, 41, 42, 43, 44, 45, 46, 47, 48, 49] (by decide +kernel) (by decide +kernel)
set_option maxRecDepth 20000 in
theorem gX1_tally_X1_coinsInPurses : GoodIn wsX1_tally (wsV RX1 89 RX1 yX1_coinsInPurses wsX1_coinsInPurses) := goodIn_app (goodIn_of _ (by decide +kernel)) ggX1_tally_X1_coinsInPurses
set_option maxRecDepth 20000 in
theorem ggX1_tally_X1_marksOfAll : GoodIn wsX1_tally wsX1_marksOfAll := goodIn_r _ [24, 14, 25, 26, 27, 28, 29, 30, 31, 32, 33, 34, 35, 36, 37, 38, 39, 40, 41, 42, 43, 44, 45, 46, 47, 48, 49] (by decide +kernel) (by decide +kernel)
set_option maxRecDepth 20000 in
theorem gX1_tally_X1_marksOfAll : GoodIn wsX1_tally (wsV RX1 93 RX1 yX1_marksOfAll wsX1_marksOfAll) := goodIn_app (goodIn_of _ (by decide +kernel)) ggX1_tally_X1_marksOfAll
theorem dX1_tally_0 : decode cX1_tally 0 = .ok (.iload_n 1, 1) := by decide +kernel
theorem dX1_tally_1 : decode cX1_tally 1 = .ok (.tableswitch 126 0 11 #[63, 68, 73, 79, 85, 91, 96, 101, 106, 111, 116, 121], 63) := by decide +kernel
theorem dX1_tally_64 : decode cX1_tally 64 = .ok (.aload_n 0, 1) := by decide +kernel
theorem dX1_tally_65 : decode cX1_tally 65 = .ok (.getfield 41, 3) := by decide +kernel
theorem dX1_tally_68 : decode cX1_tally 68 = .ok (.ireturn, 1) := by decide +kernel
theorem dX1_tally_69 : decode cX1_tally 69 = .ok (.aload_n 0, 1) := by decide +kernel
theorem dX1_tally_70 : decode cX1_tally 70 = .ok (.getfield 44, 3) := by decide +kernel
theorem dX1_tally_73 : decode cX1_tally 73 = .ok (.ireturn, 1) := by decide +kernel
theorem dX1_tally_74 : decode cX1_tally 74 = .ok (.aload_n 0, 1) := by decide +kernel
theorem dX1_tally_75 : decode cX1_tally 75 = .ok (.iconst 0, 1) := by decide +kernel
theorem dX1_tally_76 : decode cX1_tally 76 = .ok (.invokevirtual 86, 3) := by decide +kernel
theorem dX1_tally_79 : decode cX1_tally 79 = .ok (.ireturn, 1) := by decide +kernel
theorem dX1_tally_80 : decode cX1_tally 80 = .ok (.aload_n 0, 1) := by decide +kernel
theorem dX1_tally_81 : decode cX1_tally 81 = .ok (.iconst 1, 1) := by decide +kernel
theorem dX1_tally_82 : decode cX1_tally 82 = .ok (.invokevirtual 86, 3) := by decide +kernel
theorem dX1_tally_85 : decode cX1_tally 85 = .ok (.ireturn, 1) := by decide +kernel
theorem dX1_tally_86 : decode cX1_tally 86 = .ok (.aload_n 0, 1) := by decide +kernel
theorem dX1_tally_87 : decode cX1_tally 87 = .ok (.iconst 2, 1) := by decide +kernel
theorem dX1_tally_88 : decode cX1_tally 88 = .ok (.invokevirtual 86, 3) := by decide +kernel
theorem dX1_tally_91 : decode cX1_tally 91 = .ok (.ireturn, 1) := by decide +kernel
theorem dX1_tally_92 : decode cX1_tally 92 = .ok (.aload_n 0, 1) := by decide +kernel
theorem dX1_tally_93 : decode cX1_tally 93 = .ok (.getfield 9, 3) := by decide +kernel
theorem dX1_tally_96 : decode cX1_tally 96 = .ok (.ireturn, 1) := by decide +kernel
theorem dX1_tally_97 : decode cX1_tally 97 = .ok (.aload_n 0, 1) := by decide +kernel
theorem dX1_tally_98 : decode cX1_tally 98 = .ok (.getfield 15, 3) := by decide +kernel
theorem dX1_tally_101 : decode cX1_tally 101 = .ok (.ireturn, 1) := by decide +kernel
theorem dX1_tally_102 : decode cX1_tally 102 = .ok (.aload_n 0, 1) := by decide +kernel
theorem dX1_tally_103 : decode cX1_tally 103 = .ok (.getfield 18, 3) := by decide +kernel
theorem dX1_tally_106 : decode cX1_tally 106 = .ok (.ireturn, 1) := by decide +kernel
theorem dX1_tally_107 : decode cX1_tally 107 = .ok (.aload_n 0, 1) := by decide +kernel
theorem dX1_tally_108 : decode cX1_tally 108 = .ok (.getfield 47, 3) := by decide +kernel
theorem dX1_tally_111 : decode cX1_tally 111 = .ok (.ireturn, 1) := by decide +kernel
theorem dX1_tally_112 : decode cX1_tally 112 = .ok (.aload_n 0, 1) := by decide +kernel
theorem dX1_tally_113 : decode cX1_tally 113 = .ok (.invokevirtual 89, 3) := by decide +kernel
theorem dX1_tally_116 : decode cX1_tally 116 = .ok (.ireturn, 1) := by decide +kernel
theorem dX1_tally_117 : decode cX1_tally 117 = .ok (.aload_n 0, 1) := by decide +kernel
theorem dX1_tally_118 : decode cX1_tally 118 = .ok (.invokevirtual 93, 3) := by decide +kernel
theorem dX1_tally_121 : decode cX1_tally 121 = .ok (.ireturn, 1) := by decide +kernel
theorem dX1_tally_122 : decode cX1_tally 122 = .ok (.aload_n 0, 1) := by decide +kernel
theorem dX1_tally_123 : decode cX1_tally 123 = .ok (.getfield 50, 3) := by decide +kernel
theorem dX1_tally_126 : decode cX1_tally 126 = .ok (.ireturn, 1) := by decide +kernel
theorem dX1_tally_127 : decode cX1_tally 127 = .ok (.aload_n 0, 1) := by decide +kernel
theorem dX1_tally_128 : decode cX1_tally 128 = .ok (.getfield 53, 3) := by decide +kernel
theorem dX1_tally_131 : decode cX1_tally 131 = .ok (.ireturn, 1) := by decide +kernel
set_option maxRecDepth 20000 in
theorem ggX1_liveWeeks_X1_liveWeek : GoodIn wsX1_liveWeeks wsX1_liveWeek := goodIn_r _ [5, 6, 7, 8, 9, 10, 4, 11, 12, 13, 14, 15, 16, 17, 18, 19, 20, 21, 22, 23, 24, 25, 26, 27, 28, 29, 30, 31, 32, 33, 34, 35, 36, 37, 38, 39, 40, 41, 42, 43, 44, 45, 46, 47, 48, 49, 50, 51, 52, 53, 54, 55, 56, 57, 58, 59, 60, 61, 62, 63, 64, 65, 66, 67, 68, 69, 70, 71, 72, 73, 74, 75, 76, 77, 78, 79, 80, 81, 82, 83, 84, 85, 86, 87, 88, 89, 90, 91, 92, 93, 94, 95, 96, 97, 98, 99, 100, 101, 102, 103, 104, 105, 106, 107, 108, 109, 110, 111, 112, 113, 114, 115, 116, 117, 118, 119, 120, 121, 122, 123, 124, 125, 126, 127, 128, 129, 130, 131, 132, 133, 134, 135, 136, 137, 138, 139, 140, 141, 142, 143, 144, 145, 146, 147, 148, 149, 150, 151, 152, 153] (by decide +kernel) (by decide +kernel)
set_option maxRecDepth 20000 in
theorem gX1_liveWeeks_X1_liveWeek : GoodIn wsX1_liveWeeks (wsV RX1 96 RX1 yX1_liveWeek wsX1_liveWeek) := goodIn_app (goodIn_of _ (by decide +kernel)) ggX1_liveWeeks_X1_liveWeek
theorem dX1_liveWeeks_0 : decode cX1_liveWeeks 0 = .ok (.iconst 0, 1) := by decide +kernel
theorem dX1_liveWeeks_1 : decode cX1_liveWeeks 1 = .ok (.istore_n 2, 1) := by decide +kernel
theorem dX1_liveWeeks_2 : decode cX1_liveWeeks 2 = .ok (.iload_n 2, 1) := by decide +kernel
theorem dX1_liveWeeks_3 : decode cX1_liveWeeks 3 = .ok (.iload_n 1, 1) := by decide +kernel
theorem dX1_liveWeeks_4 : decode cX1_liveWeeks 4 = .ok (.if_icmp .ge 13, 3) := by decide +kernel
theorem dX1_liveWeeks_7 : decode cX1_liveWeeks 7 = .ok (.aload_n 0, 1) := by decide +kernel
theorem dX1_liveWeeks_8 : decode cX1_liveWeeks 8 = .ok (.invokevirtual 96, 3) := by decide +kernel
theorem dX1_liveWeeks_11 : decode cX1_liveWeeks 11 = .ok (.iinc 2 1, 3) := by decide +kernel
theorem dX1_liveWeeks_14 : decode cX1_liveWeeks 14 = .ok (.goto (-12), 3) := by decide +kernel
theorem dX1_liveWeeks_17 : decode cX1_liveWeeks 17 = .ok (.return_, 1) := by decide +kernel
set_option maxRecDepth 20000 in
theorem ggX1_liveWeek_X1_lightFires : GoodIn wsX1_liveWeek wsX1_lightFires := goodIn_r _ [7, 8, 9, 10, 11, 12, 13, 14, 15, 16, 17, 18, 19, 20, 6, 21, 22, 23, 24, 25, 26, 27, 28, 29, 30, 126, 127, 128, 129, 130, 131, 132, 133, 134, 135, 136, 137, 138, 139, 140, 141, 142, 143, 144, 145, 146, 147, 148, 149] (by decide +kernel) (by decide +kernel)
set_option maxRecDepth 20000 in
theorem gX1_liveWeek_X1_lightFires : GoodIn wsX1_liveWeek (wsV RX1 103 RX1 yX1_lightFires wsX1_lightFires) := goodIn_app (goodIn_of _ (by decide +kernel)) ggX1_liveWeek_X1_lightFires
set_option maxRecDepth 20000 in
theorem ggX1_liveWeek_X1_combWool : GoodIn wsX1_liveWeek wsX1_combWool := goodIn_r _ [34, 22, 35, 11, 12, 13, 14, 36, 37, 38, 39, 40, 6, 41, 8, 23, 15, 16, 17, 42, 10, 24, 25, 26, 27, 28, 29, 30, 126, 127, 128, 129, 130, 131, 132, 133, 134, 135, 136, 137, 138, 139, 140, 141, 142, 143, 144, 145, 146, 147, 148, 149] (by decide +kernel) (by decide +kernel)
set_option maxRecDepth 20000 in
theorem gX1_liveWeek_X1_combWool : GoodIn wsX1_liveWeek (wsV RX1 106 RX1 yX1_combWool wsX1_combWool) := goodIn_app (goodIn_of _ (by decide +kernel)) ggX1_liveWeek_X1_combWool
set_option maxRecDepth 20000 in
theorem ggX1_liveWeek_X1_spreadFever : GoodIn wsX1_liveWeek wsX1_spreadFever := goodIn_r _ [46, 47, 2, 22, 23, 48, 49, 50, 51, 24, 25, 26, 27, 28, 29, 30, 52, 53, 54, 55, 56, 57, 58, 126, 127, 128, 129, 130, 131, 132, 133, 134, 135, 136, 137, 138, 139, 140, 141, 142, 143, 144, 145, 146, 147, 148, 149] (by decide +kernel) (by decide +kernel)
set_option maxRecDepth 20000 in
theorem gX1_liveWeek_X1_spreadFever : GoodIn wsX1_liveWeek (wsV RX1 109 RX1 yX1_spreadFever wsX1_spreadFever) := goodIn_app (goodIn_of _ (by decide +kernel)) ggX1_liveWeek_X1_spreadFever
set_option maxRecDepth 20000 in
theorem ggX1_liveWeek_X1_nurseSick : GoodIn wsX1_liveWeek wsX1_nurseSick := goodIn_r _ [62, 22, 63, 64, 65, 66, 6, 67, 68, 69, 70, 71, 37, 72, 73, 74, 75, 27, 76, 29, 56, 77, 78, 30, 57, 58, 79, 80, 81, 82, 83, 84, 1, 11, 12, 13, 14, 85, 86, 87, 88, 126, 127, 128, 129, 130, 131, 132, 133, 134, 135, 136, 137, 138, 139, 140, 141, 142, 143, 144, 145, 146, 147, 148, 149] (by decide +kernel) (by decide +kernel)
set_option maxRecDepth 20000 in
theorem gX1_liveWeek_X1_nurseSick : GoodIn wsX1_liveWeek (wsV RX1 112 RX1 yX1_nurseSick wsX1_nurseSick) := goodIn_app (goodIn_of _ (by decide +kernel)) ggX1_liveWeek_X1_nurseSick
set_option maxRecDepth 20000 in
theorem ggX1_liveWeek_X1_takeDues : GoodIn wsX1_liveWeek wsX1_takeDues := goodIn_r _ [92, 22, 63, 84, 93, 94, 95, 96, 27, 97, 98, 78, 99, 12, 13, 14, 126, 127, 128, 129, 130, 131, 132, 133, 134, 135, 136, 137, 138, 139, 140, 141, 142, 143, 144, 145, 146, 147, 148, 149] (by decide +kernel) (by decide +kernel)
set_option maxRecDepth 20000 in
theorem gX1_liveWeek_X1_takeDues : GoodIn wsX1_liveWeek (wsV RX1 115 RX1 yX1_takeDues wsX1_takeDues) := goodIn_app (goodIn_of _ (by decide +kernel)) ggX1_liveWeek_X1_takeDues
set_option maxRecDepth 20000 in
theorem ggX1_liveWeek_J9_floorMod_7cf53 : GoodIn wsX1_liveWeek wsJ9_floorMod_7cf53 := goodIn_r _ [51] (by decide +kernel) (by decide +kernel)
set_option maxRecDepth 20000 in
theorem gX1_liveWeek_J9_floorMod_7cf53 : GoodIn wsX1_liveWeek (va_wsS RX1 118 yJ9_floorMod_7cf53 wsJ9_floorMod_7cf53) := goodIn_app (goodIn_of _ (by decide +kernel)) ggX1_liveWeek_J9_floorMod_7cf53
set_option maxRecDepth 20000 in
theorem ggX1_liveWeek_X1_holdClubNight : GoodIn wsX1_liveWeek wsX1_holdClubNight := goodIn_r _ [103, 22, 63, 84, 104, 105, 106, 27, 107, 77, 98, 56, 99, 12, 13, 14, 108, 109, 110, 111, 126, 127, 128, 129, 130, 131, 132, 133, 134, 135, 136, 137, 138, 139, 140, 141, 142, 143, 144, 145, 146, 147, 148, 149] (by decide +kernel) (by decide +kernel)
set_option maxRecDepth 20000 in
theorem gX1_liveWeek_X1_holdClubNight : GoodIn wsX1_liveWeek (wsV RX1 124 RX1 yX1_holdClubNight wsX1_holdClubNight) := goodIn_app (goodIn_of _ (by decide +kernel)) ggX1_liveWeek_X1_holdClubNight
set_option maxRecDepth 20000 in
theorem ggX1_liveWeek_X1_holdFunerals : GoodIn wsX1_liveWeek wsX1_holdFunerals := goodIn_r _ [115, 22, 116, 117, 118, 119, 6, 120, 121, 84, 37, 80, 81, 82, 83, 1, 11, 12, 13, 14, 122, 123, 124, 27, 125, 29, 126, 127, 128, 129, 130, 131, 132, 133, 134, 135, 136, 137, 138, 139, 140, 141, 142, 143, 144, 145, 146, 147, 148, 149] (by decide +kernel) (by decide +kernel)
set_option maxRecDepth 20000 in
theorem gX1_liveWeek_X1_holdFunerals : GoodIn wsX1_liveWeek (wsV RX1 127 RX1 yX1_holdFunerals wsX1_holdFunerals) := goodIn_app (goodIn_of _ (by decide +kernel)) ggX1_liveWeek_X1_holdFunerals
theorem dX1_liveWeek_0 : decode cX1_liveWeek 0 = .ok (.aload_n 0, 1) := by decide +kernel
theorem dX1_liveWeek_1 : decode cX1_liveWeek 1 = .ok (.iconst 0, 1) := by decide +kernel
theorem dX1_liveWeek_2 : decode cX1_liveWeek 2 = .ok (.putfield 99, 3) := by decide +kernel
theorem dX1_liveWeek_5 : decode cX1_liveWeek 5 = .ok (.aload_n 0, 1) := by decide +kernel
theorem dX1_liveWeek_6 : decode cX1_liveWeek 6 = .ok (.invokevirtual 103, 3) := by decide +kernel
theorem dX1_liveWeek_9 : decode cX1_liveWeek 9 = .ok (.aload_n 0, 1) := by decide +kernel
theorem dX1_liveWeek_10 : decode cX1_liveWeek 10 = .ok (.invokevirtual 106, 3) := by decide +kernel
theorem dX1_liveWeek_13 : decode cX1_liveWeek 13 = .ok (.aload_n 0, 1) := by decide +kernel
theorem dX1_liveWeek_14 : decode cX1_liveWeek 14 = .ok (.invokevirtual 109, 3) := by decide +kernel
theorem dX1_liveWeek_17 : decode cX1_liveWeek 17 = .ok (.aload_n 0, 1) := by decide +kernel
theorem dX1_liveWeek_18 : decode cX1_liveWeek 18 = .ok (.invokevirtual 112, 3) := by decide +kernel
theorem dX1_liveWeek_21 : decode cX1_liveWeek 21 = .ok (.aload_n 0, 1) := by decide +kernel
theorem dX1_liveWeek_22 : decode cX1_liveWeek 22 = .ok (.invokevirtual 115, 3) := by decide +kernel
theorem dX1_liveWeek_25 : decode cX1_liveWeek 25 = .ok (.aload_n 0, 1) := by decide +kernel
theorem dX1_liveWeek_26 : decode cX1_liveWeek 26 = .ok (.getfield 41, 3) := by decide +kernel
theorem dX1_liveWeek_29 : decode cX1_liveWeek 29 = .ok (.iconst 4, 1) := by decide +kernel
theorem dX1_liveWeek_30 : decode cX1_liveWeek 30 = .ok (.invokestatic 118, 3) := by decide +kernel
theorem dX1_liveWeek_33 : decode cX1_liveWeek 33 = .ok (.iconst 3, 1) := by decide +kernel
theorem dX1_liveWeek_34 : decode cX1_liveWeek 34 = .ok (.if_icmp .ne 7, 3) := by decide +kernel
theorem dX1_liveWeek_37 : decode cX1_liveWeek 37 = .ok (.aload_n 0, 1) := by decide +kernel
theorem dX1_liveWeek_38 : decode cX1_liveWeek 38 = .ok (.invokevirtual 124, 3) := by decide +kernel
theorem dX1_liveWeek_41 : decode cX1_liveWeek 41 = .ok (.aload_n 0, 1) := by decide +kernel
theorem dX1_liveWeek_42 : decode cX1_liveWeek 42 = .ok (.invokevirtual 127, 3) := by decide +kernel
theorem dX1_liveWeek_45 : decode cX1_liveWeek 45 = .ok (.aload_n 0, 1) := by decide +kernel
theorem dX1_liveWeek_46 : decode cX1_liveWeek 46 = .ok (.dup, 1) := by decide +kernel
theorem dX1_liveWeek_47 : decode cX1_liveWeek 47 = .ok (.getfield 41, 3) := by decide +kernel
theorem dX1_liveWeek_50 : decode cX1_liveWeek 50 = .ok (.iconst 1, 1) := by decide +kernel
theorem dX1_liveWeek_51 : decode cX1_liveWeek 51 = .ok (.iadd, 1) := by decide +kernel
theorem dX1_liveWeek_52 : decode cX1_liveWeek 52 = .ok (.putfield 41, 3) := by decide +kernel
theorem dX1_liveWeek_55 : decode cX1_liveWeek 55 = .ok (.return_, 1) := by decide +kernel
set_option maxRecDepth 20000 in
theorem ggX1_lightFires_X1_countCombers : GoodIn wsX1_lightFires wsX1_countCombers := goodIn_r _ [15, 1, 16, 17, 18, 19, 20, 21, 22, 23, 24, 25, 26, 27, 28, 29, 30, 31, 32, 33, 34, 35, 36, 37, 38, 39, 40, 41, 42, 43, 44, 45, 46, 47, 48] (by decide +kernel) (by decide +kernel)
set_option maxRecDepth 20000 in
theorem gX1_lightFires_X1_countCombers : GoodIn wsX1_lightFires (wsV RX1 74 RX1 yX1_countCombers wsX1_countCombers) := goodIn_app (goodIn_of _ (by decide +kernel)) ggX1_lightFires_X1_countCombers
theorem dX1_lightFires_0 : decode cX1_lightFires 0 = .ok (.aload_n 0, 1) := by decide +kernel
theorem dX1_lightFires_1 : decode cX1_lightFires 1 = .ok (.invokevirtual 74, 3) := by decide +kernel
theorem dX1_lightFires_4 : decode cX1_lightFires 4 = .ok (.iconst 0, 1) := by decide +kernel
theorem dX1_lightFires_5 : decode cX1_lightFires 5 = .ok (.istore_n 1, 1) := by decide +kernel
theorem dX1_lightFires_6 : decode cX1_lightFires 6 = .ok (.iload_n 1, 1) := by decide +kernel
theorem dX1_lightFires_7 : decode cX1_lightFires 7 = .ok (.iconst 3, 1) := by decide +kernel
theorem dX1_lightFires_8 : decode cX1_lightFires 8 = .ok (.if_icmp .ge 75, 3) := by decide +kernel
theorem dX1_lightFires_11 : decode cX1_lightFires 11 = .ok (.aload_n 0, 1) := by decide +kernel
theorem dX1_lightFires_12 : decode cX1_lightFires 12 = .ok (.getfield 31, 3) := by decide +kernel
theorem dX1_lightFires_15 : decode cX1_lightFires 15 = .ok (.iload_n 1, 1) := by decide +kernel
theorem dX1_lightFires_16 : decode cX1_lightFires 16 = .ok (.iaload, 1) := by decide +kernel
theorem dX1_lightFires_17 : decode cX1_lightFires 17 = .ok (.ifCond .le 42, 3) := by decide +kernel
theorem dX1_lightFires_20 : decode cX1_lightFires 20 = .ok (.aload_n 0, 1) := by decide +kernel
theorem dX1_lightFires_21 : decode cX1_lightFires 21 = .ok (.getfield 15, 3) := by decide +kernel
theorem dX1_lightFires_24 : decode cX1_lightFires 24 = .ok (.ifCond .le 35, 3) := by decide +kernel
theorem dX1_lightFires_27 : decode cX1_lightFires 27 = .ok (.aload_n 0, 1) := by decide +kernel
theorem dX1_lightFires_28 : decode cX1_lightFires 28 = .ok (.dup, 1) := by decide +kernel
theorem dX1_lightFires_29 : decode cX1_lightFires 29 = .ok (.getfield 15, 3) := by decide +kernel
theorem dX1_lightFires_32 : decode cX1_lightFires 32 = .ok (.iconst 1, 1) := by decide +kernel
theorem dX1_lightFires_33 : decode cX1_lightFires 33 = .ok (.isub, 1) := by decide +kernel
theorem dX1_lightFires_34 : decode cX1_lightFires 34 = .ok (.putfield 15, 3) := by decide +kernel
theorem dX1_lightFires_37 : decode cX1_lightFires 37 = .ok (.aload_n 0, 1) := by decide +kernel
theorem dX1_lightFires_38 : decode cX1_lightFires 38 = .ok (.getfield 28, 3) := by decide +kernel
theorem dX1_lightFires_41 : decode cX1_lightFires 41 = .ok (.iload_n 1, 1) := by decide +kernel
theorem dX1_lightFires_42 : decode cX1_lightFires 42 = .ok (.bipush 9, 2) := by decide +kernel
theorem dX1_lightFires_44 : decode cX1_lightFires 44 = .ok (.aload_n 0, 1) := by decide +kernel
theorem dX1_lightFires_45 : decode cX1_lightFires 45 = .ok (.getfield 28, 3) := by decide +kernel
theorem dX1_lightFires_48 : decode cX1_lightFires 48 = .ok (.iload_n 1, 1) := by decide +kernel
theorem dX1_lightFires_49 : decode cX1_lightFires 49 = .ok (.iaload, 1) := by decide +kernel
theorem dX1_lightFires_50 : decode cX1_lightFires 50 = .ok (.iconst 3, 1) := by decide +kernel
theorem dX1_lightFires_51 : decode cX1_lightFires 51 = .ok (.iadd, 1) := by decide +kernel
theorem dX1_lightFires_52 : decode cX1_lightFires 52 = .ok (.invokestatic 130, 3) := by decide +kernel
theorem dX1_lightFires_55 : decode cX1_lightFires 55 = .ok (.iastore, 1) := by decide +kernel
theorem dX1_lightFires_56 : decode cX1_lightFires 56 = .ok (.goto 21, 3) := by decide +kernel
theorem dX1_lightFires_59 : decode cX1_lightFires 59 = .ok (.aload_n 0, 1) := by decide +kernel
theorem dX1_lightFires_60 : decode cX1_lightFires 60 = .ok (.getfield 28, 3) := by decide +kernel
theorem dX1_lightFires_63 : decode cX1_lightFires 63 = .ok (.iload_n 1, 1) := by decide +kernel
theorem dX1_lightFires_64 : decode cX1_lightFires 64 = .ok (.iconst 0, 1) := by decide +kernel
theorem dX1_lightFires_65 : decode cX1_lightFires 65 = .ok (.aload_n 0, 1) := by decide +kernel
theorem dX1_lightFires_66 : decode cX1_lightFires 66 = .ok (.getfield 28, 3) := by decide +kernel
theorem dX1_lightFires_69 : decode cX1_lightFires 69 = .ok (.iload_n 1, 1) := by decide +kernel
theorem dX1_lightFires_70 : decode cX1_lightFires 70 = .ok (.iaload, 1) := by decide +kernel
theorem dX1_lightFires_71 : decode cX1_lightFires 71 = .ok (.iconst 2, 1) := by decide +kernel
theorem dX1_lightFires_72 : decode cX1_lightFires 72 = .ok (.isub, 1) := by decide +kernel
theorem dX1_lightFires_73 : decode cX1_lightFires 73 = .ok (.invokestatic 133, 3) := by decide +kernel
theorem dX1_lightFires_76 : decode cX1_lightFires 76 = .ok (.iastore, 1) := by decide +kernel
theorem dX1_lightFires_77 : decode cX1_lightFires 77 = .ok (.iinc 1 1, 3) := by decide +kernel
theorem dX1_lightFires_80 : decode cX1_lightFires 80 = .ok (.goto (-74), 3) := by decide +kernel
theorem dX1_lightFires_83 : decode cX1_lightFires 83 = .ok (.return_, 1) := by decide +kernel
set_option maxRecDepth 20000 in
theorem ggX1_poundsOf_X0_combs : GoodIn wsX1_poundsOf wsX0_combs := goodIn_r _ [13, 14, 15, 30, 31, 32, 33, 34, 35, 36, 37, 38, 39] (by decide +kernel) (by decide +kernel)
set_option maxRecDepth 20000 in
theorem gX1_poundsOf_X0_combs : GoodIn wsX1_poundsOf (wsV RX1 77 RX0 yX0_combs wsX0_combs) := goodIn_app (goodIn_of _ (by decide +kernel)) ggX1_poundsOf_X0_combs
theorem dX1_poundsOf_0 : decode cX1_poundsOf 0 = .ok (.aload_n 1, 1) := by decide +kernel
theorem dX1_poundsOf_1 : decode cX1_poundsOf 1 = .ok (.invokevirtual 77, 3) := by decide +kernel
theorem dX1_poundsOf_4 : decode cX1_poundsOf 4 = .ok (.ifCond .ne 5, 3) := by decide +kernel
theorem dX1_poundsOf_7 : decode cX1_poundsOf 7 = .ok (.iconst 0, 1) := by decide +kernel
theorem dX1_poundsOf_8 : decode cX1_poundsOf 8 = .ok (.ireturn, 1) := by decide +kernel
theorem dX1_poundsOf_9 : decode cX1_poundsOf 9 = .ok (.iconst 0, 1) := by decide +kernel
theorem dX1_poundsOf_10 : decode cX1_poundsOf 10 = .ok (.aload_n 0, 1) := by decide +kernel
theorem dX1_poundsOf_11 : decode cX1_poundsOf 11 = .ok (.getfield 31, 3) := by decide +kernel
theorem dX1_poundsOf_14 : decode cX1_poundsOf 14 = .ok (.aload_n 1, 1) := by decide +kernel
theorem dX1_poundsOf_15 : decode cX1_poundsOf 15 = .ok (.getfield 63, 3) := by decide +kernel
theorem dX1_poundsOf_18 : decode cX1_poundsOf 18 = .ok (.iaload, 1) := by decide +kernel
theorem dX1_poundsOf_19 : decode cX1_poundsOf 19 = .ok (.iconst 2, 1) := by decide +kernel
theorem dX1_poundsOf_20 : decode cX1_poundsOf 20 = .ok (.isub, 1) := by decide +kernel
theorem dX1_poundsOf_21 : decode cX1_poundsOf 21 = .ok (.invokestatic 133, 3) := by decide +kernel
theorem dX1_poundsOf_24 : decode cX1_poundsOf 24 = .ok (.istore_n 2, 1) := by decide +kernel
theorem dX1_poundsOf_25 : decode cX1_poundsOf 25 = .ok (.iconst 0, 1) := by decide +kernel
theorem dX1_poundsOf_26 : decode cX1_poundsOf 26 = .ok (.aload_n 1, 1) := by decide +kernel
theorem dX1_poundsOf_27 : decode cX1_poundsOf 27 = .ok (.getfield 136, 3) := by decide +kernel
theorem dX1_poundsOf_30 : decode cX1_poundsOf 30 = .ok (.aload_n 0, 1) := by decide +kernel
theorem dX1_poundsOf_31 : decode cX1_poundsOf 31 = .ok (.getfield 28, 3) := by decide +kernel
theorem dX1_poundsOf_34 : decode cX1_poundsOf 34 = .ok (.aload_n 1, 1) := by decide +kernel
theorem dX1_poundsOf_35 : decode cX1_poundsOf 35 = .ok (.getfield 63, 3) := by decide +kernel
theorem dX1_poundsOf_38 : decode cX1_poundsOf 38 = .ok (.iaload, 1) := by decide +kernel
theorem dX1_poundsOf_39 : decode cX1_poundsOf 39 = .ok (.iadd, 1) := by decide +kernel
theorem dX1_poundsOf_40 : decode cX1_poundsOf 40 = .ok (.iconst 2, 1) := by decide +kernel
theorem dX1_poundsOf_41 : decode cX1_poundsOf 41 = .ok (.iload_n 2, 1) := by decide +kernel
theorem dX1_poundsOf_42 : decode cX1_poundsOf 42 = .ok (.imul, 1) := by decide +kernel
theorem dX1_poundsOf_43 : decode cX1_poundsOf 43 = .ok (.isub, 1) := by decide +kernel
theorem dX1_poundsOf_44 : decode cX1_poundsOf 44 = .ok (.invokestatic 133, 3) := by decide +kernel
theorem dX1_poundsOf_47 : decode cX1_poundsOf 47 = .ok (.ireturn, 1) := by decide +kernel
set_option maxRecDepth 20000 in
theorem ggX1_poundsOfPot_X1_poundsOf : GoodIn wsX1_poundsOfPot wsX1_poundsOf := goodIn_r _ [7, 8, 2, 9, 10, 11, 12, 13, 14, 15, 16, 17, 18, 19, 20, 21, 22, 23, 24, 25, 26, 27, 28, 29, 30, 31, 32, 33, 34, 35, 36, 37, 38, 39, 40, 41, 42, 43, 44, 45] (by decide +kernel) (by decide +kernel)
set_option maxRecDepth 20000 in
theorem gX1_poundsOfPot_X1_poundsOf : GoodIn wsX1_poundsOfPot (wsV RX1 139 RX1 yX1_poundsOf wsX1_poundsOf) := goodIn_app (goodIn_of _ (by decide +kernel)) ggX1_poundsOfPot_X1_poundsOf
theorem dX1_poundsOfPot_0 : decode cX1_poundsOfPot 0 = .ok (.iconst 0, 1) := by decide +kernel
theorem dX1_poundsOfPot_1 : decode cX1_poundsOfPot 1 = .ok (.istore_n 2, 1) := by decide +kernel
theorem dX1_poundsOfPot_2 : decode cX1_poundsOfPot 2 = .ok (.aload_n 0, 1) := by decide +kernel
theorem dX1_poundsOfPot_3 : decode cX1_poundsOfPot 3 = .ok (.getfield 36, 3) := by decide +kernel
theorem dX1_poundsOfPot_6 : decode cX1_poundsOfPot 6 = .ok (.astore_n 3, 1) := by decide +kernel
theorem dX1_poundsOfPot_7 : decode cX1_poundsOfPot 7 = .ok (.aload_n 3, 1) := by decide +kernel
theorem dX1_poundsOfPot_8 : decode cX1_poundsOfPot 8 = .ok (.arraylength, 1) := by decide +kernel
theorem dX1_poundsOfPot_9 : decode cX1_poundsOfPot 9 = .ok (.istore 4, 2) := by decide +kernel
theorem dX1_poundsOfPot_11 : decode cX1_poundsOfPot 11 = .ok (.iconst 0, 1) := by decide +kernel
theorem dX1_poundsOfPot_12 : decode cX1_poundsOfPot 12 = .ok (.istore 5, 2) := by decide +kernel
theorem dX1_poundsOfPot_14 : decode cX1_poundsOfPot 14 = .ok (.iload 5, 2) := by decide +kernel
theorem dX1_poundsOfPot_16 : decode cX1_poundsOfPot 16 = .ok (.iload 4, 2) := by decide +kernel
theorem dX1_poundsOfPot_18 : decode cX1_poundsOfPot 18 = .ok (.if_icmp .ge 33, 3) := by decide +kernel
theorem dX1_poundsOfPot_21 : decode cX1_poundsOfPot 21 = .ok (.aload_n 3, 1) := by decide +kernel
theorem dX1_poundsOfPot_22 : decode cX1_poundsOfPot 22 = .ok (.iload 5, 2) := by decide +kernel
theorem dX1_poundsOfPot_24 : decode cX1_poundsOfPot 24 = .ok (.aaload, 1) := by decide +kernel
theorem dX1_poundsOfPot_25 : decode cX1_poundsOfPot 25 = .ok (.astore 6, 2) := by decide +kernel
theorem dX1_poundsOfPot_27 : decode cX1_poundsOfPot 27 = .ok (.aload 6, 2) := by decide +kernel
theorem dX1_poundsOfPot_29 : decode cX1_poundsOfPot 29 = .ok (.getfield 63, 3) := by decide +kernel
theorem dX1_poundsOfPot_32 : decode cX1_poundsOfPot 32 = .ok (.iload_n 1, 1) := by decide +kernel
theorem dX1_poundsOfPot_33 : decode cX1_poundsOfPot 33 = .ok (.if_icmp .ne 12, 3) := by decide +kernel
theorem dX1_poundsOfPot_36 : decode cX1_poundsOfPot 36 = .ok (.iload_n 2, 1) := by decide +kernel
theorem dX1_poundsOfPot_37 : decode cX1_poundsOfPot 37 = .ok (.aload_n 0, 1) := by decide +kernel
theorem dX1_poundsOfPot_38 : decode cX1_poundsOfPot 38 = .ok (.aload 6, 2) := by decide +kernel
theorem dX1_poundsOfPot_40 : decode cX1_poundsOfPot 40 = .ok (.invokevirtual 139, 3) := by decide +kernel
theorem dX1_poundsOfPot_43 : decode cX1_poundsOfPot 43 = .ok (.iadd, 1) := by decide +kernel
theorem dX1_poundsOfPot_44 : decode cX1_poundsOfPot 44 = .ok (.istore_n 2, 1) := by decide +kernel
theorem dX1_poundsOfPot_45 : decode cX1_poundsOfPot 45 = .ok (.iinc 5 1, 3) := by decide +kernel
theorem dX1_poundsOfPot_48 : decode cX1_poundsOfPot 48 = .ok (.goto (-34), 3) := by decide +kernel
theorem dX1_poundsOfPot_51 : decode cX1_poundsOfPot 51 = .ok (.iload_n 2, 1) := by decide +kernel
theorem dX1_poundsOfPot_52 : decode cX1_poundsOfPot 52 = .ok (.ireturn, 1) := by decide +kernel
set_option maxRecDepth 20000 in
theorem ggX1_combWool_X1_poundsOf : GoodIn wsX1_combWool wsX1_poundsOf := goodIn_r _ [13, 14, 15, 16, 17, 5, 18, 19, 20, 21, 22, 23, 24, 25, 26, 27, 28, 29, 30, 31, 32, 33, 34, 35, 36, 37, 38, 39, 40, 41, 42, 43, 44, 45, 46, 47, 48, 49, 50, 51] (by decide +kernel) (by decide +kernel)
set_option maxRecDepth 20000 in
theorem gX1_combWool_X1_poundsOf : GoodIn wsX1_combWool (wsV RX1 139 RX1 yX1_poundsOf wsX1_poundsOf) := goodIn_app (goodIn_of _ (by decide +kernel)) ggX1_combWool_X1_poundsOf
theorem dX1_combWool_0 : decode cX1_combWool 0 = .ok (.aload_n 0, 1) := by decide +kernel
theorem dX1_combWool_1 : decode cX1_combWool 1 = .ok (.getfield 36, 3) := by decide +kernel
theorem dX1_combWool_4 : decode cX1_combWool 4 = .ok (.astore_n 1, 1) := by decide +kernel
theorem dX1_combWool_5 : decode cX1_combWool 5 = .ok (.aload_n 1, 1) := by decide +kernel
theorem dX1_combWool_6 : decode cX1_combWool 6 = .ok (.arraylength, 1) := by decide +kernel
theorem dX1_combWool_7 : decode cX1_combWool 7 = .ok (.istore_n 2, 1) := by decide +kernel
theorem dX1_combWool_8 : decode cX1_combWool 8 = .ok (.iconst 0, 1) := by decide +kernel
theorem dX1_combWool_9 : decode cX1_combWool 9 = .ok (.istore_n 3, 1) := by decide +kernel
theorem dX1_combWool_10 : decode cX1_combWool 10 = .ok (.iload_n 3, 1) := by decide +kernel
theorem dX1_combWool_11 : decode cX1_combWool 11 = .ok (.iload_n 2, 1) := by decide +kernel
theorem dX1_combWool_12 : decode cX1_combWool 12 = .ok (.if_icmp .ge 65, 3) := by decide +kernel
theorem dX1_combWool_15 : decode cX1_combWool 15 = .ok (.aload_n 1, 1) := by decide +kernel
theorem dX1_combWool_16 : decode cX1_combWool 16 = .ok (.iload_n 3, 1) := by decide +kernel
theorem dX1_combWool_17 : decode cX1_combWool 17 = .ok (.aaload, 1) := by decide +kernel
theorem dX1_combWool_18 : decode cX1_combWool 18 = .ok (.astore 4, 2) := by decide +kernel
theorem dX1_combWool_20 : decode cX1_combWool 20 = .ok (.aload_n 0, 1) := by decide +kernel
theorem dX1_combWool_21 : decode cX1_combWool 21 = .ok (.aload 4, 2) := by decide +kernel
theorem dX1_combWool_23 : decode cX1_combWool 23 = .ok (.invokevirtual 139, 3) := by decide +kernel
theorem dX1_combWool_26 : decode cX1_combWool 26 = .ok (.aload_n 0, 1) := by decide +kernel
theorem dX1_combWool_27 : decode cX1_combWool 27 = .ok (.getfield 18, 3) := by decide +kernel
theorem dX1_combWool_30 : decode cX1_combWool 30 = .ok (.invokestatic 130, 3) := by decide +kernel
theorem dX1_combWool_33 : decode cX1_combWool 33 = .ok (.istore 5, 2) := by decide +kernel
theorem dX1_combWool_35 : decode cX1_combWool 35 = .ok (.aload_n 0, 1) := by decide +kernel
theorem dX1_combWool_36 : decode cX1_combWool 36 = .ok (.dup, 1) := by decide +kernel
theorem dX1_combWool_37 : decode cX1_combWool 37 = .ok (.getfield 18, 3) := by decide +kernel
theorem dX1_combWool_40 : decode cX1_combWool 40 = .ok (.iload 5, 2) := by decide +kernel
theorem dX1_combWool_42 : decode cX1_combWool 42 = .ok (.isub, 1) := by decide +kernel
theorem dX1_combWool_43 : decode cX1_combWool 43 = .ok (.putfield 18, 3) := by decide +kernel
theorem dX1_combWool_46 : decode cX1_combWool 46 = .ok (.aload_n 0, 1) := by decide +kernel
theorem dX1_combWool_47 : decode cX1_combWool 47 = .ok (.dup, 1) := by decide +kernel
theorem dX1_combWool_48 : decode cX1_combWool 48 = .ok (.getfield 47, 3) := by decide +kernel
theorem dX1_combWool_51 : decode cX1_combWool 51 = .ok (.iload 5, 2) := by decide +kernel
theorem dX1_combWool_53 : decode cX1_combWool 53 = .ok (.iadd, 1) := by decide +kernel
theorem dX1_combWool_54 : decode cX1_combWool 54 = .ok (.putfield 47, 3) := by decide +kernel
theorem dX1_combWool_57 : decode cX1_combWool 57 = .ok (.aload 4, 2) := by decide +kernel
theorem dX1_combWool_59 : decode cX1_combWool 59 = .ok (.dup, 1) := by decide +kernel
theorem dX1_combWool_60 : decode cX1_combWool 60 = .ok (.getfield 80, 3) := by decide +kernel
theorem dX1_combWool_63 : decode cX1_combWool 63 = .ok (.iload 5, 2) := by decide +kernel
theorem dX1_combWool_65 : decode cX1_combWool 65 = .ok (.iconst 2, 1) := by decide +kernel
theorem dX1_combWool_66 : decode cX1_combWool 66 = .ok (.idiv, 1) := by decide +kernel
theorem dX1_combWool_67 : decode cX1_combWool 67 = .ok (.iadd, 1) := by decide +kernel
theorem dX1_combWool_68 : decode cX1_combWool 68 = .ok (.putfield 80, 3) := by decide +kernel
theorem dX1_combWool_71 : decode cX1_combWool 71 = .ok (.iinc 3 1, 3) := by decide +kernel
theorem dX1_combWool_74 : decode cX1_combWool 74 = .ok (.goto (-64), 3) := by decide +kernel
theorem dX1_combWool_77 : decode cX1_combWool 77 = .ok (.return_, 1) := by decide +kernel
set_option maxRecDepth 20000 in
theorem ggX1_spreadFever_J9_floorMod_7cf53 : GoodIn wsX1_spreadFever wsJ9_floorMod_7cf53 := goodIn_r _ [8] (by decide +kernel) (by decide +kernel)
set_option maxRecDepth 20000 in
theorem gX1_spreadFever_J9_floorMod_7cf53 : GoodIn wsX1_spreadFever (va_wsS RX1 118 yJ9_floorMod_7cf53 wsJ9_floorMod_7cf53) := goodIn_app (goodIn_of _ (by decide +kernel)) ggX1_spreadFever_J9_floorMod_7cf53
set_option maxRecDepth 20000 in
theorem ggX1_spreadFever_X0_combs : GoodIn wsX1_spreadFever wsX0_combs := goodIn_r _ [13, 14, 15, 37, 38, 39, 40, 41, 42, 43, 44, 45, 46] (by decide +kernel) (by decide +kernel)
set_option maxRecDepth 20000 in
theorem gX1_spreadFever_X0_combs : GoodIn wsX1_spreadFever (wsV RX1 77 RX0 yX0_combs wsX0_combs) := goodIn_app (goodIn_of _ (by decide +kernel)) ggX1_spreadFever_X0_combs
set_option maxRecDepth 20000 in
theorem ggX1_spreadFever_X0_fallSick : GoodIn wsX1_spreadFever wsX0_fallSick := goodIn_r _ [19, 14, 20, 21, 22, 37, 38, 39, 40, 41, 42, 43, 44, 45, 46] (by decide +kernel) (by decide +kernel)
set_option maxRecDepth 20000 in
theorem gX1_spreadFever_X0_fallSick : GoodIn wsX1_spreadFever (wsV RX1 143 RX0 yX0_fallSick wsX0_fallSick) := goodIn_app (goodIn_of _ (by decide +kernel)) ggX1_spreadFever_X0_fallSick
theorem dX1_spreadFever_0 : decode cX1_spreadFever 0 = .ok (.aload_n 0, 1) := by decide +kernel
theorem dX1_spreadFever_1 : decode cX1_spreadFever 1 = .ok (.getfield 24, 3) := by decide +kernel
theorem dX1_spreadFever_4 : decode cX1_spreadFever 4 = .ok (.aload_n 0, 1) := by decide +kernel
theorem dX1_spreadFever_5 : decode cX1_spreadFever 5 = .ok (.getfield 41, 3) := by decide +kernel
theorem dX1_spreadFever_8 : decode cX1_spreadFever 8 = .ok (.bipush 8, 2) := by decide +kernel
theorem dX1_spreadFever_10 : decode cX1_spreadFever 10 = .ok (.invokestatic 118, 3) := by decide +kernel
theorem dX1_spreadFever_13 : decode cX1_spreadFever 13 = .ok (.iaload, 1) := by decide +kernel
theorem dX1_spreadFever_14 : decode cX1_spreadFever 14 = .ok (.istore_n 1, 1) := by decide +kernel
theorem dX1_spreadFever_15 : decode cX1_spreadFever 15 = .ok (.aload_n 0, 1) := by decide +kernel
theorem dX1_spreadFever_16 : decode cX1_spreadFever 16 = .ok (.getfield 36, 3) := by decide +kernel
theorem dX1_spreadFever_19 : decode cX1_spreadFever 19 = .ok (.astore_n 2, 1) := by decide +kernel
theorem dX1_spreadFever_20 : decode cX1_spreadFever 20 = .ok (.aload_n 2, 1) := by decide +kernel
theorem dX1_spreadFever_21 : decode cX1_spreadFever 21 = .ok (.arraylength, 1) := by decide +kernel
theorem dX1_spreadFever_22 : decode cX1_spreadFever 22 = .ok (.istore_n 3, 1) := by decide +kernel
theorem dX1_spreadFever_23 : decode cX1_spreadFever 23 = .ok (.iconst 0, 1) := by decide +kernel
theorem dX1_spreadFever_24 : decode cX1_spreadFever 24 = .ok (.istore 4, 2) := by decide +kernel
theorem dX1_spreadFever_26 : decode cX1_spreadFever 26 = .ok (.iload 4, 2) := by decide +kernel
theorem dX1_spreadFever_28 : decode cX1_spreadFever 28 = .ok (.iload_n 3, 1) := by decide +kernel
theorem dX1_spreadFever_29 : decode cX1_spreadFever 29 = .ok (.if_icmp .ge 37, 3) := by decide +kernel
theorem dX1_spreadFever_32 : decode cX1_spreadFever 32 = .ok (.aload_n 2, 1) := by decide +kernel
theorem dX1_spreadFever_33 : decode cX1_spreadFever 33 = .ok (.iload 4, 2) := by decide +kernel
theorem dX1_spreadFever_35 : decode cX1_spreadFever 35 = .ok (.aaload, 1) := by decide +kernel
theorem dX1_spreadFever_36 : decode cX1_spreadFever 36 = .ok (.astore 5, 2) := by decide +kernel
theorem dX1_spreadFever_38 : decode cX1_spreadFever 38 = .ok (.aload 5, 2) := by decide +kernel
theorem dX1_spreadFever_40 : decode cX1_spreadFever 40 = .ok (.invokevirtual 77, 3) := by decide +kernel
theorem dX1_spreadFever_43 : decode cX1_spreadFever 43 = .ok (.ifCond .eq 17, 3) := by decide +kernel
theorem dX1_spreadFever_46 : decode cX1_spreadFever 46 = .ok (.aload 5, 2) := by decide +kernel
theorem dX1_spreadFever_48 : decode cX1_spreadFever 48 = .ok (.getfield 63, 3) := by decide +kernel
theorem dX1_spreadFever_51 : decode cX1_spreadFever 51 = .ok (.iload_n 1, 1) := by decide +kernel
theorem dX1_spreadFever_52 : decode cX1_spreadFever 52 = .ok (.if_icmp .ne 8, 3) := by decide +kernel
theorem dX1_spreadFever_55 : decode cX1_spreadFever 55 = .ok (.aload 5, 2) := by decide +kernel
theorem dX1_spreadFever_57 : decode cX1_spreadFever 57 = .ok (.invokevirtual 143, 3) := by decide +kernel
theorem dX1_spreadFever_60 : decode cX1_spreadFever 60 = .ok (.iinc 4 1, 3) := by decide +kernel
theorem dX1_spreadFever_63 : decode cX1_spreadFever 63 = .ok (.goto (-37), 3) := by decide +kernel
theorem dX1_spreadFever_66 : decode cX1_spreadFever 66 = .ok (.return_, 1) := by decide +kernel
set_option maxRecDepth 20000 in
theorem ggX1_nurseSick_X1_nurse : GoodIn wsX1_nurseSick wsX1_nurse := goodIn_r _ [7, 8, 9, 10, 11, 12, 13, 14, 15, 16, 17, 18, 19, 20, 21, 22, 23, 24, 25, 26, 27, 28, 29, 6, 30, 31, 32, 33, 34, 35, 36, 37, 38, 39, 40, 55, 56, 57, 58, 59, 60, 61, 62, 63, 64, 41, 42, 43, 44, 45, 46, 47, 48, 49, 50, 51, 52, 53, 54] (by decide +kernel) (by decide +kernel)
set_option maxRecDepth 20000 in
theorem gX1_nurseSick_X1_nurse : GoodIn wsX1_nurseSick (wsV RX1 146 RX1 yX1_nurse wsX1_nurse) := goodIn_app (goodIn_of _ (by decide +kernel)) ggX1_nurseSick_X1_nurse
theorem dX1_nurseSick_0 : decode cX1_nurseSick 0 = .ok (.aload_n 0, 1) := by decide +kernel
theorem dX1_nurseSick_1 : decode cX1_nurseSick 1 = .ok (.getfield 36, 3) := by decide +kernel
theorem dX1_nurseSick_4 : decode cX1_nurseSick 4 = .ok (.astore_n 1, 1) := by decide +kernel
theorem dX1_nurseSick_5 : decode cX1_nurseSick 5 = .ok (.aload_n 1, 1) := by decide +kernel
theorem dX1_nurseSick_6 : decode cX1_nurseSick 6 = .ok (.arraylength, 1) := by decide +kernel
theorem dX1_nurseSick_7 : decode cX1_nurseSick 7 = .ok (.istore_n 2, 1) := by decide +kernel
theorem dX1_nurseSick_8 : decode cX1_nurseSick 8 = .ok (.iconst 0, 1) := by decide +kernel
theorem dX1_nurseSick_9 : decode cX1_nurseSick 9 = .ok (.istore_n 3, 1) := by decide +kernel
theorem dX1_nurseSick_10 : decode cX1_nurseSick 10 = .ok (.iload_n 3, 1) := by decide +kernel
theorem dX1_nurseSick_11 : decode cX1_nurseSick 11 = .ok (.iload_n 2, 1) := by decide +kernel
theorem dX1_nurseSick_12 : decode cX1_nurseSick 12 = .ok (.if_icmp .ge 29, 3) := by decide +kernel
theorem dX1_nurseSick_15 : decode cX1_nurseSick 15 = .ok (.aload_n 1, 1) := by decide +kernel
theorem dX1_nurseSick_16 : decode cX1_nurseSick 16 = .ok (.iload_n 3, 1) := by decide +kernel
theorem dX1_nurseSick_17 : decode cX1_nurseSick 17 = .ok (.aaload, 1) := by decide +kernel
theorem dX1_nurseSick_18 : decode cX1_nurseSick 18 = .ok (.astore 4, 2) := by decide +kernel
theorem dX1_nurseSick_20 : decode cX1_nurseSick 20 = .ok (.aload 4, 2) := by decide +kernel
theorem dX1_nurseSick_22 : decode cX1_nurseSick 22 = .ok (.getfield 60, 3) := by decide +kernel
theorem dX1_nurseSick_25 : decode cX1_nurseSick 25 = .ok (.iconst 1, 1) := by decide +kernel
theorem dX1_nurseSick_26 : decode cX1_nurseSick 26 = .ok (.if_icmp .ne 9, 3) := by decide +kernel
theorem dX1_nurseSick_29 : decode cX1_nurseSick 29 = .ok (.aload_n 0, 1) := by decide +kernel
theorem dX1_nurseSick_30 : decode cX1_nurseSick 30 = .ok (.aload 4, 2) := by decide +kernel
theorem dX1_nurseSick_32 : decode cX1_nurseSick 32 = .ok (.invokevirtual 146, 3) := by decide +kernel
theorem dX1_nurseSick_35 : decode cX1_nurseSick 35 = .ok (.iinc 3 1, 3) := by decide +kernel
theorem dX1_nurseSick_38 : decode cX1_nurseSick 38 = .ok (.goto (-28), 3) := by decide +kernel
theorem dX1_nurseSick_41 : decode cX1_nurseSick 41 = .ok (.return_, 1) := by decide +kernel
set_option maxRecDepth 20000 in
theorem ggX1_nurse_X0_die : GoodIn wsX1_nurse wsX0_die := goodIn_r _ [11, 12, 13, 14, 15, 16, 17, 18, 19, 35, 36, 37, 38, 39, 40, 41, 42, 43, 44] (by decide +kernel) (by decide +kernel)
set_option maxRecDepth 20000 in
theorem gX1_nurse_X0_die : GoodIn wsX1_nurse (wsV RX1 152 RX0 yX0_die wsX0_die) := goodIn_app (goodIn_of _ (by decide +kernel)) ggX1_nurse_X0_die
set_option maxRecDepth 20000 in
theorem ggX1_nurse_X1_payOut : GoodIn wsX1_nurse wsX1_payOut := goodIn_r _ [24, 25, 26, 27, 28, 29, 30, 45, 46, 47, 48, 49, 50, 51, 52, 53, 54, 55, 56, 57, 58] (by decide +kernel) (by decide +kernel)
set_option maxRecDepth 20000 in
theorem gX1_nurse_X1_payOut : GoodIn wsX1_nurse (wsV RX1 164 RX1 yX1_payOut wsX1_payOut) := goodIn_app (goodIn_of _ (by decide +kernel)) ggX1_nurse_X1_payOut
set_option maxRecDepth 20000 in
theorem ggX1_nurse_X0_getWell : GoodIn wsX1_nurse wsX0_getWell := goodIn_r _ [34, 12, 17, 18, 35, 36, 37, 38, 39, 40, 41, 42, 43, 44] (by decide +kernel) (by decide +kernel)
set_option maxRecDepth 20000 in
theorem gX1_nurse_X0_getWell : GoodIn wsX1_nurse (wsV RX1 167 RX0 yX0_getWell wsX0_getWell) := goodIn_app (goodIn_of _ (by decide +kernel)) ggX1_nurse_X0_getWell
theorem dX1_nurse_0 : decode cX1_nurse 0 = .ok (.aload_n 1, 1) := by decide +kernel
theorem dX1_nurse_1 : decode cX1_nurse 1 = .ok (.dup, 1) := by decide +kernel
theorem dX1_nurse_2 : decode cX1_nurse 2 = .ok (.getfield 149, 3) := by decide +kernel
theorem dX1_nurse_5 : decode cX1_nurse 5 = .ok (.iconst 1, 1) := by decide +kernel
theorem dX1_nurse_6 : decode cX1_nurse 6 = .ok (.isub, 1) := by decide +kernel
theorem dX1_nurse_7 : decode cX1_nurse 7 = .ok (.putfield 149, 3) := by decide +kernel
theorem dX1_nurse_10 : decode cX1_nurse 10 = .ok (.aload_n 1, 1) := by decide +kernel
theorem dX1_nurse_11 : decode cX1_nurse 11 = .ok (.getfield 149, 3) := by decide +kernel
theorem dX1_nurse_14 : decode cX1_nurse 14 = .ok (.ifCond .gt 8, 3) := by decide +kernel
theorem dX1_nurse_17 : decode cX1_nurse 17 = .ok (.aload_n 1, 1) := by decide +kernel
theorem dX1_nurse_18 : decode cX1_nurse 18 = .ok (.invokevirtual 152, 3) := by decide +kernel
theorem dX1_nurse_21 : decode cX1_nurse 21 = .ok (.return_, 1) := by decide +kernel
theorem dX1_nurse_22 : decode cX1_nurse 22 = .ok (.aload_n 1, 1) := by decide +kernel
theorem dX1_nurse_23 : decode cX1_nurse 23 = .ok (.dup, 1) := by decide +kernel
theorem dX1_nurse_24 : decode cX1_nurse 24 = .ok (.getfield 155, 3) := by decide +kernel
theorem dX1_nurse_27 : decode cX1_nurse 27 = .ok (.iconst 1, 1) := by decide +kernel
theorem dX1_nurse_28 : decode cX1_nurse 28 = .ok (.iadd, 1) := by decide +kernel
theorem dX1_nurse_29 : decode cX1_nurse 29 = .ok (.putfield 155, 3) := by decide +kernel
theorem dX1_nurse_32 : decode cX1_nurse 32 = .ok (.aload_n 1, 1) := by decide +kernel
theorem dX1_nurse_33 : decode cX1_nurse 33 = .ok (.dup, 1) := by decide +kernel
theorem dX1_nurse_34 : decode cX1_nurse 34 = .ok (.getfield 158, 3) := by decide +kernel
theorem dX1_nurse_37 : decode cX1_nurse 37 = .ok (.iconst 1, 1) := by decide +kernel
theorem dX1_nurse_38 : decode cX1_nurse 38 = .ok (.isub, 1) := by decide +kernel
theorem dX1_nurse_39 : decode cX1_nurse 39 = .ok (.putfield 158, 3) := by decide +kernel
theorem dX1_nurse_42 : decode cX1_nurse 42 = .ok (.aload_n 1, 1) := by decide +kernel
theorem dX1_nurse_43 : decode cX1_nurse 43 = .ok (.getfield 161, 3) := by decide +kernel
theorem dX1_nurse_46 : decode cX1_nurse 46 = .ok (.iconst 3, 1) := by decide +kernel
theorem dX1_nurse_47 : decode cX1_nurse 47 = .ok (.if_icmp .ge 41, 3) := by decide +kernel
theorem dX1_nurse_50 : decode cX1_nurse 50 = .ok (.aload_n 0, 1) := by decide +kernel
theorem dX1_nurse_51 : decode cX1_nurse 51 = .ok (.aload_n 1, 1) := by decide +kernel
theorem dX1_nurse_52 : decode cX1_nurse 52 = .ok (.getfield 155, 3) := by decide +kernel
theorem dX1_nurse_55 : decode cX1_nurse 55 = .ok (.iconst 3, 1) := by decide +kernel
theorem dX1_nurse_56 : decode cX1_nurse 56 = .ok (.if_icmp .gt 7, 3) := by decide +kernel
theorem dX1_nurse_59 : decode cX1_nurse 59 = .ok (.iconst 5, 1) := by decide +kernel
theorem dX1_nurse_60 : decode cX1_nurse 60 = .ok (.goto 4, 3) := by decide +kernel
theorem dX1_nurse_63 : decode cX1_nurse 63 = .ok (.iconst 2, 1) := by decide +kernel
theorem dX1_nurse_64 : decode cX1_nurse 64 = .ok (.invokevirtual 164, 3) := by decide +kernel
theorem dX1_nurse_67 : decode cX1_nurse 67 = .ok (.istore_n 2, 1) := by decide +kernel
theorem dX1_nurse_68 : decode cX1_nurse 68 = .ok (.aload_n 1, 1) := by decide +kernel
theorem dX1_nurse_69 : decode cX1_nurse 69 = .ok (.dup, 1) := by decide +kernel
theorem dX1_nurse_70 : decode cX1_nurse 70 = .ok (.getfield 80, 3) := by decide +kernel
theorem dX1_nurse_73 : decode cX1_nurse 73 = .ok (.iload_n 2, 1) := by decide +kernel
theorem dX1_nurse_74 : decode cX1_nurse 74 = .ok (.iadd, 1) := by decide +kernel
theorem dX1_nurse_75 : decode cX1_nurse 75 = .ok (.putfield 80, 3) := by decide +kernel
theorem dX1_nurse_78 : decode cX1_nurse 78 = .ok (.aload_n 0, 1) := by decide +kernel
theorem dX1_nurse_79 : decode cX1_nurse 79 = .ok (.dup, 1) := by decide +kernel
theorem dX1_nurse_80 : decode cX1_nurse 80 = .ok (.getfield 50, 3) := by decide +kernel
theorem dX1_nurse_83 : decode cX1_nurse 83 = .ok (.iload_n 2, 1) := by decide +kernel
theorem dX1_nurse_84 : decode cX1_nurse 84 = .ok (.iadd, 1) := by decide +kernel
theorem dX1_nurse_85 : decode cX1_nurse 85 = .ok (.putfield 50, 3) := by decide +kernel
theorem dX1_nurse_88 : decode cX1_nurse 88 = .ok (.aload_n 1, 1) := by decide +kernel
theorem dX1_nurse_89 : decode cX1_nurse 89 = .ok (.getfield 158, 3) := by decide +kernel
theorem dX1_nurse_92 : decode cX1_nurse 92 = .ok (.ifCond .gt 7, 3) := by decide +kernel
theorem dX1_nurse_95 : decode cX1_nurse 95 = .ok (.aload_n 1, 1) := by decide +kernel
theorem dX1_nurse_96 : decode cX1_nurse 96 = .ok (.invokevirtual 167, 3) := by decide +kernel
theorem dX1_nurse_99 : decode cX1_nurse 99 = .ok (.return_, 1) := by decide +kernel
theorem dX1_payOut_0 : decode cX1_payOut 0 = .ok (.aload_n 0, 1) := by decide +kernel
theorem dX1_payOut_1 : decode cX1_payOut 1 = .ok (.getfield 9, 3) := by decide +kernel
theorem dX1_payOut_4 : decode cX1_payOut 4 = .ok (.iload_n 1, 1) := by decide +kernel
theorem dX1_payOut_5 : decode cX1_payOut 5 = .ok (.if_icmp .ge 8, 3) := by decide +kernel
theorem dX1_payOut_8 : decode cX1_payOut 8 = .ok (.aload_n 0, 1) := by decide +kernel
theorem dX1_payOut_9 : decode cX1_payOut 9 = .ok (.iconst 1, 1) := by decide +kernel
theorem dX1_payOut_10 : decode cX1_payOut 10 = .ok (.putfield 99, 3) := by decide +kernel
theorem dX1_payOut_13 : decode cX1_payOut 13 = .ok (.iload_n 1, 1) := by decide +kernel
theorem dX1_payOut_14 : decode cX1_payOut 14 = .ok (.aload_n 0, 1) := by decide +kernel
theorem dX1_payOut_15 : decode cX1_payOut 15 = .ok (.getfield 9, 3) := by decide +kernel
theorem dX1_payOut_18 : decode cX1_payOut 18 = .ok (.invokestatic 130, 3) := by decide +kernel
theorem dX1_payOut_21 : decode cX1_payOut 21 = .ok (.istore_n 2, 1) := by decide +kernel
theorem dX1_payOut_22 : decode cX1_payOut 22 = .ok (.aload_n 0, 1) := by decide +kernel
theorem dX1_payOut_23 : decode cX1_payOut 23 = .ok (.dup, 1) := by decide +kernel
theorem dX1_payOut_24 : decode cX1_payOut 24 = .ok (.getfield 9, 3) := by decide +kernel
theorem dX1_payOut_27 : decode cX1_payOut 27 = .ok (.iload_n 2, 1) := by decide +kernel
theorem dX1_payOut_28 : decode cX1_payOut 28 = .ok (.isub, 1) := by decide +kernel
theorem dX1_payOut_29 : decode cX1_payOut 29 = .ok (.putfield 9, 3) := by decide +kernel
theorem dX1_payOut_32 : decode cX1_payOut 32 = .ok (.iload_n 2, 1) := by decide +kernel
theorem dX1_payOut_33 : decode cX1_payOut 33 = .ok (.ireturn, 1) := by decide +kernel
set_option maxRecDepth 20000 in
theorem ggX1_takeDues_X0_payDues : GoodIn wsX1_takeDues wsX0_payDues := goodIn_r _ [9, 10, 11, 12, 13, 14, 15, 30, 31, 32, 33, 34, 35, 36, 37, 38, 39] (by decide +kernel) (by decide +kernel)
set_option maxRecDepth 20000 in
theorem gX1_takeDues_X0_payDues : GoodIn wsX1_takeDues (wsV RX1 170 RX0 yX0_payDues wsX0_payDues) := goodIn_app (goodIn_of _ (by decide +kernel)) ggX1_takeDues_X0_payDues
theorem dX1_takeDues_0 : decode cX1_takeDues 0 = .ok (.aload_n 0, 1) := by decide +kernel
theorem dX1_takeDues_1 : decode cX1_takeDues 1 = .ok (.getfield 36, 3) := by decide +kernel
theorem dX1_takeDues_4 : decode cX1_takeDues 4 = .ok (.astore_n 1, 1) := by decide +kernel
theorem dX1_takeDues_5 : decode cX1_takeDues 5 = .ok (.aload_n 1, 1) := by decide +kernel
theorem dX1_takeDues_6 : decode cX1_takeDues 6 = .ok (.arraylength, 1) := by decide +kernel
theorem dX1_takeDues_7 : decode cX1_takeDues 7 = .ok (.istore_n 2, 1) := by decide +kernel
theorem dX1_takeDues_8 : decode cX1_takeDues 8 = .ok (.iconst 0, 1) := by decide +kernel
theorem dX1_takeDues_9 : decode cX1_takeDues 9 = .ok (.istore_n 3, 1) := by decide +kernel
theorem dX1_takeDues_10 : decode cX1_takeDues 10 = .ok (.iload_n 3, 1) := by decide +kernel
theorem dX1_takeDues_11 : decode cX1_takeDues 11 = .ok (.iload_n 2, 1) := by decide +kernel
theorem dX1_takeDues_12 : decode cX1_takeDues 12 = .ok (.if_icmp .ge 40, 3) := by decide +kernel
theorem dX1_takeDues_15 : decode cX1_takeDues 15 = .ok (.aload_n 1, 1) := by decide +kernel
theorem dX1_takeDues_16 : decode cX1_takeDues 16 = .ok (.iload_n 3, 1) := by decide +kernel
theorem dX1_takeDues_17 : decode cX1_takeDues 17 = .ok (.aaload, 1) := by decide +kernel
theorem dX1_takeDues_18 : decode cX1_takeDues 18 = .ok (.astore 4, 2) := by decide +kernel
theorem dX1_takeDues_20 : decode cX1_takeDues 20 = .ok (.aload 4, 2) := by decide +kernel
theorem dX1_takeDues_22 : decode cX1_takeDues 22 = .ok (.getfield 60, 3) := by decide +kernel
theorem dX1_takeDues_25 : decode cX1_takeDues 25 = .ok (.ifCond .ne 21, 3) := by decide +kernel
theorem dX1_takeDues_28 : decode cX1_takeDues 28 = .ok (.aload_n 0, 1) := by decide +kernel
theorem dX1_takeDues_29 : decode cX1_takeDues 29 = .ok (.dup, 1) := by decide +kernel
theorem dX1_takeDues_30 : decode cX1_takeDues 30 = .ok (.getfield 9, 3) := by decide +kernel
theorem dX1_takeDues_33 : decode cX1_takeDues 33 = .ok (.aload 4, 2) := by decide +kernel
theorem dX1_takeDues_35 : decode cX1_takeDues 35 = .ok (.aload_n 0, 1) := by decide +kernel
theorem dX1_takeDues_36 : decode cX1_takeDues 36 = .ok (.getfield 21, 3) := by decide +kernel
theorem dX1_takeDues_39 : decode cX1_takeDues 39 = .ok (.invokevirtual 170, 3) := by decide +kernel
theorem dX1_takeDues_42 : decode cX1_takeDues 42 = .ok (.iadd, 1) := by decide +kernel
theorem dX1_takeDues_43 : decode cX1_takeDues 43 = .ok (.putfield 9, 3) := by decide +kernel
theorem dX1_takeDues_46 : decode cX1_takeDues 46 = .ok (.iinc 3 1, 3) := by decide +kernel
theorem dX1_takeDues_49 : decode cX1_takeDues 49 = .ok (.goto (-39), 3) := by decide +kernel
theorem dX1_takeDues_52 : decode cX1_takeDues 52 = .ok (.return_, 1) := by decide +kernel
set_option maxRecDepth 20000 in
theorem ggX1_holdClubNight_X0_spendClubNight : GoodIn wsX1_holdClubNight wsX0_spendClubNight := goodIn_r _ [8, 9, 10, 11, 12, 13, 14, 15, 16, 17, 18, 7, 19, 34, 35, 36, 37, 38, 39, 40, 41, 42, 43] (by decide +kernel) (by decide +kernel)
set_option maxRecDepth 20000 in
theorem gX1_holdClubNight_X0_spendClubNight : GoodIn wsX1_holdClubNight (wsV RX1 173 RX0 yX0_spendClubNight wsX0_spendClubNight) := goodIn_app (goodIn_of _ (by decide +kernel)) ggX1_holdClubNight_X0_spendClubNight
theorem dX1_holdClubNight_0 : decode cX1_holdClubNight 0 = .ok (.aload_n 0, 1) := by decide +kernel
theorem dX1_holdClubNight_1 : decode cX1_holdClubNight 1 = .ok (.getfield 36, 3) := by decide +kernel
theorem dX1_holdClubNight_4 : decode cX1_holdClubNight 4 = .ok (.astore_n 1, 1) := by decide +kernel
theorem dX1_holdClubNight_5 : decode cX1_holdClubNight 5 = .ok (.aload_n 1, 1) := by decide +kernel
theorem dX1_holdClubNight_6 : decode cX1_holdClubNight 6 = .ok (.arraylength, 1) := by decide +kernel
theorem dX1_holdClubNight_7 : decode cX1_holdClubNight 7 = .ok (.istore_n 2, 1) := by decide +kernel
theorem dX1_holdClubNight_8 : decode cX1_holdClubNight 8 = .ok (.iconst 0, 1) := by decide +kernel
theorem dX1_holdClubNight_9 : decode cX1_holdClubNight 9 = .ok (.istore_n 3, 1) := by decide +kernel
theorem dX1_holdClubNight_10 : decode cX1_holdClubNight 10 = .ok (.iload_n 3, 1) := by decide +kernel
theorem dX1_holdClubNight_11 : decode cX1_holdClubNight 11 = .ok (.iload_n 2, 1) := by decide +kernel
theorem dX1_holdClubNight_12 : decode cX1_holdClubNight 12 = .ok (.if_icmp .ge 36, 3) := by decide +kernel
theorem dX1_holdClubNight_15 : decode cX1_holdClubNight 15 = .ok (.aload_n 1, 1) := by decide +kernel
theorem dX1_holdClubNight_16 : decode cX1_holdClubNight 16 = .ok (.iload_n 3, 1) := by decide +kernel
theorem dX1_holdClubNight_17 : decode cX1_holdClubNight 17 = .ok (.aaload, 1) := by decide +kernel
theorem dX1_holdClubNight_18 : decode cX1_holdClubNight 18 = .ok (.astore 4, 2) := by decide +kernel
theorem dX1_holdClubNight_20 : decode cX1_holdClubNight 20 = .ok (.aload 4, 2) := by decide +kernel
theorem dX1_holdClubNight_22 : decode cX1_holdClubNight 22 = .ok (.getfield 60, 3) := by decide +kernel
theorem dX1_holdClubNight_25 : decode cX1_holdClubNight 25 = .ok (.ifCond .ne 17, 3) := by decide +kernel
theorem dX1_holdClubNight_28 : decode cX1_holdClubNight 28 = .ok (.aload_n 0, 1) := by decide +kernel
theorem dX1_holdClubNight_29 : decode cX1_holdClubNight 29 = .ok (.dup, 1) := by decide +kernel
theorem dX1_holdClubNight_30 : decode cX1_holdClubNight 30 = .ok (.getfield 9, 3) := by decide +kernel
theorem dX1_holdClubNight_33 : decode cX1_holdClubNight 33 = .ok (.aload 4, 2) := by decide +kernel
theorem dX1_holdClubNight_35 : decode cX1_holdClubNight 35 = .ok (.invokevirtual 173, 3) := by decide +kernel
theorem dX1_holdClubNight_38 : decode cX1_holdClubNight 38 = .ok (.iadd, 1) := by decide +kernel
theorem dX1_holdClubNight_39 : decode cX1_holdClubNight 39 = .ok (.putfield 9, 3) := by decide +kernel
theorem dX1_holdClubNight_42 : decode cX1_holdClubNight 42 = .ok (.iinc 3 1, 3) := by decide +kernel
theorem dX1_holdClubNight_45 : decode cX1_holdClubNight 45 = .ok (.goto (-35), 3) := by decide +kernel
theorem dX1_holdClubNight_48 : decode cX1_holdClubNight 48 = .ok (.return_, 1) := by decide +kernel
set_option maxRecDepth 20000 in
theorem ggX1_holdFunerals_X1_bury : GoodIn wsX1_holdFunerals wsX1_bury := goodIn_r _ [7, 8, 9, 10, 2, 1, 11, 12, 13, 6, 14, 15, 16, 17, 18, 19, 20, 21, 22, 23, 24, 25, 26, 27, 28, 29, 30, 31, 32, 33, 34, 35, 36, 37, 38, 39, 40, 41, 42, 43, 44, 45, 46, 47, 48, 49] (by decide +kernel) (by decide +kernel)
set_option maxRecDepth 20000 in
theorem gX1_holdFunerals_X1_bury : GoodIn wsX1_holdFunerals (wsV RX1 179 RX1 yX1_bury wsX1_bury) := goodIn_app (goodIn_of _ (by decide +kernel)) ggX1_holdFunerals_X1_bury
theorem dX1_holdFunerals_0 : decode cX1_holdFunerals 0 = .ok (.aload_n 0, 1) := by decide +kernel
theorem dX1_holdFunerals_1 : decode cX1_holdFunerals 1 = .ok (.getfield 36, 3) := by decide +kernel
theorem dX1_holdFunerals_4 : decode cX1_holdFunerals 4 = .ok (.astore_n 1, 1) := by decide +kernel
theorem dX1_holdFunerals_5 : decode cX1_holdFunerals 5 = .ok (.aload_n 1, 1) := by decide +kernel
theorem dX1_holdFunerals_6 : decode cX1_holdFunerals 6 = .ok (.arraylength, 1) := by decide +kernel
theorem dX1_holdFunerals_7 : decode cX1_holdFunerals 7 = .ok (.istore_n 2, 1) := by decide +kernel
theorem dX1_holdFunerals_8 : decode cX1_holdFunerals 8 = .ok (.iconst 0, 1) := by decide +kernel
theorem dX1_holdFunerals_9 : decode cX1_holdFunerals 9 = .ok (.istore_n 3, 1) := by decide +kernel
theorem dX1_holdFunerals_10 : decode cX1_holdFunerals 10 = .ok (.iload_n 3, 1) := by decide +kernel
theorem dX1_holdFunerals_11 : decode cX1_holdFunerals 11 = .ok (.iload_n 2, 1) := by decide +kernel
theorem dX1_holdFunerals_12 : decode cX1_holdFunerals 12 = .ok (.if_icmp .ge 28, 3) := by decide +kernel
theorem dX1_holdFunerals_15 : decode cX1_holdFunerals 15 = .ok (.aload_n 1, 1) := by decide +kernel
theorem dX1_holdFunerals_16 : decode cX1_holdFunerals 16 = .ok (.iload_n 3, 1) := by decide +kernel
theorem dX1_holdFunerals_17 : decode cX1_holdFunerals 17 = .ok (.aaload, 1) := by decide +kernel
theorem dX1_holdFunerals_18 : decode cX1_holdFunerals 18 = .ok (.astore 4, 2) := by decide +kernel
theorem dX1_holdFunerals_20 : decode cX1_holdFunerals 20 = .ok (.aload 4, 2) := by decide +kernel
theorem dX1_holdFunerals_22 : decode cX1_holdFunerals 22 = .ok (.getfield 176, 3) := by decide +kernel
theorem dX1_holdFunerals_25 : decode cX1_holdFunerals 25 = .ok (.ifCond .eq 9, 3) := by decide +kernel
theorem dX1_holdFunerals_28 : decode cX1_holdFunerals 28 = .ok (.aload_n 0, 1) := by decide +kernel
theorem dX1_holdFunerals_29 : decode cX1_holdFunerals 29 = .ok (.aload 4, 2) := by decide +kernel
theorem dX1_holdFunerals_31 : decode cX1_holdFunerals 31 = .ok (.invokevirtual 179, 3) := by decide +kernel
theorem dX1_holdFunerals_34 : decode cX1_holdFunerals 34 = .ok (.iinc 3 1, 3) := by decide +kernel
theorem dX1_holdFunerals_37 : decode cX1_holdFunerals 37 = .ok (.goto (-27), 3) := by decide +kernel
theorem dX1_holdFunerals_40 : decode cX1_holdFunerals 40 = .ok (.return_, 1) := by decide +kernel
set_option maxRecDepth 20000 in
theorem ggX1_bury_X1_payOut : GoodIn wsX1_bury wsX1_payOut := goodIn_r _ [10, 2, 11, 12, 13, 14, 15, 22, 23, 24, 25, 26, 27, 28, 29, 30, 31, 32, 33, 34, 35] (by decide +kernel) (by decide +kernel)
set_option maxRecDepth 20000 in
theorem gX1_bury_X1_payOut : GoodIn wsX1_bury (wsV RX1 164 RX1 yX1_payOut wsX1_payOut) := goodIn_app (goodIn_of _ (by decide +kernel)) ggX1_bury_X1_payOut
set_option maxRecDepth 20000 in
theorem ggX1_bury_X0_lives : GoodIn wsX1_bury wsX0_lives := goodIn_r _ [20, 21, 36, 37, 38, 39, 40, 41, 42, 43, 44, 45] (by decide +kernel) (by decide +kernel)
set_option maxRecDepth 20000 in
theorem gX1_bury_X0_lives : GoodIn wsX1_bury (wsV RX1 70 RX0 yX0_lives wsX0_lives) := goodIn_app (goodIn_of _ (by decide +kernel)) ggX1_bury_X0_lives
theorem dX1_bury_0 : decode cX1_bury 0 = .ok (.aload_n 0, 1) := by decide +kernel
theorem dX1_bury_1 : decode cX1_bury 1 = .ok (.dup, 1) := by decide +kernel
theorem dX1_bury_2 : decode cX1_bury 2 = .ok (.getfield 53, 3) := by decide +kernel
theorem dX1_bury_5 : decode cX1_bury 5 = .ok (.aload_n 0, 1) := by decide +kernel
theorem dX1_bury_6 : decode cX1_bury 6 = .ok (.bipush 12, 2) := by decide +kernel
theorem dX1_bury_8 : decode cX1_bury 8 = .ok (.invokevirtual 164, 3) := by decide +kernel
theorem dX1_bury_11 : decode cX1_bury 11 = .ok (.iadd, 1) := by decide +kernel
theorem dX1_bury_12 : decode cX1_bury 12 = .ok (.putfield 53, 3) := by decide +kernel
theorem dX1_bury_15 : decode cX1_bury 15 = .ok (.aload_n 0, 1) := by decide +kernel
theorem dX1_bury_16 : decode cX1_bury 16 = .ok (.dup, 1) := by decide +kernel
theorem dX1_bury_17 : decode cX1_bury 17 = .ok (.getfield 9, 3) := by decide +kernel
theorem dX1_bury_20 : decode cX1_bury 20 = .ok (.aload_n 1, 1) := by decide +kernel
theorem dX1_bury_21 : decode cX1_bury 21 = .ok (.getfield 80, 3) := by decide +kernel
theorem dX1_bury_24 : decode cX1_bury 24 = .ok (.iadd, 1) := by decide +kernel
theorem dX1_bury_25 : decode cX1_bury 25 = .ok (.putfield 9, 3) := by decide +kernel
theorem dX1_bury_28 : decode cX1_bury 28 = .ok (.aload_n 1, 1) := by decide +kernel
theorem dX1_bury_29 : decode cX1_bury 29 = .ok (.iconst 0, 1) := by decide +kernel
theorem dX1_bury_30 : decode cX1_bury 30 = .ok (.putfield 80, 3) := by decide +kernel
theorem dX1_bury_33 : decode cX1_bury 33 = .ok (.aload_n 1, 1) := by decide +kernel
theorem dX1_bury_34 : decode cX1_bury 34 = .ok (.iconst 0, 1) := by decide +kernel
theorem dX1_bury_35 : decode cX1_bury 35 = .ok (.putfield 176, 3) := by decide +kernel
theorem dX1_bury_38 : decode cX1_bury 38 = .ok (.aload_n 0, 1) := by decide +kernel
theorem dX1_bury_39 : decode cX1_bury 39 = .ok (.getfield 36, 3) := by decide +kernel
theorem dX1_bury_42 : decode cX1_bury 42 = .ok (.astore_n 2, 1) := by decide +kernel
theorem dX1_bury_43 : decode cX1_bury 43 = .ok (.aload_n 2, 1) := by decide +kernel
theorem dX1_bury_44 : decode cX1_bury 44 = .ok (.arraylength, 1) := by decide +kernel
theorem dX1_bury_45 : decode cX1_bury 45 = .ok (.istore_n 3, 1) := by decide +kernel
theorem dX1_bury_46 : decode cX1_bury 46 = .ok (.iconst 0, 1) := by decide +kernel
theorem dX1_bury_47 : decode cX1_bury 47 = .ok (.istore 4, 2) := by decide +kernel
theorem dX1_bury_49 : decode cX1_bury 49 = .ok (.iload 4, 2) := by decide +kernel
theorem dX1_bury_51 : decode cX1_bury 51 = .ok (.iload_n 3, 1) := by decide +kernel
theorem dX1_bury_52 : decode cX1_bury 52 = .ok (.if_icmp .ge 52, 3) := by decide +kernel
theorem dX1_bury_55 : decode cX1_bury 55 = .ok (.aload_n 2, 1) := by decide +kernel
theorem dX1_bury_56 : decode cX1_bury 56 = .ok (.iload 4, 2) := by decide +kernel
theorem dX1_bury_58 : decode cX1_bury 58 = .ok (.aaload, 1) := by decide +kernel
theorem dX1_bury_59 : decode cX1_bury 59 = .ok (.astore 5, 2) := by decide +kernel
theorem dX1_bury_61 : decode cX1_bury 61 = .ok (.aload 5, 2) := by decide +kernel
theorem dX1_bury_63 : decode cX1_bury 63 = .ok (.invokevirtual 70, 3) := by decide +kernel
theorem dX1_bury_66 : decode cX1_bury 66 = .ok (.ifCond .eq 32, 3) := by decide +kernel
theorem dX1_bury_69 : decode cX1_bury 69 = .ok (.aload 5, 2) := by decide +kernel
theorem dX1_bury_71 : decode cX1_bury 71 = .ok (.getfield 80, 3) := by decide +kernel
theorem dX1_bury_74 : decode cX1_bury 74 = .ok (.ifCond .le 24, 3) := by decide +kernel
theorem dX1_bury_77 : decode cX1_bury 77 = .ok (.aload 5, 2) := by decide +kernel
theorem dX1_bury_79 : decode cX1_bury 79 = .ok (.dup, 1) := by decide +kernel
theorem dX1_bury_80 : decode cX1_bury 80 = .ok (.getfield 80, 3) := by decide +kernel
theorem dX1_bury_83 : decode cX1_bury 83 = .ok (.iconst 1, 1) := by decide +kernel
theorem dX1_bury_84 : decode cX1_bury 84 = .ok (.isub, 1) := by decide +kernel
theorem dX1_bury_85 : decode cX1_bury 85 = .ok (.putfield 80, 3) := by decide +kernel
theorem dX1_bury_88 : decode cX1_bury 88 = .ok (.aload_n 0, 1) := by decide +kernel
theorem dX1_bury_89 : decode cX1_bury 89 = .ok (.dup, 1) := by decide +kernel
theorem dX1_bury_90 : decode cX1_bury 90 = .ok (.getfield 9, 3) := by decide +kernel
theorem dX1_bury_93 : decode cX1_bury 93 = .ok (.iconst 1, 1) := by decide +kernel
theorem dX1_bury_94 : decode cX1_bury 94 = .ok (.iadd, 1) := by decide +kernel
theorem dX1_bury_95 : decode cX1_bury 95 = .ok (.putfield 9, 3) := by decide +kernel
theorem dX1_bury_98 : decode cX1_bury 98 = .ok (.iinc 4 1, 3) := by decide +kernel
theorem dX1_bury_101 : decode cX1_bury 101 = .ok (.goto (-52), 3) := by decide +kernel
theorem dX1_bury_104 : decode cX1_bury 104 = .ok (.return_, 1) := by decide +kernel
set_option maxRecDepth 20000 in
theorem ggX2_init_X1_init : GoodIn wsX2_init wsX1_init := goodIn_r _ [11, 12, 2, 3, 13, 14, 15, 16, 17, 18, 19, 20, 21, 22, 23, 24, 25, 26, 27, 28, 29, 30, 31, 32, 33, 34, 35, 36, 37, 38, 39, 40, 41, 42, 43, 44, 47, 48, 49, 50, 51, 52, 53, 54, 55, 56] (by decide +kernel) (by decide +kernel)
set_option maxRecDepth 20000 in
theorem gX2_init_X1_init : GoodIn wsX2_init (wsX1_init) := ggX2_init_X1_init
theorem dX2_init_0 : decode cX2_init 0 = .ok (.aload_n 0, 1) := by decide +kernel
theorem dX2_init_1 : decode cX2_init 1 = .ok (.invokespecial 1, 3) := by decide +kernel
theorem dX2_init_4 : decode cX2_init 4 = .ok (.aload_n 0, 1) := by decide +kernel
theorem dX2_init_5 : decode cX2_init 5 = .ok (.new 7, 3) := by decide +kernel
theorem dX2_init_8 : decode cX2_init 8 = .ok (.dup, 1) := by decide +kernel
theorem dX2_init_9 : decode cX2_init 9 = .ok (.invokespecial 9, 3) := by decide +kernel
theorem dX2_init_12 : decode cX2_init 12 = .ok (.putfield 10, 3) := by decide +kernel
theorem dX2_init_15 : decode cX2_init 15 = .ok (.aload_n 0, 1) := by decide +kernel
theorem dX2_init_16 : decode cX2_init 16 = .ok (.new 7, 3) := by decide +kernel
theorem dX2_init_19 : decode cX2_init 19 = .ok (.dup, 1) := by decide +kernel
theorem dX2_init_20 : decode cX2_init 20 = .ok (.invokespecial 9, 3) := by decide +kernel
theorem dX2_init_23 : decode cX2_init 23 = .ok (.putfield 16, 3) := by decide +kernel
theorem dX2_init_26 : decode cX2_init 26 = .ok (.return_, 1) := by decide +kernel
set_option maxRecDepth 20000 in
theorem ggX2_join_X2_isOutside : GoodIn wsX2_join wsX2_isOutside := goodIn_r _ [11] (by decide +kernel) (by decide +kernel)
set_option maxRecDepth 20000 in
theorem gX2_join_X2_isOutside : GoodIn wsX2_join (va_wsS RX2 19 yX2_isOutside wsX2_isOutside) := goodIn_app (goodIn_of _ (by decide +kernel)) ggX2_join_X2_isOutside
set_option maxRecDepth 20000 in
theorem ggX2_join_X0_enter : GoodIn wsX2_join wsX0_enter := goodIn_r _ [16, 17, 18, 19, 20, 37, 38, 39, 40, 41, 42, 43, 44, 45, 46] (by decide +kernel) (by decide +kernel)
set_option maxRecDepth 20000 in
theorem gX2_join_X0_enter : GoodIn wsX2_join (wsV RX2 43 RX0 yX0_enter wsX0_enter) := goodIn_app (goodIn_of _ (by decide +kernel)) ggX2_join_X0_enter
theorem dX2_join_0 : decode cX2_join 0 = .ok (.iload_n 1, 1) := by decide +kernel
theorem dX2_join_1 : decode cX2_join 1 = .ok (.iconst 1, 1) := by decide +kernel
theorem dX2_join_2 : decode cX2_join 2 = .ok (.bipush 9, 2) := by decide +kernel
theorem dX2_join_4 : decode cX2_join 4 = .ok (.invokestatic 19, 3) := by decide +kernel
theorem dX2_join_7 : decode cX2_join 7 = .ok (.ifCond .ne 13, 3) := by decide +kernel
theorem dX2_join_10 : decode cX2_join 10 = .ok (.iload_n 2, 1) := by decide +kernel
theorem dX2_join_11 : decode cX2_join 11 = .ok (.iconst 1, 1) := by decide +kernel
theorem dX2_join_12 : decode cX2_join 12 = .ok (.bipush 20, 2) := by decide +kernel
theorem dX2_join_14 : decode cX2_join 14 = .ok (.invokestatic 19, 3) := by decide +kernel
theorem dX2_join_17 : decode cX2_join 17 = .ok (.ifCond .eq 13, 3) := by decide +kernel
theorem dX2_join_20 : decode cX2_join 20 = .ok (.new 23, 3) := by decide +kernel
theorem dX2_join_23 : decode cX2_join 23 = .ok (.dup, 1) := by decide +kernel
theorem dX2_join_24 : decode cX2_join 24 = .ok (.ldc 25, 2) := by decide +kernel
theorem dX2_join_26 : decode cX2_join 26 = .ok (.invokespecial 27, 3) := by decide +kernel
theorem dX2_join_29 : decode cX2_join 29 = .ok (.athrow, 1) := by decide +kernel
theorem dX2_join_30 : decode cX2_join 30 = .ok (.aload_n 0, 1) := by decide +kernel
theorem dX2_join_31 : decode cX2_join 31 = .ok (.getfield 10, 3) := by decide +kernel
theorem dX2_join_34 : decode cX2_join 34 = .ok (.getfield 30, 3) := by decide +kernel
theorem dX2_join_37 : decode cX2_join 37 = .ok (.istore_n 3, 1) := by decide +kernel
theorem dX2_join_38 : decode cX2_join 38 = .ok (.iload_n 3, 1) := by decide +kernel
theorem dX2_join_39 : decode cX2_join 39 = .ok (.iconst 0, 1) := by decide +kernel
theorem dX2_join_40 : decode cX2_join 40 = .ok (.bipush 11, 2) := by decide +kernel
theorem dX2_join_42 : decode cX2_join 42 = .ok (.invokestatic 19, 3) := by decide +kernel
theorem dX2_join_45 : decode cX2_join 45 = .ok (.ifCond .eq 13, 3) := by decide +kernel
theorem dX2_join_48 : decode cX2_join 48 = .ok (.new 34, 3) := by decide +kernel
theorem dX2_join_51 : decode cX2_join 51 = .ok (.dup, 1) := by decide +kernel
theorem dX2_join_52 : decode cX2_join 52 = .ok (.ldc 36, 2) := by decide +kernel
theorem dX2_join_54 : decode cX2_join 54 = .ok (.invokespecial 38, 3) := by decide +kernel
theorem dX2_join_57 : decode cX2_join 57 = .ok (.athrow, 1) := by decide +kernel
theorem dX2_join_58 : decode cX2_join 58 = .ok (.aload_n 0, 1) := by decide +kernel
theorem dX2_join_59 : decode cX2_join 59 = .ok (.getfield 10, 3) := by decide +kernel
theorem dX2_join_62 : decode cX2_join 62 = .ok (.getfield 39, 3) := by decide +kernel
theorem dX2_join_65 : decode cX2_join 65 = .ok (.iload_n 3, 1) := by decide +kernel
theorem dX2_join_66 : decode cX2_join 66 = .ok (.aaload, 1) := by decide +kernel
theorem dX2_join_67 : decode cX2_join 67 = .ok (.iload_n 1, 1) := by decide +kernel
theorem dX2_join_68 : decode cX2_join 68 = .ok (.iload_n 2, 1) := by decide +kernel
theorem dX2_join_69 : decode cX2_join 69 = .ok (.invokevirtual 43, 3) := by decide +kernel
theorem dX2_join_72 : decode cX2_join 72 = .ok (.aload_n 0, 1) := by decide +kernel
theorem dX2_join_73 : decode cX2_join 73 = .ok (.getfield 10, 3) := by decide +kernel
theorem dX2_join_76 : decode cX2_join 76 = .ok (.dup, 1) := by decide +kernel
theorem dX2_join_77 : decode cX2_join 77 = .ok (.getfield 30, 3) := by decide +kernel
theorem dX2_join_80 : decode cX2_join 80 = .ok (.iconst 1, 1) := by decide +kernel
theorem dX2_join_81 : decode cX2_join 81 = .ok (.iadd, 1) := by decide +kernel
theorem dX2_join_82 : decode cX2_join 82 = .ok (.putfield 30, 3) := by decide +kernel
theorem dX2_join_85 : decode cX2_join 85 = .ok (.iload_n 3, 1) := by decide +kernel
theorem dX2_join_86 : decode cX2_join 86 = .ok (.ireturn, 1) := by decide +kernel
set_option maxRecDepth 20000 in
theorem ggX2_place_X1_hasMember : GoodIn wsX2_place wsX1_hasMember := goodIn_r _ [13, 14, 15, 37, 38, 39, 40, 41, 42, 43, 44, 45, 46, 47, 48, 49, 50, 51, 52, 53, 54, 55, 56, 57, 58, 59, 60] (by decide +kernel) (by decide +kernel)
set_option maxRecDepth 20000 in
theorem gX2_place_X1_hasMember : GoodIn wsX2_place (wsV RX2 49 RX1 yX1_hasMember wsX1_hasMember) := goodIn_app (goodIn_of _ (by decide +kernel)) ggX2_place_X1_hasMember
set_option maxRecDepth 20000 in
theorem ggX2_place_X2_isOutside : GoodIn wsX2_place wsX2_isOutside := goodIn_r _ [19] (by decide +kernel) (by decide +kernel)
set_option maxRecDepth 20000 in
theorem gX2_place_X2_isOutside : GoodIn wsX2_place (va_wsS RX2 19 yX2_isOutside wsX2_isOutside) := goodIn_app (goodIn_of _ (by decide +kernel)) ggX2_place_X2_isOutside
set_option maxRecDepth 20000 in
theorem ggX2_place_X1_hasRoom : GoodIn wsX2_place wsX1_hasRoom := goodIn_r _ [23, 24, 25, 26, 27, 12, 28, 14, 29, 30, 31, 32, 33, 34, 51, 52, 53, 54, 55, 56, 57, 58, 59, 60, 37, 38, 39, 40, 41, 42, 43, 44, 45, 46, 47, 48, 49, 50] (by decide +kernel) (by decide +kernel)
set_option maxRecDepth 20000 in
theorem gX2_place_X1_hasRoom : GoodIn wsX2_place (wsV RX2 61 RX1 yX1_hasRoom wsX1_hasRoom) := goodIn_app (goodIn_of _ (by decide +kernel)) ggX2_place_X1_hasRoom
theorem dX2_place_0 : decode cX2_place 0 = .ok (.aload_n 0, 1) := by decide +kernel
theorem dX2_place_1 : decode cX2_place 1 = .ok (.getfield 10, 3) := by decide +kernel
theorem dX2_place_4 : decode cX2_place 4 = .ok (.iload_n 1, 1) := by decide +kernel
theorem dX2_place_5 : decode cX2_place 5 = .ok (.invokevirtual 49, 3) := by decide +kernel
theorem dX2_place_8 : decode cX2_place 8 = .ok (.ifCond .eq 12, 3) := by decide +kernel
theorem dX2_place_11 : decode cX2_place 11 = .ok (.iload_n 2, 1) := by decide +kernel
theorem dX2_place_12 : decode cX2_place 12 = .ok (.iconst (-1), 1) := by decide +kernel
theorem dX2_place_13 : decode cX2_place 13 = .ok (.iconst 2, 1) := by decide +kernel
theorem dX2_place_14 : decode cX2_place 14 = .ok (.invokestatic 19, 3) := by decide +kernel
theorem dX2_place_17 : decode cX2_place 17 = .ok (.ifCond .eq 13, 3) := by decide +kernel
theorem dX2_place_20 : decode cX2_place 20 = .ok (.new 53, 3) := by decide +kernel
theorem dX2_place_23 : decode cX2_place 23 = .ok (.dup, 1) := by decide +kernel
theorem dX2_place_24 : decode cX2_place 24 = .ok (.ldc 55, 2) := by decide +kernel
theorem dX2_place_26 : decode cX2_place 26 = .ok (.invokespecial 57, 3) := by decide +kernel
theorem dX2_place_29 : decode cX2_place 29 = .ok (.athrow, 1) := by decide +kernel
theorem dX2_place_30 : decode cX2_place 30 = .ok (.aload_n 0, 1) := by decide +kernel
theorem dX2_place_31 : decode cX2_place 31 = .ok (.getfield 10, 3) := by decide +kernel
theorem dX2_place_34 : decode cX2_place 34 = .ok (.getfield 39, 3) := by decide +kernel
theorem dX2_place_37 : decode cX2_place 37 = .ok (.iload_n 1, 1) := by decide +kernel
theorem dX2_place_38 : decode cX2_place 38 = .ok (.aaload, 1) := by decide +kernel
theorem dX2_place_39 : decode cX2_place 39 = .ok (.astore_n 3, 1) := by decide +kernel
theorem dX2_place_40 : decode cX2_place 40 = .ok (.aload_n 3, 1) := by decide +kernel
theorem dX2_place_41 : decode cX2_place 41 = .ok (.getfield 58, 3) := by decide +kernel
theorem dX2_place_44 : decode cX2_place 44 = .ok (.iconst 2, 1) := by decide +kernel
theorem dX2_place_45 : decode cX2_place 45 = .ok (.if_icmp .eq 15, 3) := by decide +kernel
theorem dX2_place_48 : decode cX2_place 48 = .ok (.aload_n 0, 1) := by decide +kernel
theorem dX2_place_49 : decode cX2_place 49 = .ok (.getfield 10, 3) := by decide +kernel
theorem dX2_place_52 : decode cX2_place 52 = .ok (.iload_n 2, 1) := by decide +kernel
theorem dX2_place_53 : decode cX2_place 53 = .ok (.aload_n 3, 1) := by decide +kernel
theorem dX2_place_54 : decode cX2_place 54 = .ok (.invokevirtual 61, 3) := by decide +kernel
theorem dX2_place_57 : decode cX2_place 57 = .ok (.ifCond .ne 13, 3) := by decide +kernel
theorem dX2_place_60 : decode cX2_place 60 = .ok (.new 34, 3) := by decide +kernel
theorem dX2_place_63 : decode cX2_place 63 = .ok (.dup, 1) := by decide +kernel
theorem dX2_place_64 : decode cX2_place 64 = .ok (.ldc 65, 2) := by decide +kernel
theorem dX2_place_66 : decode cX2_place 66 = .ok (.invokespecial 38, 3) := by decide +kernel
theorem dX2_place_69 : decode cX2_place 69 = .ok (.athrow, 1) := by decide +kernel
theorem dX2_place_70 : decode cX2_place 70 = .ok (.aload_n 3, 1) := by decide +kernel
theorem dX2_place_71 : decode cX2_place 71 = .ok (.getfield 67, 3) := by decide +kernel
theorem dX2_place_74 : decode cX2_place 74 = .ok (.istore 4, 2) := by decide +kernel
theorem dX2_place_76 : decode cX2_place 76 = .ok (.aload_n 3, 1) := by decide +kernel
theorem dX2_place_77 : decode cX2_place 77 = .ok (.iload_n 2, 1) := by decide +kernel
theorem dX2_place_78 : decode cX2_place 78 = .ok (.putfield 67, 3) := by decide +kernel
theorem dX2_place_81 : decode cX2_place 81 = .ok (.iload 4, 2) := by decide +kernel
theorem dX2_place_83 : decode cX2_place 83 = .ok (.ireturn, 1) := by decide +kernel
set_option maxRecDepth 20000 in
theorem ggX2_give_X1_hasMember : GoodIn wsX2_give wsX1_hasMember := goodIn_r _ [15, 16, 17, 24, 25, 26, 27, 28, 29, 30, 31, 32, 33, 34, 35, 36, 37, 38, 39, 40, 41, 42, 43, 44, 45, 46, 47] (by decide +kernel) (by decide +kernel)
set_option maxRecDepth 20000 in
theorem gX2_give_X1_hasMember : GoodIn wsX2_give (wsV RX2 49 RX1 yX1_hasMember wsX1_hasMember) := goodIn_app (goodIn_of _ (by decide +kernel)) ggX2_give_X1_hasMember
set_option maxRecDepth 20000 in
theorem ggX2_give_X2_isOutside : GoodIn wsX2_give wsX2_isOutside := goodIn_r _ [21] (by decide +kernel) (by decide +kernel)
set_option maxRecDepth 20000 in
theorem gX2_give_X2_isOutside : GoodIn wsX2_give (va_wsS RX2 19 yX2_isOutside wsX2_isOutside) := goodIn_app (goodIn_of _ (by decide +kernel)) ggX2_give_X2_isOutside
theorem dX2_give_0 : decode cX2_give 0 = .ok (.aload_n 0, 1) := by decide +kernel
theorem dX2_give_1 : decode cX2_give 1 = .ok (.getfield 10, 3) := by decide +kernel
theorem dX2_give_4 : decode cX2_give 4 = .ok (.iload_n 1, 1) := by decide +kernel
theorem dX2_give_5 : decode cX2_give 5 = .ok (.invokevirtual 49, 3) := by decide +kernel
theorem dX2_give_8 : decode cX2_give 8 = .ok (.ifCond .eq 14, 3) := by decide +kernel
theorem dX2_give_11 : decode cX2_give 11 = .ok (.aload_n 0, 1) := by decide +kernel
theorem dX2_give_12 : decode cX2_give 12 = .ok (.getfield 10, 3) := by decide +kernel
theorem dX2_give_15 : decode cX2_give 15 = .ok (.iload_n 2, 1) := by decide +kernel
theorem dX2_give_16 : decode cX2_give 16 = .ok (.invokevirtual 49, 3) := by decide +kernel
theorem dX2_give_19 : decode cX2_give 19 = .ok (.ifCond .ne 13, 3) := by decide +kernel
theorem dX2_give_22 : decode cX2_give 22 = .ok (.new 53, 3) := by decide +kernel
theorem dX2_give_25 : decode cX2_give 25 = .ok (.dup, 1) := by decide +kernel
theorem dX2_give_26 : decode cX2_give 26 = .ok (.ldc 70, 2) := by decide +kernel
theorem dX2_give_28 : decode cX2_give 28 = .ok (.invokespecial 57, 3) := by decide +kernel
theorem dX2_give_31 : decode cX2_give 31 = .ok (.athrow, 1) := by decide +kernel
theorem dX2_give_32 : decode cX2_give 32 = .ok (.iload_n 3, 1) := by decide +kernel
theorem dX2_give_33 : decode cX2_give 33 = .ok (.iconst 1, 1) := by decide +kernel
theorem dX2_give_34 : decode cX2_give 34 = .ok (.bipush 99, 2) := by decide +kernel
theorem dX2_give_36 : decode cX2_give 36 = .ok (.invokestatic 19, 3) := by decide +kernel
theorem dX2_give_39 : decode cX2_give 39 = .ok (.ifCond .eq 13, 3) := by decide +kernel
theorem dX2_give_42 : decode cX2_give 42 = .ok (.new 23, 3) := by decide +kernel
theorem dX2_give_45 : decode cX2_give 45 = .ok (.dup, 1) := by decide +kernel
theorem dX2_give_46 : decode cX2_give 46 = .ok (.ldc 72, 2) := by decide +kernel
theorem dX2_give_48 : decode cX2_give 48 = .ok (.invokespecial 27, 3) := by decide +kernel
theorem dX2_give_51 : decode cX2_give 51 = .ok (.athrow, 1) := by decide +kernel
theorem dX2_give_52 : decode cX2_give 52 = .ok (.aload_n 0, 1) := by decide +kernel
theorem dX2_give_53 : decode cX2_give 53 = .ok (.getfield 10, 3) := by decide +kernel
theorem dX2_give_56 : decode cX2_give 56 = .ok (.getfield 39, 3) := by decide +kernel
theorem dX2_give_59 : decode cX2_give 59 = .ok (.iload_n 1, 1) := by decide +kernel
theorem dX2_give_60 : decode cX2_give 60 = .ok (.aaload, 1) := by decide +kernel
theorem dX2_give_61 : decode cX2_give 61 = .ok (.astore 4, 2) := by decide +kernel
theorem dX2_give_63 : decode cX2_give 63 = .ok (.aload_n 0, 1) := by decide +kernel
theorem dX2_give_64 : decode cX2_give 64 = .ok (.getfield 10, 3) := by decide +kernel
theorem dX2_give_67 : decode cX2_give 67 = .ok (.getfield 39, 3) := by decide +kernel
theorem dX2_give_70 : decode cX2_give 70 = .ok (.iload_n 2, 1) := by decide +kernel
theorem dX2_give_71 : decode cX2_give 71 = .ok (.aaload, 1) := by decide +kernel
theorem dX2_give_72 : decode cX2_give 72 = .ok (.astore 5, 2) := by decide +kernel
theorem dX2_give_74 : decode cX2_give 74 = .ok (.iload_n 1, 1) := by decide +kernel
theorem dX2_give_75 : decode cX2_give 75 = .ok (.iload_n 2, 1) := by decide +kernel
theorem dX2_give_76 : decode cX2_give 76 = .ok (.if_icmp .eq 30, 3) := by decide +kernel
theorem dX2_give_79 : decode cX2_give 79 = .ok (.aload 4, 2) := by decide +kernel
theorem dX2_give_81 : decode cX2_give 81 = .ok (.getfield 58, 3) := by decide +kernel
theorem dX2_give_84 : decode cX2_give 84 = .ok (.iconst 2, 1) := by decide +kernel
theorem dX2_give_85 : decode cX2_give 85 = .ok (.if_icmp .eq 21, 3) := by decide +kernel
theorem dX2_give_88 : decode cX2_give 88 = .ok (.aload 5, 2) := by decide +kernel
theorem dX2_give_90 : decode cX2_give 90 = .ok (.getfield 58, 3) := by decide +kernel
theorem dX2_give_93 : decode cX2_give 93 = .ok (.iconst 2, 1) := by decide +kernel
theorem dX2_give_94 : decode cX2_give 94 = .ok (.if_icmp .eq 12, 3) := by decide +kernel
theorem dX2_give_97 : decode cX2_give 97 = .ok (.aload 4, 2) := by decide +kernel
theorem dX2_give_99 : decode cX2_give 99 = .ok (.getfield 74, 3) := by decide +kernel
theorem dX2_give_102 : decode cX2_give 102 = .ok (.iload_n 3, 1) := by decide +kernel
theorem dX2_give_103 : decode cX2_give 103 = .ok (.if_icmp .ge 13, 3) := by decide +kernel
theorem dX2_give_106 : decode cX2_give 106 = .ok (.new 34, 3) := by decide +kernel
theorem dX2_give_109 : decode cX2_give 109 = .ok (.dup, 1) := by decide +kernel
theorem dX2_give_110 : decode cX2_give 110 = .ok (.ldc 76, 2) := by decide +kernel
theorem dX2_give_112 : decode cX2_give 112 = .ok (.invokespecial 38, 3) := by decide +kernel
theorem dX2_give_115 : decode cX2_give 115 = .ok (.athrow, 1) := by decide +kernel
theorem dX2_give_116 : decode cX2_give 116 = .ok (.aload 4, 2) := by decide +kernel
theorem dX2_give_118 : decode cX2_give 118 = .ok (.dup, 1) := by decide +kernel
theorem dX2_give_119 : decode cX2_give 119 = .ok (.getfield 74, 3) := by decide +kernel
theorem dX2_give_122 : decode cX2_give 122 = .ok (.iload_n 3, 1) := by decide +kernel
theorem dX2_give_123 : decode cX2_give 123 = .ok (.isub, 1) := by decide +kernel
theorem dX2_give_124 : decode cX2_give 124 = .ok (.putfield 74, 3) := by decide +kernel
theorem dX2_give_127 : decode cX2_give 127 = .ok (.aload 5, 2) := by decide +kernel
theorem dX2_give_129 : decode cX2_give 129 = .ok (.dup, 1) := by decide +kernel
theorem dX2_give_130 : decode cX2_give 130 = .ok (.getfield 74, 3) := by decide +kernel
theorem dX2_give_133 : decode cX2_give 133 = .ok (.iload_n 3, 1) := by decide +kernel
theorem dX2_give_134 : decode cX2_give 134 = .ok (.iadd, 1) := by decide +kernel
theorem dX2_give_135 : decode cX2_give 135 = .ok (.putfield 74, 3) := by decide +kernel
theorem dX2_give_138 : decode cX2_give 138 = .ok (.aload 4, 2) := by decide +kernel
theorem dX2_give_140 : decode cX2_give 140 = .ok (.getfield 74, 3) := by decide +kernel
theorem dX2_give_143 : decode cX2_give 143 = .ok (.ireturn, 1) := by decide +kernel
set_option maxRecDepth 20000 in
theorem ggX2_settle_X1_hasMember : GoodIn wsX2_settle wsX1_hasMember := goodIn_r _ [14, 15, 16, 30, 31, 32, 33, 34, 35, 36, 37, 38, 39, 40, 41, 42, 43, 44, 45, 46, 47, 48, 49, 50, 51, 52, 53] (by decide +kernel) (by decide +kernel)
set_option maxRecDepth 20000 in
theorem gX2_settle_X1_hasMember : GoodIn wsX2_settle (wsV RX2 49 RX1 yX1_hasMember wsX1_hasMember) := goodIn_app (goodIn_of _ (by decide +kernel)) ggX2_settle_X1_hasMember
set_option maxRecDepth 20000 in
theorem ggX2_settle_X0_payMarks : GoodIn wsX2_settle wsX0_payMarks := goodIn_r _ [21, 22, 23, 24, 25, 26, 27, 44, 45, 46, 47, 48, 49, 50, 51, 52, 53] (by decide +kernel) (by decide +kernel)
set_option maxRecDepth 20000 in
theorem gX2_settle_X0_payMarks : GoodIn wsX2_settle (wsV RX2 83 RX0 yX0_payMarks wsX0_payMarks) := goodIn_app (goodIn_of _ (by decide +kernel)) ggX2_settle_X0_payMarks
theorem dX2_settle_0 : decode cX2_settle 0 = .ok (.aload_n 0, 1) := by decide +kernel
theorem dX2_settle_1 : decode cX2_settle 1 = .ok (.getfield 10, 3) := by decide +kernel
theorem dX2_settle_4 : decode cX2_settle 4 = .ok (.iload_n 1, 1) := by decide +kernel
theorem dX2_settle_5 : decode cX2_settle 5 = .ok (.invokevirtual 49, 3) := by decide +kernel
theorem dX2_settle_8 : decode cX2_settle 8 = .ok (.ifCond .ne 13, 3) := by decide +kernel
theorem dX2_settle_11 : decode cX2_settle 11 = .ok (.new 53, 3) := by decide +kernel
theorem dX2_settle_14 : decode cX2_settle 14 = .ok (.dup, 1) := by decide +kernel
theorem dX2_settle_15 : decode cX2_settle 15 = .ok (.ldc 70, 2) := by decide +kernel
theorem dX2_settle_17 : decode cX2_settle 17 = .ok (.invokespecial 57, 3) := by decide +kernel
theorem dX2_settle_20 : decode cX2_settle 20 = .ok (.athrow, 1) := by decide +kernel
theorem dX2_settle_21 : decode cX2_settle 21 = .ok (.aload_n 0, 1) := by decide +kernel
theorem dX2_settle_22 : decode cX2_settle 22 = .ok (.getfield 10, 3) := by decide +kernel
theorem dX2_settle_25 : decode cX2_settle 25 = .ok (.getfield 39, 3) := by decide +kernel
theorem dX2_settle_28 : decode cX2_settle 28 = .ok (.iload_n 1, 1) := by decide +kernel
theorem dX2_settle_29 : decode cX2_settle 29 = .ok (.aaload, 1) := by decide +kernel
theorem dX2_settle_30 : decode cX2_settle 30 = .ok (.astore_n 2, 1) := by decide +kernel
theorem dX2_settle_31 : decode cX2_settle 31 = .ok (.aload_n 2, 1) := by decide +kernel
theorem dX2_settle_32 : decode cX2_settle 32 = .ok (.getfield 58, 3) := by decide +kernel
theorem dX2_settle_35 : decode cX2_settle 35 = .ok (.iconst 2, 1) := by decide +kernel
theorem dX2_settle_36 : decode cX2_settle 36 = .ok (.if_icmp .ne 13, 3) := by decide +kernel
theorem dX2_settle_39 : decode cX2_settle 39 = .ok (.new 34, 3) := by decide +kernel
theorem dX2_settle_42 : decode cX2_settle 42 = .ok (.dup, 1) := by decide +kernel
theorem dX2_settle_43 : decode cX2_settle 43 = .ok (.ldc 78, 2) := by decide +kernel
theorem dX2_settle_45 : decode cX2_settle 45 = .ok (.invokespecial 38, 3) := by decide +kernel
theorem dX2_settle_48 : decode cX2_settle 48 = .ok (.athrow, 1) := by decide +kernel
theorem dX2_settle_49 : decode cX2_settle 49 = .ok (.aload_n 0, 1) := by decide +kernel
theorem dX2_settle_50 : decode cX2_settle 50 = .ok (.getfield 10, 3) := by decide +kernel
theorem dX2_settle_53 : decode cX2_settle 53 = .ok (.dup, 1) := by decide +kernel
theorem dX2_settle_54 : decode cX2_settle 54 = .ok (.getfield 80, 3) := by decide +kernel
theorem dX2_settle_57 : decode cX2_settle 57 = .ok (.aload_n 2, 1) := by decide +kernel
theorem dX2_settle_58 : decode cX2_settle 58 = .ok (.invokevirtual 83, 3) := by decide +kernel
theorem dX2_settle_61 : decode cX2_settle 61 = .ok (.iadd, 1) := by decide +kernel
theorem dX2_settle_62 : decode cX2_settle 62 = .ok (.putfield 80, 3) := by decide +kernel
theorem dX2_settle_65 : decode cX2_settle 65 = .ok (.aload_n 2, 1) := by decide +kernel
theorem dX2_settle_66 : decode cX2_settle 66 = .ok (.getfield 87, 3) := by decide +kernel
theorem dX2_settle_69 : decode cX2_settle 69 = .ok (.ireturn, 1) := by decide +kernel
set_option maxRecDepth 20000 in
theorem ggX2_told_X1_hasMember : GoodIn wsX2_told wsX1_hasMember := goodIn_r _ [9, 10, 11, 32, 33, 34, 35, 36, 37, 38, 39, 40, 41, 42, 43, 44, 45, 46, 47, 48, 49, 50, 51, 52, 53, 54, 55] (by decide +kernel) (by decide +kernel)
set_option maxRecDepth 20000 in
theorem gX2_told_X1_hasMember : GoodIn wsX2_told (wsV RX2 49 RX1 yX1_hasMember wsX1_hasMember) := goodIn_app (goodIn_of _ (by decide +kernel)) ggX2_told_X1_hasMember
set_option maxRecDepth 20000 in
theorem ggX2_told_X2_isOutside : GoodIn wsX2_told wsX2_isOutside := goodIn_r _ [15] (by decide +kernel) (by decide +kernel)
set_option maxRecDepth 20000 in
theorem gX2_told_X2_isOutside : GoodIn wsX2_told (va_wsS RX2 19 yX2_isOutside wsX2_isOutside) := goodIn_app (goodIn_of _ (by decide +kernel)) ggX2_told_X2_isOutside
set_option maxRecDepth 20000 in
theorem ggX2_told_X0_fact : GoodIn wsX2_told wsX0_fact := goodIn_r _ [20, 21, 22, 23, 24, 25, 26, 27, 28, 29, 46, 47, 48, 49, 50, 51, 52, 53, 54, 55] (by decide +kernel) (by decide +kernel)
set_option maxRecDepth 20000 in
theorem gX2_told_X0_fact : GoodIn wsX2_told (wsV RX2 92 RX0 yX0_fact wsX0_fact) := goodIn_app (goodIn_of _ (by decide +kernel)) ggX2_told_X0_fact
theorem dX2_told_0 : decode cX2_told 0 = .ok (.aload_n 0, 1) := by decide +kernel
theorem dX2_told_1 : decode cX2_told 1 = .ok (.getfield 10, 3) := by decide +kernel
theorem dX2_told_4 : decode cX2_told 4 = .ok (.iload_n 1, 1) := by decide +kernel
theorem dX2_told_5 : decode cX2_told 5 = .ok (.invokevirtual 49, 3) := by decide +kernel
theorem dX2_told_8 : decode cX2_told 8 = .ok (.ifCond .eq 13, 3) := by decide +kernel
