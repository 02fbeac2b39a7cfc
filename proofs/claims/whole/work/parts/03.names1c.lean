theorem wsL_law_x0 : ∀ w ∈ (vx_atS RX2 27 "java/lang/IllegalArgumentException" ["java/lang/RuntimeException", "java/lang/Exception"]).filter goodWord, w ∈ lw_tbl := by decide +kernel
theorem wsL_law_x1 : ∀ w ∈ (vx_atS RX2 38 "java/lang/IllegalStateException" ["java/lang/RuntimeException", "java/lang/Exception"]).filter goodWord, w ∈ lw_tbl := by decide +kernel
theorem wsL_law_x2 : ∀ w ∈ (vx_atS RX2 57 "java/lang/IndexOutOfBoundsException" ["java/lang/RuntimeException", "java/lang/Exception"]).filter goodWord, w ∈ lw_tbl := by decide +kernel
theorem wsL_law_in : ∀ w ∈ wsL_law, w ∈ lw_tbl := fun w h => (List.mem_append.mp h).elim (fun h => (List.mem_append.mp h).elim (fun h => (List.mem_append.mp h).elim (fun h => wsL_law_in0 w h) (fun h => wsL_law_x0 w h)) (fun h => wsL_law_x1 w h)) (fun h => wsL_law_x2 w h)
theorem inlX0 : ∀ w ∈ wsX00, w ∈ wsL_law := fun _ h => List.mem_append_left _ (List.mem_append_left _ (List.mem_append_left _ (List.mem_append_left _ (List.mem_append_left _ (List.mem_append_right _ h)))))
theorem inX0 : ∀ w ∈ wsX00, w ∈ lw_tbl := fun w h => wsL_law_in w (inlX0 w h)
theorem inlX1 : ∀ w ∈ wsX10, w ∈ wsL_law := fun _ h => List.mem_append_left _ (List.mem_append_left _ (List.mem_append_left _ (List.mem_append_left _ (List.mem_append_left _ (List.mem_append_left _ (List.mem_append_right _ h))))))
theorem inX1 : ∀ w ∈ wsX10, w ∈ lw_tbl := fun w h => wsL_law_in w (inlX1 w h)
theorem inlX2 : ∀ w ∈ wsX20, w ∈ wsL_law := fun _ h => List.mem_append_left _ (List.mem_append_left _ (List.mem_append_left _ (List.mem_append_left _ (List.mem_append_left _ (List.mem_append_left _ (List.mem_append_left _ (List.mem_append_left _ (List.mem_append_right _ h))))))))
theorem inX2 : ∀ w ∈ wsX20, w ∈ lw_tbl := fun w h => wsL_law_in w (inlX2 w h)
theorem inlX3 : ∀ w ∈ wsX30, w ∈ wsL_law := fun _ h => List.mem_append_left _ (List.mem_append_left _ (List.mem_append_left _ (List.mem_append_left _ (List.mem_append_right _ h))))
theorem inX3 : ∀ w ∈ wsX30, w ∈ lw_tbl := fun w h => wsL_law_in w (inlX3 w h)
theorem inlX4 : ∀ w ∈ wsX40, w ∈ wsL_law := fun _ h => List.mem_append_left _ (List.mem_append_left _ (List.mem_append_left _ (List.mem_append_left _ (List.mem_append_left _ (List.mem_append_left _ (List.mem_append_left _ (List.mem_append_right _ h)))))))
theorem inX4 : ∀ w ∈ wsX40, w ∈ lw_tbl := fun w h => wsL_law_in w (inlX4 w h)
theorem inJ9 : ∀ w ∈ wsJ90, w ∈ lw_tbl := by decide +kernel
theorem inJ0 : ∀ w ∈ wsJ00, w ∈ lw_tbl := by decide +kernel
theorem inJ10 : ∀ w ∈ wsJ100, w ∈ lw_tbl := by decide +kernel
theorem dX0_init_0 : decode cX0_init 0 = .ok (.aload_n 0, 1) := by decide +kernel
theorem dX0_init_1 : decode cX0_init 1 = .ok (.invokespecial 3, 3) := by decide +kernel
theorem dX0_init_4 : decode cX0_init 4 = .ok (.aload_n 0, 1) := by decide +kernel
theorem dX0_init_5 : decode cX0_init 5 = .ok (.iconst (-1), 1) := by decide +kernel
theorem dX0_init_6 : decode cX0_init 6 = .ok (.putfield 9, 3) := by decide +kernel
theorem dX0_init_9 : decode cX0_init 9 = .ok (.aload_n 0, 1) := by decide +kernel
theorem dX0_init_10 : decode cX0_init 10 = .ok (.iconst 3, 1) := by decide +kernel
theorem dX0_init_11 : decode cX0_init 11 = .ok (.putfield 15, 3) := by decide +kernel
theorem dX0_init_14 : decode cX0_init 14 = .ok (.return_, 1) := by decide +kernel
theorem dX0_enter_0 : decode cX0_enter 0 = .ok (.aload_n 0, 1) := by decide +kernel
theorem dX0_enter_1 : decode cX0_enter 1 = .ok (.iload_n 1, 1) := by decide +kernel
theorem dX0_enter_2 : decode cX0_enter 2 = .ok (.putfield 18, 3) := by decide +kernel
theorem dX0_enter_5 : decode cX0_enter 5 = .ok (.aload_n 0, 1) := by decide +kernel
theorem dX0_enter_6 : decode cX0_enter 6 = .ok (.iload_n 2, 1) := by decide +kernel
theorem dX0_enter_7 : decode cX0_enter 7 = .ok (.putfield 21, 3) := by decide +kernel
theorem dX0_enter_10 : decode cX0_enter 10 = .ok (.aload_n 0, 1) := by decide +kernel
theorem dX0_enter_11 : decode cX0_enter 11 = .ok (.bipush 10, 2) := by decide +kernel
theorem dX0_enter_13 : decode cX0_enter 13 = .ok (.putfield 24, 3) := by decide +kernel
theorem dX0_enter_16 : decode cX0_enter 16 = .ok (.aload_n 0, 1) := by decide +kernel
theorem dX0_enter_17 : decode cX0_enter 17 = .ok (.iconst 0, 1) := by decide +kernel
theorem dX0_enter_18 : decode cX0_enter 18 = .ok (.putfield 15, 3) := by decide +kernel
theorem dX0_enter_21 : decode cX0_enter 21 = .ok (.return_, 1) := by decide +kernel
theorem dX0_copyFrom_0 : decode cX0_copyFrom 0 = .ok (.aload_n 0, 1) := by decide +kernel
theorem dX0_copyFrom_1 : decode cX0_copyFrom 1 = .ok (.aload_n 1, 1) := by decide +kernel
theorem dX0_copyFrom_2 : decode cX0_copyFrom 2 = .ok (.getfield 18, 3) := by decide +kernel
theorem dX0_copyFrom_5 : decode cX0_copyFrom 5 = .ok (.putfield 18, 3) := by decide +kernel
theorem dX0_copyFrom_8 : decode cX0_copyFrom 8 = .ok (.aload_n 0, 1) := by decide +kernel
theorem dX0_copyFrom_9 : decode cX0_copyFrom 9 = .ok (.aload_n 1, 1) := by decide +kernel
theorem dX0_copyFrom_10 : decode cX0_copyFrom 10 = .ok (.getfield 21, 3) := by decide +kernel
theorem dX0_copyFrom_13 : decode cX0_copyFrom 13 = .ok (.putfield 21, 3) := by decide +kernel
theorem dX0_copyFrom_16 : decode cX0_copyFrom 16 = .ok (.aload_n 0, 1) := by decide +kernel
theorem dX0_copyFrom_17 : decode cX0_copyFrom 17 = .ok (.aload_n 1, 1) := by decide +kernel
theorem dX0_copyFrom_18 : decode cX0_copyFrom 18 = .ok (.getfield 24, 3) := by decide +kernel
theorem dX0_copyFrom_21 : decode cX0_copyFrom 21 = .ok (.putfield 24, 3) := by decide +kernel
theorem dX0_copyFrom_24 : decode cX0_copyFrom 24 = .ok (.aload_n 0, 1) := by decide +kernel
theorem dX0_copyFrom_25 : decode cX0_copyFrom 25 = .ok (.aload_n 1, 1) := by decide +kernel
theorem dX0_copyFrom_26 : decode cX0_copyFrom 26 = .ok (.getfield 27, 3) := by decide +kernel
theorem dX0_copyFrom_29 : decode cX0_copyFrom 29 = .ok (.putfield 27, 3) := by decide +kernel
theorem dX0_copyFrom_32 : decode cX0_copyFrom 32 = .ok (.aload_n 0, 1) := by decide +kernel
theorem dX0_copyFrom_33 : decode cX0_copyFrom 33 = .ok (.aload_n 1, 1) := by decide +kernel
theorem dX0_copyFrom_34 : decode cX0_copyFrom 34 = .ok (.getfield 30, 3) := by decide +kernel
theorem dX0_copyFrom_37 : decode cX0_copyFrom 37 = .ok (.putfield 30, 3) := by decide +kernel
theorem dX0_copyFrom_40 : decode cX0_copyFrom 40 = .ok (.aload_n 0, 1) := by decide +kernel
theorem dX0_copyFrom_41 : decode cX0_copyFrom 41 = .ok (.aload_n 1, 1) := by decide +kernel
theorem dX0_copyFrom_42 : decode cX0_copyFrom 42 = .ok (.getfield 9, 3) := by decide +kernel
theorem dX0_copyFrom_45 : decode cX0_copyFrom 45 = .ok (.putfield 9, 3) := by decide +kernel
theorem dX0_copyFrom_48 : decode cX0_copyFrom 48 = .ok (.aload_n 0, 1) := by decide +kernel
theorem dX0_copyFrom_49 : decode cX0_copyFrom 49 = .ok (.aload_n 1, 1) := by decide +kernel
theorem dX0_copyFrom_50 : decode cX0_copyFrom 50 = .ok (.getfield 15, 3) := by decide +kernel
theorem dX0_copyFrom_53 : decode cX0_copyFrom 53 = .ok (.putfield 15, 3) := by decide +kernel
theorem dX0_copyFrom_56 : decode cX0_copyFrom 56 = .ok (.aload_n 0, 1) := by decide +kernel
theorem dX0_copyFrom_57 : decode cX0_copyFrom 57 = .ok (.aload_n 1, 1) := by decide +kernel
theorem dX0_copyFrom_58 : decode cX0_copyFrom 58 = .ok (.getfield 33, 3) := by decide +kernel
theorem dX0_copyFrom_61 : decode cX0_copyFrom 61 = .ok (.putfield 33, 3) := by decide +kernel
theorem dX0_copyFrom_64 : decode cX0_copyFrom 64 = .ok (.aload_n 0, 1) := by decide +kernel
theorem dX0_copyFrom_65 : decode cX0_copyFrom 65 = .ok (.aload_n 1, 1) := by decide +kernel
theorem dX0_copyFrom_66 : decode cX0_copyFrom 66 = .ok (.getfield 36, 3) := by decide +kernel
theorem dX0_copyFrom_69 : decode cX0_copyFrom 69 = .ok (.putfield 36, 3) := by decide +kernel
theorem dX0_copyFrom_72 : decode cX0_copyFrom 72 = .ok (.aload_n 0, 1) := by decide +kernel
theorem dX0_copyFrom_73 : decode cX0_copyFrom 73 = .ok (.aload_n 1, 1) := by decide +kernel
theorem dX0_copyFrom_74 : decode cX0_copyFrom 74 = .ok (.getfield 39, 3) := by decide +kernel
theorem dX0_copyFrom_77 : decode cX0_copyFrom 77 = .ok (.putfield 39, 3) := by decide +kernel
theorem dX0_copyFrom_80 : decode cX0_copyFrom 80 = .ok (.return_, 1) := by decide +kernel
theorem dX0_combs_0 : decode cX0_combs 0 = .ok (.aload_n 0, 1) := by decide +kernel
theorem dX0_combs_1 : decode cX0_combs 1 = .ok (.getfield 15, 3) := by decide +kernel
theorem dX0_combs_4 : decode cX0_combs 4 = .ok (.ifCond .ne 22, 3) := by decide +kernel
theorem dX0_combs_7 : decode cX0_combs 7 = .ok (.aload_n 0, 1) := by decide +kernel
theorem dX0_combs_8 : decode cX0_combs 8 = .ok (.getfield 9, 3) := by decide +kernel
theorem dX0_combs_11 : decode cX0_combs 11 = .ok (.ifCond .lt 15, 3) := by decide +kernel
theorem dX0_combs_14 : decode cX0_combs 14 = .ok (.aload_n 0, 1) := by decide +kernel
theorem dX0_combs_15 : decode cX0_combs 15 = .ok (.getfield 9, 3) := by decide +kernel
theorem dX0_combs_18 : decode cX0_combs 18 = .ok (.iconst 3, 1) := by decide +kernel
theorem dX0_combs_19 : decode cX0_combs 19 = .ok (.if_icmp .ge 7, 3) := by decide +kernel
theorem dX0_combs_22 : decode cX0_combs 22 = .ok (.iconst 1, 1) := by decide +kernel
theorem dX0_combs_23 : decode cX0_combs 23 = .ok (.goto 4, 3) := by decide +kernel
theorem dX0_combs_26 : decode cX0_combs 26 = .ok (.iconst 0, 1) := by decide +kernel
theorem dX0_combs_27 : decode cX0_combs 27 = .ok (.ireturn, 1) := by decide +kernel
theorem dX0_lives_0 : decode cX0_lives 0 = .ok (.aload_n 0, 1) := by decide +kernel
theorem dX0_lives_1 : decode cX0_lives 1 = .ok (.getfield 15, 3) := by decide +kernel
theorem dX0_lives_4 : decode cX0_lives 4 = .ok (.ifCond .eq 11, 3) := by decide +kernel
theorem dX0_lives_7 : decode cX0_lives 7 = .ok (.aload_n 0, 1) := by decide +kernel
theorem dX0_lives_8 : decode cX0_lives 8 = .ok (.getfield 15, 3) := by decide +kernel
theorem dX0_lives_11 : decode cX0_lives 11 = .ok (.iconst 1, 1) := by decide +kernel
theorem dX0_lives_12 : decode cX0_lives 12 = .ok (.if_icmp .ne 7, 3) := by decide +kernel
theorem dX0_lives_15 : decode cX0_lives 15 = .ok (.iconst 1, 1) := by decide +kernel
theorem dX0_lives_16 : decode cX0_lives 16 = .ok (.goto 4, 3) := by decide +kernel
theorem dX0_lives_19 : decode cX0_lives 19 = .ok (.iconst 0, 1) := by decide +kernel
theorem dX0_lives_20 : decode cX0_lives 20 = .ok (.ireturn, 1) := by decide +kernel
theorem dX0_fallSick_0 : decode cX0_fallSick 0 = .ok (.aload_n 0, 1) := by decide +kernel
theorem dX0_fallSick_1 : decode cX0_fallSick 1 = .ok (.iconst 1, 1) := by decide +kernel
theorem dX0_fallSick_2 : decode cX0_fallSick 2 = .ok (.putfield 15, 3) := by decide +kernel
theorem dX0_fallSick_5 : decode cX0_fallSick 5 = .ok (.aload_n 0, 1) := by decide +kernel
theorem dX0_fallSick_6 : decode cX0_fallSick 6 = .ok (.bipush 6, 2) := by decide +kernel
theorem dX0_fallSick_8 : decode cX0_fallSick 8 = .ok (.aload_n 0, 1) := by decide +kernel
theorem dX0_fallSick_9 : decode cX0_fallSick 9 = .ok (.getfield 21, 3) := by decide +kernel
theorem dX0_fallSick_12 : decode cX0_fallSick 12 = .ok (.iconst 4, 1) := by decide +kernel
theorem dX0_fallSick_13 : decode cX0_fallSick 13 = .ok (.idiv, 1) := by decide +kernel
theorem dX0_fallSick_14 : decode cX0_fallSick 14 = .ok (.isub, 1) := by decide +kernel
theorem dX0_fallSick_15 : decode cX0_fallSick 15 = .ok (.putfield 33, 3) := by decide +kernel
theorem dX0_fallSick_18 : decode cX0_fallSick 18 = .ok (.aload_n 0, 1) := by decide +kernel
theorem dX0_fallSick_19 : decode cX0_fallSick 19 = .ok (.iconst 0, 1) := by decide +kernel
theorem dX0_fallSick_20 : decode cX0_fallSick 20 = .ok (.putfield 36, 3) := by decide +kernel
theorem dX0_fallSick_23 : decode cX0_fallSick 23 = .ok (.return_, 1) := by decide +kernel
theorem dX0_getWell_0 : decode cX0_getWell 0 = .ok (.aload_n 0, 1) := by decide +kernel
theorem dX0_getWell_1 : decode cX0_getWell 1 = .ok (.iconst 0, 1) := by decide +kernel
theorem dX0_getWell_2 : decode cX0_getWell 2 = .ok (.putfield 15, 3) := by decide +kernel
theorem dX0_getWell_5 : decode cX0_getWell 5 = .ok (.aload_n 0, 1) := by decide +kernel
theorem dX0_getWell_6 : decode cX0_getWell 6 = .ok (.iconst 0, 1) := by decide +kernel
theorem dX0_getWell_7 : decode cX0_getWell 7 = .ok (.putfield 33, 3) := by decide +kernel
theorem dX0_getWell_10 : decode cX0_getWell 10 = .ok (.aload_n 0, 1) := by decide +kernel
theorem dX0_getWell_11 : decode cX0_getWell 11 = .ok (.iconst 0, 1) := by decide +kernel
theorem dX0_getWell_12 : decode cX0_getWell 12 = .ok (.putfield 36, 3) := by decide +kernel
theorem dX0_getWell_15 : decode cX0_getWell 15 = .ok (.return_, 1) := by decide +kernel
theorem dX0_die_0 : decode cX0_die 0 = .ok (.aload_n 0, 1) := by decide +kernel
theorem dX0_die_1 : decode cX0_die 1 = .ok (.iconst 2, 1) := by decide +kernel
theorem dX0_die_2 : decode cX0_die 2 = .ok (.putfield 15, 3) := by decide +kernel
theorem dX0_die_5 : decode cX0_die 5 = .ok (.aload_n 0, 1) := by decide +kernel
theorem dX0_die_6 : decode cX0_die 6 = .ok (.iconst 0, 1) := by decide +kernel
theorem dX0_die_7 : decode cX0_die 7 = .ok (.putfield 21, 3) := by decide +kernel
theorem dX0_die_10 : decode cX0_die 10 = .ok (.aload_n 0, 1) := by decide +kernel
theorem dX0_die_11 : decode cX0_die 11 = .ok (.iconst 0, 1) := by decide +kernel
theorem dX0_die_12 : decode cX0_die 12 = .ok (.putfield 27, 3) := by decide +kernel
theorem dX0_die_15 : decode cX0_die 15 = .ok (.aload_n 0, 1) := by decide +kernel
theorem dX0_die_16 : decode cX0_die 16 = .ok (.iconst 0, 1) := by decide +kernel
theorem dX0_die_17 : decode cX0_die 17 = .ok (.putfield 30, 3) := by decide +kernel
theorem dX0_die_20 : decode cX0_die 20 = .ok (.aload_n 0, 1) := by decide +kernel
theorem dX0_die_21 : decode cX0_die 21 = .ok (.iconst (-1), 1) := by decide +kernel
theorem dX0_die_22 : decode cX0_die 22 = .ok (.putfield 9, 3) := by decide +kernel
theorem dX0_die_25 : decode cX0_die 25 = .ok (.aload_n 0, 1) := by decide +kernel
theorem dX0_die_26 : decode cX0_die 26 = .ok (.iconst 0, 1) := by decide +kernel
theorem dX0_die_27 : decode cX0_die 27 = .ok (.putfield 33, 3) := by decide +kernel
theorem dX0_die_30 : decode cX0_die 30 = .ok (.aload_n 0, 1) := by decide +kernel
theorem dX0_die_31 : decode cX0_die 31 = .ok (.iconst 0, 1) := by decide +kernel
theorem dX0_die_32 : decode cX0_die 32 = .ok (.putfield 36, 3) := by decide +kernel
theorem dX0_die_35 : decode cX0_die 35 = .ok (.aload_n 0, 1) := by decide +kernel
theorem dX0_die_36 : decode cX0_die 36 = .ok (.iconst 1, 1) := by decide +kernel
theorem dX0_die_37 : decode cX0_die 37 = .ok (.putfield 39, 3) := by decide +kernel
theorem dX0_die_40 : decode cX0_die 40 = .ok (.return_, 1) := by decide +kernel
theorem dX0_payMarks_0 : decode cX0_payMarks 0 = .ok (.aload_n 0, 1) := by decide +kernel
theorem dX0_payMarks_1 : decode cX0_payMarks 1 = .ok (.getfield 27, 3) := by decide +kernel
theorem dX0_payMarks_4 : decode cX0_payMarks 4 = .ok (.aload_n 0, 1) := by decide +kernel
theorem dX0_payMarks_5 : decode cX0_payMarks 5 = .ok (.getfield 24, 3) := by decide +kernel
theorem dX0_payMarks_8 : decode cX0_payMarks 8 = .ok (.invokestatic 43, 3) := by decide +kernel
theorem dX0_payMarks_11 : decode cX0_payMarks 11 = .ok (.istore_n 1, 1) := by decide +kernel
theorem dX0_payMarks_12 : decode cX0_payMarks 12 = .ok (.aload_n 0, 1) := by decide +kernel
theorem dX0_payMarks_13 : decode cX0_payMarks 13 = .ok (.dup, 1) := by decide +kernel
theorem dX0_payMarks_14 : decode cX0_payMarks 14 = .ok (.getfield 27, 3) := by decide +kernel
theorem dX0_payMarks_17 : decode cX0_payMarks 17 = .ok (.iload_n 1, 1) := by decide +kernel
theorem dX0_payMarks_18 : decode cX0_payMarks 18 = .ok (.isub, 1) := by decide +kernel
theorem dX0_payMarks_19 : decode cX0_payMarks 19 = .ok (.putfield 27, 3) := by decide +kernel
theorem dX0_payMarks_22 : decode cX0_payMarks 22 = .ok (.aload_n 0, 1) := by decide +kernel
theorem dX0_payMarks_23 : decode cX0_payMarks 23 = .ok (.dup, 1) := by decide +kernel
theorem dX0_payMarks_24 : decode cX0_payMarks 24 = .ok (.getfield 24, 3) := by decide +kernel
theorem dX0_payMarks_27 : decode cX0_payMarks 27 = .ok (.iload_n 1, 1) := by decide +kernel
theorem dX0_payMarks_28 : decode cX0_payMarks 28 = .ok (.isub, 1) := by decide +kernel
theorem dX0_payMarks_29 : decode cX0_payMarks 29 = .ok (.putfield 24, 3) := by decide +kernel
theorem dX0_payMarks_32 : decode cX0_payMarks 32 = .ok (.iload_n 1, 1) := by decide +kernel
theorem dX0_payMarks_33 : decode cX0_payMarks 33 = .ok (.ireturn, 1) := by decide +kernel
theorem dX0_payDues_0 : decode cX0_payDues 0 = .ok (.aload_n 0, 1) := by decide +kernel
theorem dX0_payDues_1 : decode cX0_payDues 1 = .ok (.getfield 24, 3) := by decide +kernel
theorem dX0_payDues_4 : decode cX0_payDues 4 = .ok (.iload_n 1, 1) := by decide +kernel
theorem dX0_payDues_5 : decode cX0_payDues 5 = .ok (.if_icmp .ge 20, 3) := by decide +kernel
theorem dX0_payDues_8 : decode cX0_payDues 8 = .ok (.aload_n 0, 1) := by decide +kernel
theorem dX0_payDues_9 : decode cX0_payDues 9 = .ok (.bipush 9, 2) := by decide +kernel
theorem dX0_payDues_11 : decode cX0_payDues 11 = .ok (.aload_n 0, 1) := by decide +kernel
theorem dX0_payDues_12 : decode cX0_payDues 12 = .ok (.getfield 30, 3) := by decide +kernel
theorem dX0_payDues_15 : decode cX0_payDues 15 = .ok (.iconst 1, 1) := by decide +kernel
theorem dX0_payDues_16 : decode cX0_payDues 16 = .ok (.iadd, 1) := by decide +kernel
theorem dX0_payDues_17 : decode cX0_payDues 17 = .ok (.invokestatic 43, 3) := by decide +kernel
theorem dX0_payDues_20 : decode cX0_payDues 20 = .ok (.putfield 30, 3) := by decide +kernel
theorem dX0_payDues_23 : decode cX0_payDues 23 = .ok (.iconst 0, 1) := by decide +kernel
theorem dX0_payDues_24 : decode cX0_payDues 24 = .ok (.ireturn, 1) := by decide +kernel
theorem dX0_payDues_25 : decode cX0_payDues 25 = .ok (.aload_n 0, 1) := by decide +kernel
theorem dX0_payDues_26 : decode cX0_payDues 26 = .ok (.dup, 1) := by decide +kernel
theorem dX0_payDues_27 : decode cX0_payDues 27 = .ok (.getfield 24, 3) := by decide +kernel
theorem dX0_payDues_30 : decode cX0_payDues 30 = .ok (.iload_n 1, 1) := by decide +kernel
theorem dX0_payDues_31 : decode cX0_payDues 31 = .ok (.isub, 1) := by decide +kernel
theorem dX0_payDues_32 : decode cX0_payDues 32 = .ok (.putfield 24, 3) := by decide +kernel
theorem dX0_payDues_35 : decode cX0_payDues 35 = .ok (.aload_n 0, 1) := by decide +kernel
theorem dX0_payDues_36 : decode cX0_payDues 36 = .ok (.iconst 0, 1) := by decide +kernel
theorem dX0_payDues_37 : decode cX0_payDues 37 = .ok (.putfield 30, 3) := by decide +kernel
theorem dX0_payDues_40 : decode cX0_payDues 40 = .ok (.iload_n 1, 1) := by decide +kernel
theorem dX0_payDues_41 : decode cX0_payDues 41 = .ok (.ireturn, 1) := by decide +kernel
set_option maxRecDepth 20000 in
theorem ggX0_spendClubNight_X0_payMarks : GoodIn wsX0_spendClubNight wsX0_payMarks := goodIn_r _ [12, 1, 2, 4, 5, 6, 7, 13, 14, 15, 16, 17, 18, 19, 20, 21, 22] (by decide +kernel) (by decide +kernel)
set_option maxRecDepth 20000 in
theorem gX0_spendClubNight_X0_payMarks : GoodIn wsX0_spendClubNight (wsV RX0 49 RX0 yX0_payMarks wsX0_payMarks) := goodIn_app (goodIn_of _ (by decide +kernel)) ggX0_spendClubNight_X0_payMarks
theorem dX0_spendClubNight_0 : decode cX0_spendClubNight 0 = .ok (.aload_n 0, 1) := by decide +kernel
theorem dX0_spendClubNight_1 : decode cX0_spendClubNight 1 = .ok (.getfield 27, 3) := by decide +kernel
theorem dX0_spendClubNight_4 : decode cX0_spendClubNight 4 = .ok (.bipush 12, 2) := by decide +kernel
theorem dX0_spendClubNight_6 : decode cX0_spendClubNight 6 = .ok (.if_icmp .ge 21, 3) := by decide +kernel
theorem dX0_spendClubNight_9 : decode cX0_spendClubNight 9 = .ok (.aload_n 0, 1) := by decide +kernel
theorem dX0_spendClubNight_10 : decode cX0_spendClubNight 10 = .ok (.dup, 1) := by decide +kernel
theorem dX0_spendClubNight_11 : decode cX0_spendClubNight 11 = .ok (.getfield 27, 3) := by decide +kernel
theorem dX0_spendClubNight_14 : decode cX0_spendClubNight 14 = .ok (.iconst 1, 1) := by decide +kernel
theorem dX0_spendClubNight_15 : decode cX0_spendClubNight 15 = .ok (.aload_n 0, 1) := by decide +kernel
theorem dX0_spendClubNight_16 : decode cX0_spendClubNight 16 = .ok (.getfield 24, 3) := by decide +kernel
theorem dX0_spendClubNight_19 : decode cX0_spendClubNight 19 = .ok (.bipush 8, 2) := by decide +kernel
theorem dX0_spendClubNight_21 : decode cX0_spendClubNight 21 = .ok (.idiv, 1) := by decide +kernel
theorem dX0_spendClubNight_22 : decode cX0_spendClubNight 22 = .ok (.iadd, 1) := by decide +kernel
theorem dX0_spendClubNight_23 : decode cX0_spendClubNight 23 = .ok (.iadd, 1) := by decide +kernel
theorem dX0_spendClubNight_24 : decode cX0_spendClubNight 24 = .ok (.putfield 27, 3) := by decide +kernel
theorem dX0_spendClubNight_27 : decode cX0_spendClubNight 27 = .ok (.aload_n 0, 1) := by decide +kernel
theorem dX0_spendClubNight_28 : decode cX0_spendClubNight 28 = .ok (.invokevirtual 49, 3) := by decide +kernel
theorem dX0_spendClubNight_31 : decode cX0_spendClubNight 31 = .ok (.istore_n 1, 1) := by decide +kernel
theorem dX0_spendClubNight_32 : decode cX0_spendClubNight 32 = .ok (.aload_n 0, 1) := by decide +kernel
theorem dX0_spendClubNight_33 : decode cX0_spendClubNight 33 = .ok (.bipush 20, 2) := by decide +kernel
theorem dX0_spendClubNight_35 : decode cX0_spendClubNight 35 = .ok (.aload_n 0, 1) := by decide +kernel
theorem dX0_spendClubNight_36 : decode cX0_spendClubNight 36 = .ok (.getfield 21, 3) := by decide +kernel
theorem dX0_spendClubNight_39 : decode cX0_spendClubNight 39 = .ok (.iconst 1, 1) := by decide +kernel
theorem dX0_spendClubNight_40 : decode cX0_spendClubNight 40 = .ok (.iadd, 1) := by decide +kernel
theorem dX0_spendClubNight_41 : decode cX0_spendClubNight 41 = .ok (.invokestatic 43, 3) := by decide +kernel
theorem dX0_spendClubNight_44 : decode cX0_spendClubNight 44 = .ok (.putfield 21, 3) := by decide +kernel
theorem dX0_spendClubNight_47 : decode cX0_spendClubNight 47 = .ok (.iload_n 1, 1) := by decide +kernel
theorem dX0_spendClubNight_48 : decode cX0_spendClubNight 48 = .ok (.ireturn, 1) := by decide +kernel
theorem dX0_fact_0 : decode cX0_fact 0 = .ok (.iload_n 1, 1) := by decide +kernel
theorem dX0_fact_1 : decode cX0_fact 1 = .ok (.tableswitch 87 0 7 #[47, 52, 57, 62, 67, 72, 77, 82], 47) := by decide +kernel
theorem dX0_fact_48 : decode cX0_fact 48 = .ok (.aload_n 0, 1) := by decide +kernel
theorem dX0_fact_49 : decode cX0_fact 49 = .ok (.getfield 18, 3) := by decide +kernel
theorem dX0_fact_52 : decode cX0_fact 52 = .ok (.ireturn, 1) := by decide +kernel
theorem dX0_fact_53 : decode cX0_fact 53 = .ok (.aload_n 0, 1) := by decide +kernel
theorem dX0_fact_54 : decode cX0_fact 54 = .ok (.getfield 21, 3) := by decide +kernel
theorem dX0_fact_57 : decode cX0_fact 57 = .ok (.ireturn, 1) := by decide +kernel
theorem dX0_fact_58 : decode cX0_fact 58 = .ok (.aload_n 0, 1) := by decide +kernel
theorem dX0_fact_59 : decode cX0_fact 59 = .ok (.getfield 24, 3) := by decide +kernel
theorem dX0_fact_62 : decode cX0_fact 62 = .ok (.ireturn, 1) := by decide +kernel
theorem dX0_fact_63 : decode cX0_fact 63 = .ok (.aload_n 0, 1) := by decide +kernel
theorem dX0_fact_64 : decode cX0_fact 64 = .ok (.getfield 27, 3) := by decide +kernel
theorem dX0_fact_67 : decode cX0_fact 67 = .ok (.ireturn, 1) := by decide +kernel
theorem dX0_fact_68 : decode cX0_fact 68 = .ok (.aload_n 0, 1) := by decide +kernel
theorem dX0_fact_69 : decode cX0_fact 69 = .ok (.getfield 30, 3) := by decide +kernel
theorem dX0_fact_72 : decode cX0_fact 72 = .ok (.ireturn, 1) := by decide +kernel
theorem dX0_fact_73 : decode cX0_fact 73 = .ok (.aload_n 0, 1) := by decide +kernel
theorem dX0_fact_74 : decode cX0_fact 74 = .ok (.getfield 9, 3) := by decide +kernel
theorem dX0_fact_77 : decode cX0_fact 77 = .ok (.ireturn, 1) := by decide +kernel
theorem dX0_fact_78 : decode cX0_fact 78 = .ok (.aload_n 0, 1) := by decide +kernel
theorem dX0_fact_79 : decode cX0_fact 79 = .ok (.getfield 15, 3) := by decide +kernel
theorem dX0_fact_82 : decode cX0_fact 82 = .ok (.ireturn, 1) := by decide +kernel
theorem dX0_fact_83 : decode cX0_fact 83 = .ok (.aload_n 0, 1) := by decide +kernel
theorem dX0_fact_84 : decode cX0_fact 84 = .ok (.getfield 33, 3) := by decide +kernel
theorem dX0_fact_87 : decode cX0_fact 87 = .ok (.ireturn, 1) := by decide +kernel
theorem dX0_fact_88 : decode cX0_fact 88 = .ok (.aload_n 0, 1) := by decide +kernel
theorem dX0_fact_89 : decode cX0_fact 89 = .ok (.getfield 36, 3) := by decide +kernel
theorem dX0_fact_92 : decode cX0_fact 92 = .ok (.ireturn, 1) := by decide +kernel
set_option maxRecDepth 20000 in
theorem ggX1_init_X0_init : GoodIn wsX1_init wsX0_init := goodIn_r _ [18, 19, 2, 3, 20, 21, 36, 37, 38, 39, 40, 41, 42, 43, 44, 45] (by decide +kernel) (by decide +kernel)
set_option maxRecDepth 20000 in
theorem gX1_init_X0_init : GoodIn wsX1_init (wsX0_init) := ggX1_init_X0_init
theorem dX1_init_0 : decode cX1_init 0 = .ok (.aload_n 0, 1) := by decide +kernel
theorem dX1_init_1 : decode cX1_init 1 = .ok (.invokespecial 3, 3) := by decide +kernel
theorem dX1_init_4 : decode cX1_init 4 = .ok (.aload_n 0, 1) := by decide +kernel
theorem dX1_init_5 : decode cX1_init 5 = .ok (.bipush 60, 2) := by decide +kernel
theorem dX1_init_7 : decode cX1_init 7 = .ok (.putfield 9, 3) := by decide +kernel
theorem dX1_init_10 : decode cX1_init 10 = .ok (.aload_n 0, 1) := by decide +kernel
theorem dX1_init_11 : decode cX1_init 11 = .ok (.bipush 30, 2) := by decide +kernel
theorem dX1_init_13 : decode cX1_init 13 = .ok (.putfield 15, 3) := by decide +kernel
theorem dX1_init_16 : decode cX1_init 16 = .ok (.aload_n 0, 1) := by decide +kernel
theorem dX1_init_17 : decode cX1_init 17 = .ok (.sipush 200, 3) := by decide +kernel
theorem dX1_init_20 : decode cX1_init 20 = .ok (.putfield 18, 3) := by decide +kernel
theorem dX1_init_23 : decode cX1_init 23 = .ok (.aload_n 0, 1) := by decide +kernel
theorem dX1_init_24 : decode cX1_init 24 = .ok (.iconst 1, 1) := by decide +kernel
theorem dX1_init_25 : decode cX1_init 25 = .ok (.putfield 21, 3) := by decide +kernel
theorem dX1_init_28 : decode cX1_init 28 = .ok (.aload_n 0, 1) := by decide +kernel
theorem dX1_init_29 : decode cX1_init 29 = .ok (.bipush 8, 2) := by decide +kernel
theorem dX1_init_31 : decode cX1_init 31 = .ok (.newarray .int, 2) := by decide +kernel
theorem dX1_init_33 : decode cX1_init 33 = .ok (.putfield 24, 3) := by decide +kernel
theorem dX1_init_36 : decode cX1_init 36 = .ok (.iconst 0, 1) := by decide +kernel
theorem dX1_init_37 : decode cX1_init 37 = .ok (.istore_n 1, 1) := by decide +kernel
theorem dX1_init_38 : decode cX1_init 38 = .ok (.iload_n 1, 1) := by decide +kernel
theorem dX1_init_39 : decode cX1_init 39 = .ok (.aload_n 0, 1) := by decide +kernel
theorem dX1_init_40 : decode cX1_init 40 = .ok (.getfield 24, 3) := by decide +kernel
theorem dX1_init_43 : decode cX1_init 43 = .ok (.arraylength, 1) := by decide +kernel
theorem dX1_init_44 : decode cX1_init 44 = .ok (.if_icmp .ge 16, 3) := by decide +kernel
theorem dX1_init_47 : decode cX1_init 47 = .ok (.aload_n 0, 1) := by decide +kernel
theorem dX1_init_48 : decode cX1_init 48 = .ok (.getfield 24, 3) := by decide +kernel
theorem dX1_init_51 : decode cX1_init 51 = .ok (.iload_n 1, 1) := by decide +kernel
theorem dX1_init_52 : decode cX1_init 52 = .ok (.iconst (-1), 1) := by decide +kernel
theorem dX1_init_53 : decode cX1_init 53 = .ok (.iastore, 1) := by decide +kernel
theorem dX1_init_54 : decode cX1_init 54 = .ok (.iinc 1 1, 3) := by decide +kernel
theorem dX1_init_57 : decode cX1_init 57 = .ok (.goto (-19), 3) := by decide +kernel
theorem dX1_init_60 : decode cX1_init 60 = .ok (.aload_n 0, 1) := by decide +kernel
theorem dX1_init_61 : decode cX1_init 61 = .ok (.iconst 3, 1) := by decide +kernel
theorem dX1_init_62 : decode cX1_init 62 = .ok (.newarray .int, 2) := by decide +kernel
theorem dX1_init_64 : decode cX1_init 64 = .ok (.putfield 28, 3) := by decide +kernel
theorem dX1_init_67 : decode cX1_init 67 = .ok (.aload_n 0, 1) := by decide +kernel
theorem dX1_init_68 : decode cX1_init 68 = .ok (.iconst 3, 1) := by decide +kernel
theorem dX1_init_69 : decode cX1_init 69 = .ok (.newarray .int, 2) := by decide +kernel
theorem dX1_init_71 : decode cX1_init 71 = .ok (.putfield 31, 3) := by decide +kernel
theorem dX1_init_74 : decode cX1_init 74 = .ok (.aload_n 0, 1) := by decide +kernel
theorem dX1_init_75 : decode cX1_init 75 = .ok (.bipush 12, 2) := by decide +kernel
theorem dX1_init_77 : decode cX1_init 77 = .ok (.anewarray 34, 3) := by decide +kernel
theorem dX1_init_80 : decode cX1_init 80 = .ok (.putfield 36, 3) := by decide +kernel
theorem dX1_init_83 : decode cX1_init 83 = .ok (.iconst 0, 1) := by decide +kernel
theorem dX1_init_84 : decode cX1_init 84 = .ok (.istore_n 1, 1) := by decide +kernel
theorem dX1_init_85 : decode cX1_init 85 = .ok (.iload_n 1, 1) := by decide +kernel
theorem dX1_init_86 : decode cX1_init 86 = .ok (.aload_n 0, 1) := by decide +kernel
theorem dX1_init_87 : decode cX1_init 87 = .ok (.getfield 36, 3) := by decide +kernel
theorem dX1_init_90 : decode cX1_init 90 = .ok (.arraylength, 1) := by decide +kernel
theorem dX1_init_91 : decode cX1_init 91 = .ok (.if_icmp .ge 22, 3) := by decide +kernel
theorem dX1_init_94 : decode cX1_init 94 = .ok (.aload_n 0, 1) := by decide +kernel
theorem dX1_init_95 : decode cX1_init 95 = .ok (.getfield 36, 3) := by decide +kernel
theorem dX1_init_98 : decode cX1_init 98 = .ok (.iload_n 1, 1) := by decide +kernel
theorem dX1_init_99 : decode cX1_init 99 = .ok (.new 34, 3) := by decide +kernel
theorem dX1_init_102 : decode cX1_init 102 = .ok (.dup, 1) := by decide +kernel
theorem dX1_init_103 : decode cX1_init 103 = .ok (.invokespecial 40, 3) := by decide +kernel
theorem dX1_init_106 : decode cX1_init 106 = .ok (.aastore, 1) := by decide +kernel
theorem dX1_init_107 : decode cX1_init 107 = .ok (.iinc 1 1, 3) := by decide +kernel
theorem dX1_init_110 : decode cX1_init 110 = .ok (.goto (-25), 3) := by decide +kernel
theorem dX1_init_113 : decode cX1_init 113 = .ok (.return_, 1) := by decide +kernel
set_option maxRecDepth 20000 in
theorem ggX1_copyFrom_X0_copyFrom : GoodIn wsX1_copyFrom wsX0_copyFrom := goodIn_r _ [17, 18, 19, 20, 21, 22, 23, 24, 25, 26, 27, 42, 43, 44, 45, 46, 47, 48, 49, 50, 51] (by decide +kernel) (by decide +kernel)
set_option maxRecDepth 20000 in
theorem gX1_copyFrom_X0_copyFrom : GoodIn wsX1_copyFrom (wsV RX1 56 RX0 yX0_copyFrom wsX0_copyFrom) := goodIn_app (goodIn_of _ (by decide +kernel)) ggX1_copyFrom_X0_copyFrom
theorem dX1_copyFrom_0 : decode cX1_copyFrom 0 = .ok (.aload_n 0, 1) := by decide +kernel
theorem dX1_copyFrom_1 : decode cX1_copyFrom 1 = .ok (.aload_n 1, 1) := by decide +kernel
theorem dX1_copyFrom_2 : decode cX1_copyFrom 2 = .ok (.getfield 41, 3) := by decide +kernel
theorem dX1_copyFrom_5 : decode cX1_copyFrom 5 = .ok (.putfield 41, 3) := by decide +kernel
theorem dX1_copyFrom_8 : decode cX1_copyFrom 8 = .ok (.aload_n 0, 1) := by decide +kernel
theorem dX1_copyFrom_9 : decode cX1_copyFrom 9 = .ok (.aload_n 1, 1) := by decide +kernel
theorem dX1_copyFrom_10 : decode cX1_copyFrom 10 = .ok (.getfield 44, 3) := by decide +kernel
theorem dX1_copyFrom_13 : decode cX1_copyFrom 13 = .ok (.putfield 44, 3) := by decide +kernel
theorem dX1_copyFrom_16 : decode cX1_copyFrom 16 = .ok (.aload_n 0, 1) := by decide +kernel
theorem dX1_copyFrom_17 : decode cX1_copyFrom 17 = .ok (.aload_n 1, 1) := by decide +kernel
theorem dX1_copyFrom_18 : decode cX1_copyFrom 18 = .ok (.getfield 9, 3) := by decide +kernel
theorem dX1_copyFrom_21 : decode cX1_copyFrom 21 = .ok (.putfield 9, 3) := by decide +kernel
theorem dX1_copyFrom_24 : decode cX1_copyFrom 24 = .ok (.aload_n 0, 1) := by decide +kernel
theorem dX1_copyFrom_25 : decode cX1_copyFrom 25 = .ok (.aload_n 1, 1) := by decide +kernel
theorem dX1_copyFrom_26 : decode cX1_copyFrom 26 = .ok (.getfield 15, 3) := by decide +kernel
theorem dX1_copyFrom_29 : decode cX1_copyFrom 29 = .ok (.putfield 15, 3) := by decide +kernel
theorem dX1_copyFrom_32 : decode cX1_copyFrom 32 = .ok (.aload_n 0, 1) := by decide +kernel
theorem dX1_copyFrom_33 : decode cX1_copyFrom 33 = .ok (.aload_n 1, 1) := by decide +kernel
theorem dX1_copyFrom_34 : decode cX1_copyFrom 34 = .ok (.getfield 18, 3) := by decide +kernel
theorem dX1_copyFrom_37 : decode cX1_copyFrom 37 = .ok (.putfield 18, 3) := by decide +kernel
theorem dX1_copyFrom_40 : decode cX1_copyFrom 40 = .ok (.aload_n 0, 1) := by decide +kernel
theorem dX1_copyFrom_41 : decode cX1_copyFrom 41 = .ok (.aload_n 1, 1) := by decide +kernel
theorem dX1_copyFrom_42 : decode cX1_copyFrom 42 = .ok (.getfield 47, 3) := by decide +kernel
theorem dX1_copyFrom_45 : decode cX1_copyFrom 45 = .ok (.putfield 47, 3) := by decide +kernel
theorem dX1_copyFrom_48 : decode cX1_copyFrom 48 = .ok (.aload_n 0, 1) := by decide +kernel
theorem dX1_copyFrom_49 : decode cX1_copyFrom 49 = .ok (.aload_n 1, 1) := by decide +kernel
theorem dX1_copyFrom_50 : decode cX1_copyFrom 50 = .ok (.getfield 21, 3) := by decide +kernel
theorem dX1_copyFrom_53 : decode cX1_copyFrom 53 = .ok (.putfield 21, 3) := by decide +kernel
theorem dX1_copyFrom_56 : decode cX1_copyFrom 56 = .ok (.aload_n 0, 1) := by decide +kernel
theorem dX1_copyFrom_57 : decode cX1_copyFrom 57 = .ok (.aload_n 1, 1) := by decide +kernel
theorem dX1_copyFrom_58 : decode cX1_copyFrom 58 = .ok (.getfield 50, 3) := by decide +kernel
theorem dX1_copyFrom_61 : decode cX1_copyFrom 61 = .ok (.putfield 50, 3) := by decide +kernel
theorem dX1_copyFrom_64 : decode cX1_copyFrom 64 = .ok (.aload_n 0, 1) := by decide +kernel
theorem dX1_copyFrom_65 : decode cX1_copyFrom 65 = .ok (.aload_n 1, 1) := by decide +kernel
theorem dX1_copyFrom_66 : decode cX1_copyFrom 66 = .ok (.getfield 53, 3) := by decide +kernel
theorem dX1_copyFrom_69 : decode cX1_copyFrom 69 = .ok (.putfield 53, 3) := by decide +kernel
theorem dX1_copyFrom_72 : decode cX1_copyFrom 72 = .ok (.iconst 0, 1) := by decide +kernel
theorem dX1_copyFrom_73 : decode cX1_copyFrom 73 = .ok (.istore_n 2, 1) := by decide +kernel
theorem dX1_copyFrom_74 : decode cX1_copyFrom 74 = .ok (.iload_n 2, 1) := by decide +kernel
theorem dX1_copyFrom_75 : decode cX1_copyFrom 75 = .ok (.bipush 8, 2) := by decide +kernel
theorem dX1_copyFrom_77 : decode cX1_copyFrom 77 = .ok (.if_icmp .ge 21, 3) := by decide +kernel
theorem dX1_copyFrom_80 : decode cX1_copyFrom 80 = .ok (.aload_n 0, 1) := by decide +kernel
theorem dX1_copyFrom_81 : decode cX1_copyFrom 81 = .ok (.getfield 24, 3) := by decide +kernel
theorem dX1_copyFrom_84 : decode cX1_copyFrom 84 = .ok (.iload_n 2, 1) := by decide +kernel
theorem dX1_copyFrom_85 : decode cX1_copyFrom 85 = .ok (.aload_n 1, 1) := by decide +kernel
theorem dX1_copyFrom_86 : decode cX1_copyFrom 86 = .ok (.getfield 24, 3) := by decide +kernel
theorem dX1_copyFrom_89 : decode cX1_copyFrom 89 = .ok (.iload_n 2, 1) := by decide +kernel
theorem dX1_copyFrom_90 : decode cX1_copyFrom 90 = .ok (.iaload, 1) := by decide +kernel
theorem dX1_copyFrom_91 : decode cX1_copyFrom 91 = .ok (.iastore, 1) := by decide +kernel
theorem dX1_copyFrom_92 : decode cX1_copyFrom 92 = .ok (.iinc 2 1, 3) := by decide +kernel
theorem dX1_copyFrom_95 : decode cX1_copyFrom 95 = .ok (.goto (-21), 3) := by decide +kernel
theorem dX1_copyFrom_98 : decode cX1_copyFrom 98 = .ok (.iconst 0, 1) := by decide +kernel
theorem dX1_copyFrom_99 : decode cX1_copyFrom 99 = .ok (.istore_n 2, 1) := by decide +kernel
theorem dX1_copyFrom_100 : decode cX1_copyFrom 100 = .ok (.iload_n 2, 1) := by decide +kernel
theorem dX1_copyFrom_101 : decode cX1_copyFrom 101 = .ok (.iconst 3, 1) := by decide +kernel
theorem dX1_copyFrom_102 : decode cX1_copyFrom 102 = .ok (.if_icmp .ge 21, 3) := by decide +kernel
theorem dX1_copyFrom_105 : decode cX1_copyFrom 105 = .ok (.aload_n 0, 1) := by decide +kernel
theorem dX1_copyFrom_106 : decode cX1_copyFrom 106 = .ok (.getfield 28, 3) := by decide +kernel
theorem dX1_copyFrom_109 : decode cX1_copyFrom 109 = .ok (.iload_n 2, 1) := by decide +kernel
theorem dX1_copyFrom_110 : decode cX1_copyFrom 110 = .ok (.aload_n 1, 1) := by decide +kernel