theorem nD_X5_init_0 : decode nC_X5_init 0 = .ok (.aload_n 0, 1) := by decide +kernel
theorem nD_X5_init_1 : decode nC_X5_init 1 = .ok (.invokespecial 1, 3) := by decide +kernel
theorem nD_X5_init_4 : decode nC_X5_init 4 = .ok (.aload_n 0, 1) := by decide +kernel
theorem nD_X5_init_5 : decode nC_X5_init 5 = .ok (.new 7, 3) := by decide +kernel
theorem nD_X5_init_8 : decode nC_X5_init 8 = .ok (.dup, 1) := by decide +kernel
theorem nD_X5_init_9 : decode nC_X5_init 9 = .ok (.invokespecial 9, 3) := by decide +kernel
theorem nD_X5_init_12 : decode nC_X5_init 12 = .ok (.putfield 10, 3) := by decide +kernel
theorem nD_X5_init_15 : decode nC_X5_init 15 = .ok (.aload_n 0, 1) := by decide +kernel
theorem nD_X5_init_16 : decode nC_X5_init 16 = .ok (.bipush 8, 2) := by decide +kernel
theorem nD_X5_init_18 : decode nC_X5_init 18 = .ok (.anewarray 16, 3) := by decide +kernel
theorem nD_X5_init_21 : decode nC_X5_init 21 = .ok (.putfield 18, 3) := by decide +kernel
theorem nD_X5_init_24 : decode nC_X5_init 24 = .ok (.aload_n 0, 1) := by decide +kernel
theorem nD_X5_init_25 : decode nC_X5_init 25 = .ok (.iconst 3, 1) := by decide +kernel
theorem nD_X5_init_26 : decode nC_X5_init 26 = .ok (.newarray .int, 2) := by decide +kernel
theorem nD_X5_init_28 : decode nC_X5_init 28 = .ok (.putfield 22, 3) := by decide +kernel
theorem nD_X5_init_31 : decode nC_X5_init 31 = .ok (.aload_n 0, 1) := by decide +kernel
theorem nD_X5_init_32 : decode nC_X5_init 32 = .ok (.bipush 8, 2) := by decide +kernel
theorem nD_X5_init_34 : decode nC_X5_init 34 = .ok (.newarray .int, 2) := by decide +kernel
theorem nD_X5_init_36 : decode nC_X5_init 36 = .ok (.putfield 26, 3) := by decide +kernel
theorem nD_X5_init_39 : decode nC_X5_init 39 = .ok (.aload_n 0, 1) := by decide +kernel
theorem nD_X5_init_40 : decode nC_X5_init 40 = .ok (.new 29, 3) := by decide +kernel
theorem nD_X5_init_43 : decode nC_X5_init 43 = .ok (.dup, 1) := by decide +kernel
theorem nD_X5_init_44 : decode nC_X5_init 44 = .ok (.invokespecial 31, 3) := by decide +kernel
theorem nD_X5_init_47 : decode nC_X5_init 47 = .ok (.putfield 32, 3) := by decide +kernel
theorem nD_X5_init_50 : decode nC_X5_init 50 = .ok (.iconst 0, 1) := by decide +kernel
theorem nD_X5_init_51 : decode nC_X5_init 51 = .ok (.istore_n 3, 1) := by decide +kernel
theorem nD_X5_init_52 : decode nC_X5_init 52 = .ok (.iload_n 3, 1) := by decide +kernel
theorem nD_X5_init_53 : decode nC_X5_init 53 = .ok (.bipush 8, 2) := by decide +kernel
theorem nD_X5_init_55 : decode nC_X5_init 55 = .ok (.if_icmp .ge 22, 3) := by decide +kernel
theorem nD_X5_init_58 : decode nC_X5_init 58 = .ok (.aload_n 0, 1) := by decide +kernel
theorem nD_X5_init_59 : decode nC_X5_init 59 = .ok (.getfield 18, 3) := by decide +kernel
theorem nD_X5_init_62 : decode nC_X5_init 62 = .ok (.iload_n 3, 1) := by decide +kernel
theorem nD_X5_init_63 : decode nC_X5_init 63 = .ok (.new 16, 3) := by decide +kernel
theorem nD_X5_init_66 : decode nC_X5_init 66 = .ok (.dup, 1) := by decide +kernel
theorem nD_X5_init_67 : decode nC_X5_init 67 = .ok (.invokespecial 36, 3) := by decide +kernel
theorem nD_X5_init_70 : decode nC_X5_init 70 = .ok (.aastore, 1) := by decide +kernel
theorem nD_X5_init_71 : decode nC_X5_init 71 = .ok (.iinc 3 1, 3) := by decide +kernel
theorem nD_X5_init_74 : decode nC_X5_init 74 = .ok (.goto (-22), 3) := by decide +kernel
theorem nD_X5_init_77 : decode nC_X5_init 77 = .ok (.aload_n 0, 1) := by decide +kernel
theorem nD_X5_init_78 : decode nC_X5_init 78 = .ok (.iload_n 1, 1) := by decide +kernel
theorem nD_X5_init_79 : decode nC_X5_init 79 = .ok (.iload_n 2, 1) := by decide +kernel
theorem nD_X5_init_80 : decode nC_X5_init 80 = .ok (.invokevirtual 37, 3) := by decide +kernel
theorem nD_X5_init_83 : decode nC_X5_init 83 = .ok (.return_, 1) := by decide +kernel
theorem nD_X4_init_0 : decode nC_X4_init 0 = .ok (.aload_n 0, 1) := by decide +kernel
theorem nD_X4_init_1 : decode nC_X4_init 1 = .ok (.invokespecial 3, 3) := by decide +kernel
theorem nD_X4_init_4 : decode nC_X4_init 4 = .ok (.return_, 1) := by decide +kernel
theorem nD_X1_init_0 : decode nC_X1_init 0 = .ok (.aload_n 0, 1) := by decide +kernel
theorem nD_X1_init_1 : decode nC_X1_init 1 = .ok (.invokespecial 3, 3) := by decide +kernel
theorem nD_X1_init_4 : decode nC_X1_init 4 = .ok (.aload_n 0, 1) := by decide +kernel
theorem nD_X1_init_5 : decode nC_X1_init 5 = .ok (.new 9, 3) := by decide +kernel
theorem nD_X1_init_8 : decode nC_X1_init 8 = .ok (.dup, 1) := by decide +kernel
theorem nD_X1_init_9 : decode nC_X1_init 9 = .ok (.invokespecial 11, 3) := by decide +kernel
theorem nD_X1_init_12 : decode nC_X1_init 12 = .ok (.putfield 12, 3) := by decide +kernel
theorem nD_X1_init_15 : decode nC_X1_init 15 = .ok (.aload_n 0, 1) := by decide +kernel
theorem nD_X1_init_16 : decode nC_X1_init 16 = .ok (.iconst 3, 1) := by decide +kernel
theorem nD_X1_init_17 : decode nC_X1_init 17 = .ok (.newarray .int, 2) := by decide +kernel
theorem nD_X1_init_19 : decode nC_X1_init 19 = .ok (.putfield 18, 3) := by decide +kernel
theorem nD_X1_init_22 : decode nC_X1_init 22 = .ok (.aload_n 0, 1) := by decide +kernel
theorem nD_X1_init_23 : decode nC_X1_init 23 = .ok (.iconst 3, 1) := by decide +kernel
theorem nD_X1_init_24 : decode nC_X1_init 24 = .ok (.newarray .int, 2) := by decide +kernel
theorem nD_X1_init_26 : decode nC_X1_init 26 = .ok (.putfield 22, 3) := by decide +kernel
theorem nD_X1_init_29 : decode nC_X1_init 29 = .ok (.return_, 1) := by decide +kernel
theorem nD_X3_init_0 : decode nC_X3_init 0 = .ok (.aload_n 0, 1) := by decide +kernel
theorem nD_X3_init_1 : decode nC_X3_init 1 = .ok (.invokespecial 3, 3) := by decide +kernel
theorem nD_X3_init_4 : decode nC_X3_init 4 = .ok (.aload_n 0, 1) := by decide +kernel
theorem nD_X3_init_5 : decode nC_X3_init 5 = .ok (.sipush 680, 3) := by decide +kernel
theorem nD_X3_init_8 : decode nC_X3_init 8 = .ok (.newarray .long, 2) := by decide +kernel
theorem nD_X3_init_10 : decode nC_X3_init 10 = .ok (.putfield 11, 3) := by decide +kernel
theorem nD_X3_init_13 : decode nC_X3_init 13 = .ok (.aload_n 0, 1) := by decide +kernel
theorem nD_X3_init_14 : decode nC_X3_init 14 = .ok (.sipush 1024, 3) := by decide +kernel
theorem nD_X3_init_17 : decode nC_X3_init 17 = .ok (.newarray .int, 2) := by decide +kernel
theorem nD_X3_init_19 : decode nC_X3_init 19 = .ok (.putfield 15, 3) := by decide +kernel
theorem nD_X3_init_22 : decode nC_X3_init 22 = .ok (.return_, 1) := by decide +kernel
theorem nD_X0_init_0 : decode nC_X0_init 0 = .ok (.aload_n 0, 1) := by decide +kernel
theorem nD_X0_init_1 : decode nC_X0_init 1 = .ok (.invokespecial 1, 3) := by decide +kernel
theorem nD_X0_init_4 : decode nC_X0_init 4 = .ok (.return_, 1) := by decide +kernel
theorem nD_X5_startRecord_0 : decode nC_X5_startRecord 0 = .ok (.aload_n 0, 1) := by decide +kernel
theorem nD_X5_startRecord_1 : decode nC_X5_startRecord 1 = .ok (.getfield 10, 3) := by decide +kernel
theorem nD_X5_startRecord_4 : decode nC_X5_startRecord 4 = .ok (.iload_n 1, 1) := by decide +kernel
theorem nD_X5_startRecord_5 : decode nC_X5_startRecord 5 = .ok (.iload_n 2, 1) := by decide +kernel
theorem nD_X5_startRecord_6 : decode nC_X5_startRecord 6 = .ok (.invokevirtual 136, 3) := by decide +kernel
theorem nD_X5_startRecord_9 : decode nC_X5_startRecord 9 = .ok (.aload_n 0, 1) := by decide +kernel
theorem nD_X5_startRecord_10 : decode nC_X5_startRecord 10 = .ok (.getfield 22, 3) := by decide +kernel
theorem nD_X5_startRecord_13 : decode nC_X5_startRecord 13 = .ok (.iconst (-1), 1) := by decide +kernel
theorem nD_X5_startRecord_14 : decode nC_X5_startRecord 14 = .ok (.invokestatic 139, 3) := by decide +kernel
theorem nD_X5_startRecord_17 : decode nC_X5_startRecord 17 = .ok (.aload_n 0, 1) := by decide +kernel
theorem nD_X5_startRecord_18 : decode nC_X5_startRecord 18 = .ok (.iconst 0, 1) := by decide +kernel
theorem nD_X5_startRecord_19 : decode nC_X5_startRecord 19 = .ok (.putfield 51, 3) := by decide +kernel
theorem nD_X5_startRecord_22 : decode nC_X5_startRecord 22 = .ok (.aload_n 0, 1) := by decide +kernel
theorem nD_X5_startRecord_23 : decode nC_X5_startRecord 23 = .ok (.iconst 0, 1) := by decide +kernel
theorem nD_X5_startRecord_24 : decode nC_X5_startRecord 24 = .ok (.putfield 55, 3) := by decide +kernel
theorem nD_X5_startRecord_27 : decode nC_X5_startRecord 27 = .ok (.aload_n 0, 1) := by decide +kernel
theorem nD_X5_startRecord_28 : decode nC_X5_startRecord 28 = .ok (.iconst 0, 1) := by decide +kernel
theorem nD_X5_startRecord_29 : decode nC_X5_startRecord 29 = .ok (.putfield 82, 3) := by decide +kernel
theorem nD_X5_startRecord_32 : decode nC_X5_startRecord 32 = .ok (.aload_n 0, 1) := by decide +kernel
theorem nD_X5_startRecord_33 : decode nC_X5_startRecord 33 = .ok (.iconst 0, 1) := by decide +kernel
theorem nD_X5_startRecord_34 : decode nC_X5_startRecord 34 = .ok (.putfield 88, 3) := by decide +kernel
theorem nD_X5_startRecord_37 : decode nC_X5_startRecord 37 = .ok (.aload_n 0, 1) := by decide +kernel
theorem nD_X5_startRecord_38 : decode nC_X5_startRecord 38 = .ok (.iconst 0, 1) := by decide +kernel
theorem nD_X5_startRecord_39 : decode nC_X5_startRecord 39 = .ok (.putfield 94, 3) := by decide +kernel
theorem nD_X5_startRecord_42 : decode nC_X5_startRecord 42 = .ok (.aload_n 0, 1) := by decide +kernel
theorem nD_X5_startRecord_43 : decode nC_X5_startRecord 43 = .ok (.invokevirtual 66, 3) := by decide +kernel
theorem nD_X5_startRecord_46 : decode nC_X5_startRecord 46 = .ok (.return_, 1) := by decide +kernel
theorem nD_X4_setUp_0 : decode nC_X4_setUp 0 = .ok (.aload_n 0, 1) := by decide +kernel
theorem nD_X4_setUp_1 : decode nC_X4_setUp 1 = .ok (.iload_n 1, 1) := by decide +kernel
theorem nD_X4_setUp_2 : decode nC_X4_setUp 2 = .ok (.iconst 1, 1) := by decide +kernel
theorem nD_X4_setUp_3 : decode nC_X4_setUp 3 = .ok (.if_icmp .eq 8, 3) := by decide +kernel
theorem nD_X4_setUp_6 : decode nC_X4_setUp 6 = .ok (.iload_n 1, 1) := by decide +kernel
theorem nD_X4_setUp_7 : decode nC_X4_setUp 7 = .ok (.iconst 2, 1) := by decide +kernel
theorem nD_X4_setUp_8 : decode nC_X4_setUp 8 = .ok (.if_icmp .ne 7, 3) := by decide +kernel
theorem nD_X4_setUp_11 : decode nC_X4_setUp 11 = .ok (.iload_n 1, 1) := by decide +kernel
theorem nD_X4_setUp_12 : decode nC_X4_setUp 12 = .ok (.goto 4, 3) := by decide +kernel
theorem nD_X4_setUp_15 : decode nC_X4_setUp 15 = .ok (.iconst 0, 1) := by decide +kernel
theorem nD_X4_setUp_16 : decode nC_X4_setUp 16 = .ok (.putfield 11, 3) := by decide +kernel
theorem nD_X4_setUp_19 : decode nC_X4_setUp 19 = .ok (.aload_n 0, 1) := by decide +kernel
theorem nD_X4_setUp_20 : decode nC_X4_setUp 20 = .ok (.iconst 1, 1) := by decide +kernel
theorem nD_X4_setUp_21 : decode nC_X4_setUp 21 = .ok (.iload_n 2, 1) := by decide +kernel
theorem nD_X4_setUp_22 : decode nC_X4_setUp 22 = .ok (.bipush 8, 2) := by decide +kernel
theorem nD_X4_setUp_24 : decode nC_X4_setUp 24 = .ok (.invokestatic 15, 3) := by decide +kernel
theorem nD_X4_setUp_27 : decode nC_X4_setUp 27 = .ok (.invokestatic 21, 3) := by decide +kernel
theorem nD_X4_setUp_30 : decode nC_X4_setUp 30 = .ok (.putfield 24, 3) := by decide +kernel
theorem nD_X4_setUp_33 : decode nC_X4_setUp 33 = .ok (.return_, 1) := by decide +kernel
theorem nD_JM_min_0 : decode nC_JM_min 0 = .ok (.iload_n 0, 1) := by decide +kernel
theorem nD_JM_min_1 : decode nC_JM_min 1 = .ok (.iload_n 1, 1) := by decide +kernel
theorem nD_JM_min_2 : decode nC_JM_min 2 = .ok (.if_icmp .gt 7, 3) := by decide +kernel
theorem nD_JM_min_5 : decode nC_JM_min 5 = .ok (.iload_n 0, 1) := by decide +kernel
theorem nD_JM_min_6 : decode nC_JM_min 6 = .ok (.goto 4, 3) := by decide +kernel
theorem nD_JM_min_9 : decode nC_JM_min 9 = .ok (.iload_n 1, 1) := by decide +kernel
theorem nD_JM_min_10 : decode nC_JM_min 10 = .ok (.ireturn, 1) := by decide +kernel
theorem nD_JM_max_0 : decode nC_JM_max 0 = .ok (.iload_n 0, 1) := by decide +kernel
theorem nD_JM_max_1 : decode nC_JM_max 1 = .ok (.iload_n 1, 1) := by decide +kernel
theorem nD_JM_max_2 : decode nC_JM_max 2 = .ok (.if_icmp .lt 7, 3) := by decide +kernel
theorem nD_JM_max_5 : decode nC_JM_max 5 = .ok (.iload_n 0, 1) := by decide +kernel
theorem nD_JM_max_6 : decode nC_JM_max 6 = .ok (.goto 4, 3) := by decide +kernel
theorem nD_JM_max_9 : decode nC_JM_max 9 = .ok (.iload_n 1, 1) := by decide +kernel
theorem nD_JM_max_10 : decode nC_JM_max 10 = .ok (.ireturn, 1) := by decide +kernel
theorem nD_JA_fill_0 : decode nC_JA_fill 0 = .ok (.iconst 0, 1) := by decide +kernel
theorem nD_JA_fill_1 : decode nC_JA_fill 1 = .ok (.istore_n 2, 1) := by decide +kernel
theorem nD_JA_fill_2 : decode nC_JA_fill 2 = .ok (.aload_n 0, 1) := by decide +kernel
theorem nD_JA_fill_3 : decode nC_JA_fill 3 = .ok (.arraylength, 1) := by decide +kernel
theorem nD_JA_fill_4 : decode nC_JA_fill 4 = .ok (.istore_n 3, 1) := by decide +kernel
theorem nD_JA_fill_5 : decode nC_JA_fill 5 = .ok (.iload_n 2, 1) := by decide +kernel
theorem nD_JA_fill_6 : decode nC_JA_fill 6 = .ok (.iload_n 3, 1) := by decide +kernel
theorem nD_JA_fill_7 : decode nC_JA_fill 7 = .ok (.if_icmp .ge 13, 3) := by decide +kernel
theorem nD_JA_fill_10 : decode nC_JA_fill 10 = .ok (.aload_n 0, 1) := by decide +kernel
theorem nD_JA_fill_11 : decode nC_JA_fill 11 = .ok (.iload_n 2, 1) := by decide +kernel
theorem nD_JA_fill_12 : decode nC_JA_fill 12 = .ok (.iload_n 1, 1) := by decide +kernel
theorem nD_JA_fill_13 : decode nC_JA_fill 13 = .ok (.iastore, 1) := by decide +kernel
theorem nD_JA_fill_14 : decode nC_JA_fill 14 = .ok (.iinc 2 1, 3) := by decide +kernel
theorem nD_JA_fill_17 : decode nC_JA_fill 17 = .ok (.goto (-12), 3) := by decide +kernel
theorem nD_JA_fill_20 : decode nC_JA_fill 20 = .ok (.return_, 1) := by decide +kernel
theorem nD_X5_review_0 : decode nC_X5_review 0 = .ok (.aload_n 0, 1) := by decide +kernel
theorem nD_X5_review_1 : decode nC_X5_review 1 = .ok (.getfield 32, 3) := by decide +kernel
theorem nD_X5_review_4 : decode nC_X5_review 4 = .ok (.invokevirtual 148, 3) := by decide +kernel
theorem nD_X5_review_7 : decode nC_X5_review 7 = .ok (.aload_n 0, 1) := by decide +kernel
theorem nD_X5_review_8 : decode nC_X5_review 8 = .ok (.iconst 0, 1) := by decide +kernel
theorem nD_X5_review_9 : decode nC_X5_review 9 = .ok (.lconst 0, 1) := by decide +kernel
theorem nD_X5_review_10 : decode nC_X5_review 10 = .ok (.iconst 0, 1) := by decide +kernel
theorem nD_X5_review_11 : decode nC_X5_review 11 = .ok (.invokevirtual 153, 3) := by decide +kernel
theorem nD_X5_review_14 : decode nC_X5_review 14 = .ok (.aload_n 0, 1) := by decide +kernel
theorem nD_X5_review_15 : decode nC_X5_review 15 = .ok (.getfield 94, 3) := by decide +kernel
theorem nD_X5_review_18 : decode nC_X5_review 18 = .ok (.ifCond .ne 18, 3) := by decide +kernel
theorem nD_X5_review_21 : decode nC_X5_review 21 = .ok (.aload_n 0, 1) := by decide +kernel
theorem nD_X5_review_22 : decode nC_X5_review 22 = .ok (.invokevirtual 117, 3) := by decide +kernel
theorem nD_X5_review_25 : decode nC_X5_review 25 = .ok (.ifCond .ne 11, 3) := by decide +kernel
theorem nD_X5_review_28 : decode nC_X5_review 28 = .ok (.aload_n 0, 1) := by decide +kernel
theorem nD_X5_review_29 : decode nC_X5_review 29 = .ok (.aload_n 0, 1) := by decide +kernel
theorem nD_X5_review_30 : decode nC_X5_review 30 = .ok (.getfield 88, 3) := by decide +kernel
theorem nD_X5_review_33 : decode nC_X5_review 33 = .ok (.putfield 94, 3) := by decide +kernel
theorem nD_X5_review_36 : decode nC_X5_review 36 = .ok (.return_, 1) := by decide +kernel
theorem nD_X1_clear_0 : decode nC_X1_clear 0 = .ok (.aload_n 0, 1) := by decide +kernel
theorem nD_X1_clear_1 : decode nC_X1_clear 1 = .ok (.getfield 12, 3) := by decide +kernel
theorem nD_X1_clear_4 : decode nC_X1_clear 4 = .ok (.invokevirtual 25, 3) := by decide +kernel
theorem nD_X1_clear_7 : decode nC_X1_clear 7 = .ok (.aload_n 0, 1) := by decide +kernel
theorem nD_X1_clear_8 : decode nC_X1_clear 8 = .ok (.getfield 18, 3) := by decide +kernel
theorem nD_X1_clear_11 : decode nC_X1_clear 11 = .ok (.iconst 0, 1) := by decide +kernel
theorem nD_X1_clear_12 : decode nC_X1_clear 12 = .ok (.invokestatic 28, 3) := by decide +kernel
theorem nD_X1_clear_15 : decode nC_X1_clear 15 = .ok (.aload_n 0, 1) := by decide +kernel
theorem nD_X1_clear_16 : decode nC_X1_clear 16 = .ok (.getfield 22, 3) := by decide +kernel
theorem nD_X1_clear_19 : decode nC_X1_clear 19 = .ok (.iconst 0, 1) := by decide +kernel
theorem nD_X1_clear_20 : decode nC_X1_clear 20 = .ok (.invokestatic 28, 3) := by decide +kernel
theorem nD_X1_clear_23 : decode nC_X1_clear 23 = .ok (.aload_n 0, 1) := by decide +kernel
theorem nD_X1_clear_24 : decode nC_X1_clear 24 = .ok (.iconst 0, 1) := by decide +kernel
theorem nD_X1_clear_25 : decode nC_X1_clear 25 = .ok (.putfield 34, 3) := by decide +kernel
theorem nD_X1_clear_28 : decode nC_X1_clear 28 = .ok (.return_, 1) := by decide +kernel
theorem nD_X3_clear_0 : decode nC_X3_clear 0 = .ok (.aload_n 0, 1) := by decide +kernel
theorem nD_X3_clear_1 : decode nC_X3_clear 1 = .ok (.getfield 15, 3) := by decide +kernel
theorem nD_X3_clear_4 : decode nC_X3_clear 4 = .ok (.iconst 0, 1) := by decide +kernel
theorem nD_X3_clear_5 : decode nC_X3_clear 5 = .ok (.invokestatic 19, 3) := by decide +kernel
theorem nD_X3_clear_8 : decode nC_X3_clear 8 = .ok (.aload_n 0, 1) := by decide +kernel
theorem nD_X3_clear_9 : decode nC_X3_clear 9 = .ok (.iconst 0, 1) := by decide +kernel
theorem nD_X3_clear_10 : decode nC_X3_clear 10 = .ok (.putfield 25, 3) := by decide +kernel
theorem nD_X3_clear_13 : decode nC_X3_clear 13 = .ok (.return_, 1) := by decide +kernel
theorem nD_X5_lengthenList_0 : decode nC_X5_lengthenList 0 = .ok (.aload_n 0, 1) := by decide +kernel
theorem nD_X5_lengthenList_1 : decode nC_X5_lengthenList 1 = .ok (.getfield 55, 3) := by decide +kernel
theorem nD_X5_lengthenList_4 : decode nC_X5_lengthenList 4 = .ok (.iload_n 1, 1) := by decide +kernel
theorem nD_X5_lengthenList_5 : decode nC_X5_lengthenList 5 = .ok (.iconst (-1), 1) := by decide +kernel
theorem nD_X5_lengthenList_6 : decode nC_X5_lengthenList 6 = .ok (.ixor, 1) := by decide +kernel
theorem nD_X5_lengthenList_7 : decode nC_X5_lengthenList 7 = .ok (.iand, 1) := by decide +kernel
theorem nD_X5_lengthenList_8 : decode nC_X5_lengthenList 8 = .ok (.ifCond .ne 9, 3) := by decide +kernel
theorem nD_X5_lengthenList_11 : decode nC_X5_lengthenList 11 = .ok (.aload_n 0, 1) := by decide +kernel
theorem nD_X5_lengthenList_12 : decode nC_X5_lengthenList 12 = .ok (.iload_n 1, 1) := by decide +kernel
theorem nD_X5_lengthenList_13 : decode nC_X5_lengthenList 13 = .ok (.lload_n 2, 1) := by decide +kernel
theorem nD_X5_lengthenList_14 : decode nC_X5_lengthenList 14 = .ok (.invokevirtual 157, 3) := by decide +kernel
theorem nD_X5_lengthenList_17 : decode nC_X5_lengthenList 17 = .ok (.iload 4, 2) := by decide +kernel
theorem nD_X5_lengthenList_19 : decode nC_X5_lengthenList 19 = .ok (.bipush 8, 2) := by decide +kernel
theorem nD_X5_lengthenList_21 : decode nC_X5_lengthenList 21 = .ok (.if_icmp .lt 4, 3) := by decide +kernel
theorem nD_X5_lengthenList_24 : decode nC_X5_lengthenList 24 = .ok (.return_, 1) := by decide +kernel
theorem nD_X5_lengthenList_25 : decode nC_X5_lengthenList 25 = .ok (.iconst 0, 1) := by decide +kernel
theorem nD_X5_lengthenList_26 : decode nC_X5_lengthenList 26 = .ok (.istore 5, 2) := by decide +kernel
theorem nD_X5_lengthenList_28 : decode nC_X5_lengthenList 28 = .ok (.iload 5, 2) := by decide +kernel
theorem nD_X5_lengthenList_30 : decode nC_X5_lengthenList 30 = .ok (.aload_n 0, 1) := by decide +kernel
theorem nD_X5_lengthenList_31 : decode nC_X5_lengthenList 31 = .ok (.getfield 51, 3) := by decide +kernel
theorem nD_X5_lengthenList_34 : decode nC_X5_lengthenList 34 = .ok (.if_icmp .ge 29, 3) := by decide +kernel
theorem nD_X5_lengthenList_37 : decode nC_X5_lengthenList 37 = .ok (.aload_n 0, 1) := by decide +kernel
theorem nD_X5_lengthenList_38 : decode nC_X5_lengthenList 38 = .ok (.iload 5, 2) := by decide +kernel
theorem nD_X5_lengthenList_40 : decode nC_X5_lengthenList 40 = .ok (.iload_n 1, 1) := by decide +kernel
theorem nD_X5_lengthenList_41 : decode nC_X5_lengthenList 41 = .ok (.invokevirtual 161, 3) := by decide +kernel
theorem nD_X5_lengthenList_44 : decode nC_X5_lengthenList 44 = .ok (.ifCond .eq 13, 3) := by decide +kernel
theorem nD_X5_lengthenList_47 : decode nC_X5_lengthenList 47 = .ok (.aload_n 0, 1) := by decide +kernel
theorem nD_X5_lengthenList_48 : decode nC_X5_lengthenList 48 = .ok (.iload 5, 2) := by decide +kernel
theorem nD_X5_lengthenList_50 : decode nC_X5_lengthenList 50 = .ok (.iload_n 1, 1) := by decide +kernel
theorem nD_X5_lengthenList_51 : decode nC_X5_lengthenList 51 = .ok (.lload_n 2, 1) := by decide +kernel
theorem nD_X5_lengthenList_52 : decode nC_X5_lengthenList 52 = .ok (.iload 4, 2) := by decide +kernel
theorem nD_X5_lengthenList_54 : decode nC_X5_lengthenList 54 = .ok (.invokevirtual 164, 3) := by decide +kernel
theorem nD_X5_lengthenList_57 : decode nC_X5_lengthenList 57 = .ok (.iinc 5 1, 3) := by decide +kernel
theorem nD_X5_lengthenList_60 : decode nC_X5_lengthenList 60 = .ok (.goto (-32), 3) := by decide +kernel
theorem nD_X5_lengthenList_63 : decode nC_X5_lengthenList 63 = .ok (.return_, 1) := by decide +kernel
theorem nD_X5_noteExplanation_0 : decode nC_X5_noteExplanation 0 = .ok (.aload_n 0, 1) := by decide +kernel
theorem nD_X5_noteExplanation_1 : decode nC_X5_noteExplanation 1 = .ok (.getfield 32, 3) := by decide +kernel
theorem nD_X5_noteExplanation_4 : decode nC_X5_noteExplanation 4 = .ok (.lload_n 2, 1) := by decide +kernel
theorem nD_X5_noteExplanation_5 : decode nC_X5_noteExplanation 5 = .ok (.invokevirtual 182, 3) := by decide +kernel
theorem nD_X5_noteExplanation_8 : decode nC_X5_noteExplanation 8 = .ok (.iconst 0, 1) := by decide +kernel
theorem nD_X5_noteExplanation_9 : decode nC_X5_noteExplanation 9 = .ok (.istore 4, 2) := by decide +kernel
theorem nD_X5_noteExplanation_11 : decode nC_X5_noteExplanation 11 = .ok (.iload 4, 2) := by decide +kernel
theorem nD_X5_noteExplanation_13 : decode nC_X5_noteExplanation 13 = .ok (.iconst 3, 1) := by decide +kernel
theorem nD_X5_noteExplanation_14 : decode nC_X5_noteExplanation 14 = .ok (.if_icmp .ge 49, 3) := by decide +kernel
theorem nD_X5_noteExplanation_17 : decode nC_X5_noteExplanation 17 = .ok (.aload_n 0, 1) := by decide +kernel
theorem nD_X5_noteExplanation_18 : decode nC_X5_noteExplanation 18 = .ok (.getfield 22, 3) := by decide +kernel
theorem nD_X5_noteExplanation_21 : decode nC_X5_noteExplanation 21 = .ok (.iload 4, 2) := by decide +kernel
theorem nD_X5_noteExplanation_23 : decode nC_X5_noteExplanation 23 = .ok (.iaload, 1) := by decide +kernel
theorem nD_X5_noteExplanation_24 : decode nC_X5_noteExplanation 24 = .ok (.istore 5, 2) := by decide +kernel
theorem nD_X5_noteExplanation_26 : decode nC_X5_noteExplanation 26 = .ok (.iload 5, 2) := by decide +kernel
theorem nD_X5_noteExplanation_28 : decode nC_X5_noteExplanation 28 = .ok (.iconst (-1), 1) := by decide +kernel
theorem nD_X5_noteExplanation_29 : decode nC_X5_noteExplanation 29 = .ok (.if_icmp .eq 28, 3) := by decide +kernel
theorem nD_X5_noteExplanation_32 : decode nC_X5_noteExplanation 32 = .ok (.iload_n 1, 1) := by decide +kernel
theorem nD_X5_noteExplanation_33 : decode nC_X5_noteExplanation 33 = .ok (.iload 5, 2) := by decide +kernel
theorem nD_X5_noteExplanation_35 : decode nC_X5_noteExplanation 35 = .ok (.invokestatic 168, 3) := by decide +kernel
theorem nD_X5_noteExplanation_38 : decode nC_X5_noteExplanation 38 = .ok (.ifCond .eq 19, 3) := by decide +kernel
theorem nD_X5_noteExplanation_41 : decode nC_X5_noteExplanation 41 = .ok (.aload_n 0, 1) := by decide +kernel
theorem nD_X5_noteExplanation_42 : decode nC_X5_noteExplanation 42 = .ok (.getfield 32, 3) := by decide +kernel
theorem nD_X5_noteExplanation_45 : decode nC_X5_noteExplanation 45 = .ok (.iload 4, 2) := by decide +kernel
theorem nD_X5_noteExplanation_47 : decode nC_X5_noteExplanation 47 = .ok (.aload_n 0, 1) := by decide +kernel
theorem nD_X5_noteExplanation_48 : decode nC_X5_noteExplanation 48 = .ok (.getfield 26, 3) := by decide +kernel
theorem nD_X5_noteExplanation_51 : decode nC_X5_noteExplanation 51 = .ok (.iload 5, 2) := by decide +kernel
theorem nD_X5_noteExplanation_53 : decode nC_X5_noteExplanation 53 = .ok (.iaload, 1) := by decide +kernel
theorem nD_X5_noteExplanation_54 : decode nC_X5_noteExplanation 54 = .ok (.invokevirtual 186, 3) := by decide +kernel
theorem nD_X5_noteExplanation_57 : decode nC_X5_noteExplanation 57 = .ok (.iinc 4 1, 3) := by decide +kernel
theorem nD_X5_noteExplanation_60 : decode nC_X5_noteExplanation 60 = .ok (.goto (-49), 3) := by decide +kernel
theorem nD_X5_noteExplanation_63 : decode nC_X5_noteExplanation 63 = .ok (.return_, 1) := by decide +kernel
theorem nD_X1_addExplanation_0 : decode nC_X1_addExplanation 0 = .ok (.aload_n 0, 1) := by decide +kernel
theorem nD_X1_addExplanation_1 : decode nC_X1_addExplanation 1 = .ok (.dup, 1) := by decide +kernel
theorem nD_X1_addExplanation_2 : decode nC_X1_addExplanation 2 = .ok (.getfield 34, 3) := by decide +kernel
theorem nD_X1_addExplanation_5 : decode nC_X1_addExplanation 5 = .ok (.iconst 1, 1) := by decide +kernel
theorem nD_X1_addExplanation_6 : decode nC_X1_addExplanation 6 = .ok (.iadd, 1) := by decide +kernel
theorem nD_X1_addExplanation_7 : decode nC_X1_addExplanation 7 = .ok (.putfield 34, 3) := by decide +kernel
theorem nD_X1_addExplanation_10 : decode nC_X1_addExplanation 10 = .ok (.aload_n 0, 1) := by decide +kernel
theorem nD_X1_addExplanation_11 : decode nC_X1_addExplanation 11 = .ok (.getfield 12, 3) := by decide +kernel
theorem nD_X1_addExplanation_14 : decode nC_X1_addExplanation 14 = .ok (.lload_n 1, 1) := by decide +kernel
theorem nD_X1_addExplanation_15 : decode nC_X1_addExplanation 15 = .ok (.invokevirtual 38, 3) := by decide +kernel
theorem nD_X1_addExplanation_18 : decode nC_X1_addExplanation 18 = .ok (.return_, 1) := by decide +kernel
theorem nD_X3_add_0 : decode nC_X3_add 0 = .ok (.lload_n 1, 1) := by decide +kernel
theorem nD_X3_add_1 : decode nC_X3_add 1 = .ok (.ldc2_w 29, 3) := by decide +kernel
theorem nD_X3_add_4 : decode nC_X3_add 4 = .ok (.lmul, 1) := by decide +kernel
theorem nD_X3_add_5 : decode nC_X3_add 5 = .ok (.bipush 54, 2) := by decide +kernel
theorem nD_X3_add_7 : decode nC_X3_add 7 = .ok (.lushr, 1) := by decide +kernel
theorem nD_X3_add_8 : decode nC_X3_add 8 = .ok (.l2i, 1) := by decide +kernel
theorem nD_X3_add_9 : decode nC_X3_add 9 = .ok (.istore_n 3, 1) := by decide +kernel
theorem nD_X3_add_10 : decode nC_X3_add 10 = .ok (.iconst 0, 1) := by decide +kernel
theorem nD_X3_add_11 : decode nC_X3_add 11 = .ok (.istore 4, 2) := by decide +kernel
theorem nD_X3_add_13 : decode nC_X3_add 13 = .ok (.iload 4, 2) := by decide +kernel
theorem nD_X3_add_15 : decode nC_X3_add 15 = .ok (.sipush 1024, 3) := by decide +kernel
theorem nD_X3_add_18 : decode nC_X3_add 18 = .ok (.if_icmp .ge 91, 3) := by decide +kernel
theorem nD_X3_add_21 : decode nC_X3_add 21 = .ok (.aload_n 0, 1) := by decide +kernel
theorem nD_X3_add_22 : decode nC_X3_add 22 = .ok (.getfield 15, 3) := by decide +kernel
theorem nD_X3_add_25 : decode nC_X3_add 25 = .ok (.iload_n 3, 1) := by decide +kernel
theorem nD_X3_add_26 : decode nC_X3_add 26 = .ok (.iaload, 1) := by decide +kernel
theorem nD_X3_add_27 : decode nC_X3_add 27 = .ok (.istore 5, 2) := by decide +kernel
theorem nD_X3_add_29 : decode nC_X3_add 29 = .ok (.iload 5, 2) := by decide +kernel
theorem nD_X3_add_31 : decode nC_X3_add 31 = .ok (.ifCond .eq 18, 3) := by decide +kernel
theorem nD_X3_add_34 : decode nC_X3_add 34 = .ok (.aload_n 0, 1) := by decide +kernel
theorem nD_X3_add_35 : decode nC_X3_add 35 = .ok (.getfield 11, 3) := by decide +kernel
theorem nD_X3_add_38 : decode nC_X3_add 38 = .ok (.iload 5, 2) := by decide +kernel
theorem nD_X3_add_40 : decode nC_X3_add 40 = .ok (.iconst 1, 1) := by decide +kernel
theorem nD_X3_add_41 : decode nC_X3_add 41 = .ok (.isub, 1) := by decide +kernel
theorem nD_X3_add_42 : decode nC_X3_add 42 = .ok (.laload, 1) := by decide +kernel
theorem nD_X3_add_43 : decode nC_X3_add 43 = .ok (.lload_n 1, 1) := by decide +kernel
theorem nD_X3_add_44 : decode nC_X3_add 44 = .ok (.lcmp, 1) := by decide +kernel
theorem nD_X3_add_45 : decode nC_X3_add 45 = .ok (.ifCond .ne 4, 3) := by decide +kernel
theorem nD_X3_add_48 : decode nC_X3_add 48 = .ok (.return_, 1) := by decide +kernel
theorem nD_X3_add_49 : decode nC_X3_add 49 = .ok (.iload 5, 2) := by decide +kernel
theorem nD_X3_add_51 : decode nC_X3_add 51 = .ok (.ifCond .ne 44, 3) := by decide +kernel
theorem nD_X3_add_54 : decode nC_X3_add 54 = .ok (.aload_n 0, 1) := by decide +kernel
theorem nD_X3_add_55 : decode nC_X3_add 55 = .ok (.getfield 25, 3) := by decide +kernel
theorem nD_X3_add_58 : decode nC_X3_add 58 = .ok (.sipush 680, 3) := by decide +kernel
theorem nD_X3_add_61 : decode nC_X3_add 61 = .ok (.if_icmp .ge 34, 3) := by decide +kernel
theorem nD_X3_add_64 : decode nC_X3_add 64 = .ok (.aload_n 0, 1) := by decide +kernel
theorem nD_X3_add_65 : decode nC_X3_add 65 = .ok (.getfield 11, 3) := by decide +kernel
theorem nD_X3_add_68 : decode nC_X3_add 68 = .ok (.aload_n 0, 1) := by decide +kernel
theorem nD_X3_add_69 : decode nC_X3_add 69 = .ok (.getfield 25, 3) := by decide +kernel
theorem nD_X3_add_72 : decode nC_X3_add 72 = .ok (.lload_n 1, 1) := by decide +kernel
theorem nD_X3_add_73 : decode nC_X3_add 73 = .ok (.lastore, 1) := by decide +kernel
theorem nD_X3_add_74 : decode nC_X3_add 74 = .ok (.aload_n 0, 1) := by decide +kernel
theorem nD_X3_add_75 : decode nC_X3_add 75 = .ok (.dup, 1) := by decide +kernel
theorem nD_X3_add_76 : decode nC_X3_add 76 = .ok (.getfield 25, 3) := by decide +kernel
theorem nD_X3_add_79 : decode nC_X3_add 79 = .ok (.iconst 1, 1) := by decide +kernel
theorem nD_X3_add_80 : decode nC_X3_add 80 = .ok (.iadd, 1) := by decide +kernel
theorem nD_X3_add_81 : decode nC_X3_add 81 = .ok (.putfield 25, 3) := by decide +kernel
theorem nD_X3_add_84 : decode nC_X3_add 84 = .ok (.aload_n 0, 1) := by decide +kernel
theorem nD_X3_add_85 : decode nC_X3_add 85 = .ok (.getfield 15, 3) := by decide +kernel
theorem nD_X3_add_88 : decode nC_X3_add 88 = .ok (.iload_n 3, 1) := by decide +kernel
theorem nD_X3_add_89 : decode nC_X3_add 89 = .ok (.aload_n 0, 1) := by decide +kernel
theorem nD_X3_add_90 : decode nC_X3_add 90 = .ok (.getfield 25, 3) := by decide +kernel
theorem nD_X3_add_93 : decode nC_X3_add 93 = .ok (.iastore, 1) := by decide +kernel
theorem nD_X3_add_94 : decode nC_X3_add 94 = .ok (.return_, 1) := by decide +kernel
theorem nD_X3_add_95 : decode nC_X3_add 95 = .ok (.iload_n 3, 1) := by decide +kernel
theorem nD_X3_add_96 : decode nC_X3_add 96 = .ok (.iconst 1, 1) := by decide +kernel
theorem nD_X3_add_97 : decode nC_X3_add 97 = .ok (.iadd, 1) := by decide +kernel
theorem nD_X3_add_98 : decode nC_X3_add 98 = .ok (.sipush 1024, 3) := by decide +kernel
theorem nD_X3_add_101 : decode nC_X3_add 101 = .ok (.irem, 1) := by decide +kernel
theorem nD_X3_add_102 : decode nC_X3_add 102 = .ok (.istore_n 3, 1) := by decide +kernel
theorem nD_X3_add_103 : decode nC_X3_add 103 = .ok (.iinc 4 1, 3) := by decide +kernel
theorem nD_X3_add_106 : decode nC_X3_add 106 = .ok (.goto (-93), 3) := by decide +kernel
theorem nD_X3_add_109 : decode nC_X3_add 109 = .ok (.return_, 1) := by decide +kernel
theorem nD_X5_isIn_0 : decode nC_X5_isIn 0 = .ok (.iload_n 0, 1) := by decide +kernel
theorem nD_X5_isIn_1 : decode nC_X5_isIn 1 = .ok (.iload_n 1, 1) := by decide +kernel
theorem nD_X5_isIn_2 : decode nC_X5_isIn 2 = .ok (.ishr, 1) := by decide +kernel
theorem nD_X5_isIn_3 : decode nC_X5_isIn 3 = .ok (.iconst 1, 1) := by decide +kernel
theorem nD_X5_isIn_4 : decode nC_X5_isIn 4 = .ok (.iand, 1) := by decide +kernel
theorem nD_X5_isIn_5 : decode nC_X5_isIn 5 = .ok (.ifCond .eq 7, 3) := by decide +kernel
theorem nD_X5_isIn_8 : decode nC_X5_isIn 8 = .ok (.iconst 1, 1) := by decide +kernel
theorem nD_X5_isIn_9 : decode nC_X5_isIn 9 = .ok (.goto 4, 3) := by decide +kernel
theorem nD_X5_isIn_12 : decode nC_X5_isIn 12 = .ok (.iconst 0, 1) := by decide +kernel
theorem nD_X5_isIn_13 : decode nC_X5_isIn 13 = .ok (.ireturn, 1) := by decide +kernel
theorem nD_X1_addReply_0 : decode nC_X1_addReply 0 = .ok (.aload_n 0, 1) := by decide +kernel
theorem nD_X1_addReply_1 : decode nC_X1_addReply 1 = .ok (.getfield 18, 3) := by decide +kernel
theorem nD_X1_addReply_4 : decode nC_X1_addReply 4 = .ok (.iload_n 1, 1) := by decide +kernel
theorem nD_X1_addReply_5 : decode nC_X1_addReply 5 = .ok (.dup2, 1) := by decide +kernel
theorem nD_X1_addReply_6 : decode nC_X1_addReply 6 = .ok (.iaload, 1) := by decide +kernel
theorem nD_X1_addReply_7 : decode nC_X1_addReply 7 = .ok (.iconst 1, 1) := by decide +kernel
theorem nD_X1_addReply_8 : decode nC_X1_addReply 8 = .ok (.iadd, 1) := by decide +kernel
theorem nD_X1_addReply_9 : decode nC_X1_addReply 9 = .ok (.iastore, 1) := by decide +kernel
theorem nD_X1_addReply_10 : decode nC_X1_addReply 10 = .ok (.aload_n 0, 1) := by decide +kernel
theorem nD_X1_addReply_11 : decode nC_X1_addReply 11 = .ok (.getfield 22, 3) := by decide +kernel
theorem nD_X1_addReply_14 : decode nC_X1_addReply 14 = .ok (.iload_n 1, 1) := by decide +kernel
theorem nD_X1_addReply_15 : decode nC_X1_addReply 15 = .ok (.dup2, 1) := by decide +kernel
theorem nD_X1_addReply_16 : decode nC_X1_addReply 16 = .ok (.iaload, 1) := by decide +kernel
theorem nD_X1_addReply_17 : decode nC_X1_addReply 17 = .ok (.iconst 1, 1) := by decide +kernel
theorem nD_X1_addReply_18 : decode nC_X1_addReply 18 = .ok (.iload_n 2, 1) := by decide +kernel
theorem nD_X1_addReply_19 : decode nC_X1_addReply 19 = .ok (.iconst (-1), 1) := by decide +kernel
theorem nD_X1_addReply_20 : decode nC_X1_addReply 20 = .ok (.isub, 1) := by decide +kernel
theorem nD_X1_addReply_21 : decode nC_X1_addReply 21 = .ok (.ishl, 1) := by decide +kernel
theorem nD_X1_addReply_22 : decode nC_X1_addReply 22 = .ok (.ior, 1) := by decide +kernel
theorem nD_X1_addReply_23 : decode nC_X1_addReply 23 = .ok (.iastore, 1) := by decide +kernel
theorem nD_X1_addReply_24 : decode nC_X1_addReply 24 = .ok (.return_, 1) := by decide +kernel
theorem nD_X5_mayStandNext_0 : decode nC_X5_mayStandNext 0 = .ok (.iload_n 2, 1) := by decide +kernel
theorem nD_X5_mayStandNext_1 : decode nC_X5_mayStandNext 1 = .ok (.aload_n 0, 1) := by decide +kernel
theorem nD_X5_mayStandNext_2 : decode nC_X5_mayStandNext 2 = .ok (.getfield 82, 3) := by decide +kernel
theorem nD_X5_mayStandNext_5 : decode nC_X5_mayStandNext 5 = .ok (.ior, 1) := by decide +kernel
theorem nD_X5_mayStandNext_6 : decode nC_X5_mayStandNext 6 = .ok (.iload_n 1, 1) := by decide +kernel
theorem nD_X5_mayStandNext_7 : decode nC_X5_mayStandNext 7 = .ok (.invokestatic 168, 3) := by decide +kernel
theorem nD_X5_mayStandNext_10 : decode nC_X5_mayStandNext 10 = .ok (.ifCond .ne 23, 3) := by decide +kernel
theorem nD_X5_mayStandNext_13 : decode nC_X5_mayStandNext 13 = .ok (.aload_n 0, 1) := by decide +kernel
theorem nD_X5_mayStandNext_14 : decode nC_X5_mayStandNext 14 = .ok (.getfield 18, 3) := by decide +kernel
theorem nD_X5_mayStandNext_17 : decode nC_X5_mayStandNext 17 = .ok (.iload_n 1, 1) := by decide +kernel
theorem nD_X5_mayStandNext_18 : decode nC_X5_mayStandNext 18 = .ok (.aaload, 1) := by decide +kernel
theorem nD_X5_mayStandNext_19 : decode nC_X5_mayStandNext 19 = .ok (.getfield 171, 3) := by decide +kernel
theorem nD_X5_mayStandNext_22 : decode nC_X5_mayStandNext 22 = .ok (.iload_n 2, 1) := by decide +kernel
theorem nD_X5_mayStandNext_23 : decode nC_X5_mayStandNext 23 = .ok (.iconst (-1), 1) := by decide +kernel
theorem nD_X5_mayStandNext_24 : decode nC_X5_mayStandNext 24 = .ok (.ixor, 1) := by decide +kernel
theorem nD_X5_mayStandNext_25 : decode nC_X5_mayStandNext 25 = .ok (.iand, 1) := by decide +kernel
theorem nD_X5_mayStandNext_26 : decode nC_X5_mayStandNext 26 = .ok (.ifCond .ne 7, 3) := by decide +kernel
theorem nD_X5_mayStandNext_29 : decode nC_X5_mayStandNext 29 = .ok (.iconst 1, 1) := by decide +kernel
theorem nD_X5_mayStandNext_30 : decode nC_X5_mayStandNext 30 = .ok (.goto 4, 3) := by decide +kernel
theorem nD_X5_mayStandNext_33 : decode nC_X5_mayStandNext 33 = .ok (.iconst 0, 1) := by decide +kernel
theorem nD_X5_mayStandNext_34 : decode nC_X5_mayStandNext 34 = .ok (.ireturn, 1) := by decide +kernel
theorem nD_X5_carryOut_0 : decode nC_X5_carryOut 0 = .ok (.aload_n 0, 1) := by decide +kernel
theorem nD_X5_carryOut_1 : decode nC_X5_carryOut 1 = .ok (.getfield 10, 3) := by decide +kernel
theorem nD_X5_carryOut_4 : decode nC_X5_carryOut 4 = .ok (.aload_n 0, 1) := by decide +kernel
theorem nD_X5_carryOut_5 : decode nC_X5_carryOut 5 = .ok (.getfield 18, 3) := by decide +kernel
theorem nD_X5_carryOut_8 : decode nC_X5_carryOut 8 = .ok (.iload_n 1, 1) := by decide +kernel
theorem nD_X5_carryOut_9 : decode nC_X5_carryOut 9 = .ok (.aaload, 1) := by decide +kernel
theorem nD_X5_carryOut_10 : decode nC_X5_carryOut 10 = .ok (.lload_n 3, 1) := by decide +kernel
theorem nD_X5_carryOut_11 : decode nC_X5_carryOut 11 = .ok (.invokevirtual 174, 3) := by decide +kernel
theorem nD_X5_carryOut_14 : decode nC_X5_carryOut 14 = .ok (.istore 6, 2) := by decide +kernel
theorem nD_X5_carryOut_16 : decode nC_X5_carryOut 16 = .ok (.aload_n 0, 1) := by decide +kernel
theorem nD_X5_carryOut_17 : decode nC_X5_carryOut 17 = .ok (.getfield 55, 3) := by decide +kernel
theorem nD_X5_carryOut_20 : decode nC_X5_carryOut 20 = .ok (.iload_n 1, 1) := by decide +kernel
theorem nD_X5_carryOut_21 : decode nC_X5_carryOut 21 = .ok (.invokestatic 168, 3) := by decide +kernel
theorem nD_X5_carryOut_24 : decode nC_X5_carryOut 24 = .ok (.ifCond .eq 18, 3) := by decide +kernel
theorem nD_X5_carryOut_27 : decode nC_X5_carryOut 27 = .ok (.iload 6, 2) := by decide +kernel
theorem nD_X5_carryOut_29 : decode nC_X5_carryOut 29 = .ok (.aload_n 0, 1) := by decide +kernel
theorem nD_X5_carryOut_30 : decode nC_X5_carryOut 30 = .ok (.getfield 18, 3) := by decide +kernel
theorem nD_X5_carryOut_33 : decode nC_X5_carryOut 33 = .ok (.iload_n 1, 1) := by decide +kernel
theorem nD_X5_carryOut_34 : decode nC_X5_carryOut 34 = .ok (.aaload, 1) := by decide +kernel
theorem nD_X5_carryOut_35 : decode nC_X5_carryOut 35 = .ok (.getfield 145, 3) := by decide +kernel
theorem nD_X5_carryOut_38 : decode nC_X5_carryOut 38 = .ok (.if_icmp .eq 4, 3) := by decide +kernel
theorem nD_X5_carryOut_41 : decode nC_X5_carryOut 41 = .ok (.return_, 1) := by decide +kernel
theorem nD_X5_carryOut_42 : decode nC_X5_carryOut 42 = .ok (.aload_n 0, 1) := by decide +kernel
theorem nD_X5_carryOut_43 : decode nC_X5_carryOut 43 = .ok (.getfield 26, 3) := by decide +kernel
theorem nD_X5_carryOut_46 : decode nC_X5_carryOut 46 = .ok (.iload_n 1, 1) := by decide +kernel
theorem nD_X5_carryOut_47 : decode nC_X5_carryOut 47 = .ok (.iload 6, 2) := by decide +kernel
theorem nD_X5_carryOut_49 : decode nC_X5_carryOut 49 = .ok (.iastore, 1) := by decide +kernel
theorem nD_X5_carryOut_50 : decode nC_X5_carryOut 50 = .ok (.aload_n 0, 1) := by decide +kernel
theorem nD_X5_carryOut_51 : decode nC_X5_carryOut 51 = .ok (.iload_n 2, 1) := by decide +kernel
theorem nD_X5_carryOut_52 : decode nC_X5_carryOut 52 = .ok (.iconst 1, 1) := by decide +kernel
theorem nD_X5_carryOut_53 : decode nC_X5_carryOut 53 = .ok (.iload_n 1, 1) := by decide +kernel
theorem nD_X5_carryOut_54 : decode nC_X5_carryOut 54 = .ok (.ishl, 1) := by decide +kernel
theorem nD_X5_carryOut_55 : decode nC_X5_carryOut 55 = .ok (.ior, 1) := by decide +kernel
theorem nD_X5_carryOut_56 : decode nC_X5_carryOut 56 = .ok (.aload_n 0, 1) := by decide +kernel
theorem nD_X5_carryOut_57 : decode nC_X5_carryOut 57 = .ok (.getfield 10, 3) := by decide +kernel
theorem nD_X5_carryOut_60 : decode nC_X5_carryOut 60 = .ok (.aload_n 0, 1) := by decide +kernel
theorem nD_X5_carryOut_61 : decode nC_X5_carryOut 61 = .ok (.getfield 18, 3) := by decide +kernel
theorem nD_X5_carryOut_64 : decode nC_X5_carryOut 64 = .ok (.iload_n 1, 1) := by decide +kernel
theorem nD_X5_carryOut_65 : decode nC_X5_carryOut 65 = .ok (.aaload, 1) := by decide +kernel
theorem nD_X5_carryOut_66 : decode nC_X5_carryOut 66 = .ok (.lload_n 3, 1) := by decide +kernel
theorem nD_X5_carryOut_67 : decode nC_X5_carryOut 67 = .ok (.invokevirtual 178, 3) := by decide +kernel
theorem nD_X5_carryOut_70 : decode nC_X5_carryOut 70 = .ok (.iload 5, 2) := by decide +kernel
theorem nD_X5_carryOut_72 : decode nC_X5_carryOut 72 = .ok (.iconst 1, 1) := by decide +kernel
theorem nD_X5_carryOut_73 : decode nC_X5_carryOut 73 = .ok (.iadd, 1) := by decide +kernel
theorem nD_X5_carryOut_74 : decode nC_X5_carryOut 74 = .ok (.invokevirtual 153, 3) := by decide +kernel
theorem nD_X5_carryOut_77 : decode nC_X5_carryOut 77 = .ok (.return_, 1) := by decide +kernel
theorem nD_X4_replyTo_0 : decode nC_X4_replyTo 0 = .ok (.aload_n 1, 1) := by decide +kernel
theorem nD_X4_replyTo_1 : decode nC_X4_replyTo 1 = .ok (.getfield 27, 3) := by decide +kernel
theorem nD_X4_replyTo_4 : decode nC_X4_replyTo 4 = .ok (.ifCond .eq 17, 3) := by decide +kernel
theorem nD_X4_replyTo_7 : decode nC_X4_replyTo 7 = .ok (.aload_n 0, 1) := by decide +kernel
theorem nD_X4_replyTo_8 : decode nC_X4_replyTo 8 = .ok (.lload_n 2, 1) := by decide +kernel
theorem nD_X4_replyTo_9 : decode nC_X4_replyTo 9 = .ok (.invokevirtual 33, 3) := by decide +kernel
theorem nD_X4_replyTo_12 : decode nC_X4_replyTo 12 = .ok (.ifCond .eq 7, 3) := by decide +kernel
theorem nD_X4_replyTo_15 : decode nC_X4_replyTo 15 = .ok (.iconst 1, 1) := by decide +kernel
theorem nD_X4_replyTo_16 : decode nC_X4_replyTo 16 = .ok (.goto 4, 3) := by decide +kernel
theorem nD_X4_replyTo_19 : decode nC_X4_replyTo 19 = .ok (.iconst 0, 1) := by decide +kernel
theorem nD_X4_replyTo_20 : decode nC_X4_replyTo 20 = .ok (.ireturn, 1) := by decide +kernel
theorem nD_X4_replyTo_21 : decode nC_X4_replyTo 21 = .ok (.lload_n 2, 1) := by decide +kernel
theorem nD_X4_replyTo_22 : decode nC_X4_replyTo 22 = .ok (.lconst 0, 1) := by decide +kernel
theorem nD_X4_replyTo_23 : decode nC_X4_replyTo 23 = .ok (.lcmp, 1) := by decide +kernel
theorem nD_X4_replyTo_24 : decode nC_X4_replyTo 24 = .ok (.ifCond .ne 5, 3) := by decide +kernel
theorem nD_X4_replyTo_27 : decode nC_X4_replyTo 27 = .ok (.iconst (-1), 1) := by decide +kernel
theorem nD_X4_replyTo_28 : decode nC_X4_replyTo 28 = .ok (.ireturn, 1) := by decide +kernel
theorem nD_X4_replyTo_29 : decode nC_X4_replyTo 29 = .ok (.lload_n 2, 1) := by decide +kernel
theorem nD_X4_replyTo_30 : decode nC_X4_replyTo 30 = .ok (.aload_n 0, 1) := by decide +kernel
theorem nD_X4_replyTo_31 : decode nC_X4_replyTo 31 = .ok (.aload_n 1, 1) := by decide +kernel
theorem nD_X4_replyTo_32 : decode nC_X4_replyTo 32 = .ok (.getfield 39, 3) := by decide +kernel
theorem nD_X4_replyTo_35 : decode nC_X4_replyTo 35 = .ok (.invokevirtual 42, 3) := by decide +kernel
theorem nD_X4_replyTo_38 : decode nC_X4_replyTo 38 = .ok (.ifCond .eq 12, 3) := by decide +kernel
theorem nD_X4_replyTo_41 : decode nC_X4_replyTo 41 = .ok (.lload_n 2, 1) := by decide +kernel
theorem nD_X4_replyTo_42 : decode nC_X4_replyTo 42 = .ok (.invokestatic 46, 3) := by decide +kernel
theorem nD_X4_replyTo_45 : decode nC_X4_replyTo 45 = .ok (.iconst 1, 1) := by decide +kernel
theorem nD_X4_replyTo_46 : decode nC_X4_replyTo 46 = .ok (.isub, 1) := by decide +kernel
theorem nD_X4_replyTo_47 : decode nC_X4_replyTo 47 = .ok (.goto 4, 3) := by decide +kernel
theorem nD_X4_replyTo_50 : decode nC_X4_replyTo 50 = .ok (.iconst 0, 1) := by decide +kernel
theorem nD_X4_replyTo_51 : decode nC_X4_replyTo 51 = .ok (.invokestatic 50, 3) := by decide +kernel
theorem nD_X4_replyTo_54 : decode nC_X4_replyTo 54 = .ok (.ireturn, 1) := by decide +kernel
theorem nD_X4_hasRoom_0 : decode nC_X4_hasRoom 0 = .ok (.lload_n 1, 1) := by decide +kernel
theorem nD_X4_hasRoom_1 : decode nC_X4_hasRoom 1 = .ok (.invokestatic 46, 3) := by decide +kernel
theorem nD_X4_hasRoom_4 : decode nC_X4_hasRoom 4 = .ok (.aload_n 0, 1) := by decide +kernel
theorem nD_X4_hasRoom_5 : decode nC_X4_hasRoom 5 = .ok (.getfield 24, 3) := by decide +kernel
theorem nD_X4_hasRoom_8 : decode nC_X4_hasRoom 8 = .ok (.if_icmp .ge 7, 3) := by decide +kernel
theorem nD_X4_hasRoom_11 : decode nC_X4_hasRoom 11 = .ok (.iconst 1, 1) := by decide +kernel
theorem nD_X4_hasRoom_12 : decode nC_X4_hasRoom 12 = .ok (.goto 4, 3) := by decide +kernel
theorem nD_X4_hasRoom_15 : decode nC_X4_hasRoom 15 = .ok (.iconst 0, 1) := by decide +kernel
theorem nD_X4_hasRoom_16 : decode nC_X4_hasRoom 16 = .ok (.ireturn, 1) := by decide +kernel
theorem nD_X2_length_0 : decode nC_X2_length 0 = .ok (.lload_n 0, 1) := by decide +kernel
theorem nD_X2_length_1 : decode nC_X2_length 1 = .ok (.bipush 32, 2) := by decide +kernel
theorem nD_X2_length_3 : decode nC_X2_length 3 = .ok (.lushr, 1) := by decide +kernel
theorem nD_X2_length_4 : decode nC_X2_length 4 = .ok (.l2i, 1) := by decide +kernel
theorem nD_X2_length_5 : decode nC_X2_length 5 = .ok (.ireturn, 1) := by decide +kernel
theorem nD_X4_takesBack_0 : decode nC_X4_takesBack 0 = .ok (.aload_n 0, 1) := by decide +kernel
theorem nD_X4_takesBack_1 : decode nC_X4_takesBack 1 = .ok (.getfield 11, 3) := by decide +kernel
theorem nD_X4_takesBack_4 : decode nC_X4_takesBack 4 = .ok (.iconst 1, 1) := by decide +kernel
theorem nD_X4_takesBack_5 : decode nC_X4_takesBack 5 = .ok (.if_icmp .eq 15, 3) := by decide +kernel
theorem nD_X4_takesBack_8 : decode nC_X4_takesBack 8 = .ok (.aload_n 0, 1) := by decide +kernel
theorem nD_X4_takesBack_9 : decode nC_X4_takesBack 9 = .ok (.getfield 11, 3) := by decide +kernel
theorem nD_X4_takesBack_12 : decode nC_X4_takesBack 12 = .ok (.iconst 2, 1) := by decide +kernel
theorem nD_X4_takesBack_13 : decode nC_X4_takesBack 13 = .ok (.if_icmp .ne 11, 3) := by decide +kernel
theorem nD_X4_takesBack_16 : decode nC_X4_takesBack 16 = .ok (.iload_n 1, 1) := by decide +kernel
theorem nD_X4_takesBack_17 : decode nC_X4_takesBack 17 = .ok (.ifCond .ne 7, 3) := by decide +kernel
theorem nD_X4_takesBack_20 : decode nC_X4_takesBack 20 = .ok (.iconst 1, 1) := by decide +kernel
theorem nD_X4_takesBack_21 : decode nC_X4_takesBack 21 = .ok (.goto 4, 3) := by decide +kernel
theorem nD_X4_takesBack_24 : decode nC_X4_takesBack 24 = .ok (.iconst 0, 1) := by decide +kernel
theorem nD_X4_takesBack_25 : decode nC_X4_takesBack 25 = .ok (.ireturn, 1) := by decide +kernel
theorem nD_X2_valueAt_0 : decode nC_X2_valueAt 0 = .ok (.lload_n 0, 1) := by decide +kernel
theorem nD_X2_valueAt_1 : decode nC_X2_valueAt 1 = .ok (.iconst 4, 1) := by decide +kernel
theorem nD_X2_valueAt_2 : decode nC_X2_valueAt 2 = .ok (.iload_n 2, 1) := by decide +kernel
theorem nD_X2_valueAt_3 : decode nC_X2_valueAt 3 = .ok (.imul, 1) := by decide +kernel
theorem nD_X2_valueAt_4 : decode nC_X2_valueAt 4 = .ok (.lushr, 1) := by decide +kernel
theorem nD_X2_valueAt_5 : decode nC_X2_valueAt 5 = .ok (.l2i, 1) := by decide +kernel
theorem nD_X2_valueAt_6 : decode nC_X2_valueAt 6 = .ok (.bipush 15, 2) := by decide +kernel
theorem nD_X2_valueAt_8 : decode nC_X2_valueAt 8 = .ok (.iand, 1) := by decide +kernel
theorem nD_X2_valueAt_9 : decode nC_X2_valueAt 9 = .ok (.ireturn, 1) := by decide +kernel
theorem nD_X4_rowAfter_0 : decode nC_X4_rowAfter 0 = .ok (.aload_n 1, 1) := by decide +kernel
theorem nD_X4_rowAfter_1 : decode nC_X4_rowAfter 1 = .ok (.getfield 27, 3) := by decide +kernel
theorem nD_X4_rowAfter_4 : decode nC_X4_rowAfter 4 = .ok (.ifCond .eq 24, 3) := by decide +kernel
theorem nD_X4_rowAfter_7 : decode nC_X4_rowAfter 7 = .ok (.aload_n 0, 1) := by decide +kernel
theorem nD_X4_rowAfter_8 : decode nC_X4_rowAfter 8 = .ok (.lload_n 2, 1) := by decide +kernel
theorem nD_X4_rowAfter_9 : decode nC_X4_rowAfter 9 = .ok (.invokevirtual 33, 3) := by decide +kernel
theorem nD_X4_rowAfter_12 : decode nC_X4_rowAfter 12 = .ok (.ifCond .eq 14, 3) := by decide +kernel
theorem nD_X4_rowAfter_15 : decode nC_X4_rowAfter 15 = .ok (.lload_n 2, 1) := by decide +kernel
theorem nD_X4_rowAfter_16 : decode nC_X4_rowAfter 16 = .ok (.aload_n 1, 1) := by decide +kernel
theorem nD_X4_rowAfter_17 : decode nC_X4_rowAfter 17 = .ok (.getfield 54, 3) := by decide +kernel
theorem nD_X4_rowAfter_20 : decode nC_X4_rowAfter 20 = .ok (.invokestatic 57, 3) := by decide +kernel
theorem nD_X4_rowAfter_23 : decode nC_X4_rowAfter 23 = .ok (.goto 4, 3) := by decide +kernel
theorem nD_X4_rowAfter_26 : decode nC_X4_rowAfter 26 = .ok (.lload_n 2, 1) := by decide +kernel
theorem nD_X4_rowAfter_27 : decode nC_X4_rowAfter 27 = .ok (.lreturn, 1) := by decide +kernel
theorem nD_X4_rowAfter_28 : decode nC_X4_rowAfter 28 = .ok (.lload_n 2, 1) := by decide +kernel
theorem nD_X4_rowAfter_29 : decode nC_X4_rowAfter 29 = .ok (.lconst 0, 1) := by decide +kernel
theorem nD_X4_rowAfter_30 : decode nC_X4_rowAfter 30 = .ok (.lcmp, 1) := by decide +kernel
theorem nD_X4_rowAfter_31 : decode nC_X4_rowAfter 31 = .ok (.ifCond .ne 5, 3) := by decide +kernel
theorem nD_X4_rowAfter_34 : decode nC_X4_rowAfter 34 = .ok (.lload_n 2, 1) := by decide +kernel
theorem nD_X4_rowAfter_35 : decode nC_X4_rowAfter 35 = .ok (.lreturn, 1) := by decide +kernel
theorem nD_X4_rowAfter_36 : decode nC_X4_rowAfter 36 = .ok (.aload_n 0, 1) := by decide +kernel
theorem nD_X4_rowAfter_37 : decode nC_X4_rowAfter 37 = .ok (.aload_n 1, 1) := by decide +kernel
theorem nD_X4_rowAfter_38 : decode nC_X4_rowAfter 38 = .ok (.getfield 39, 3) := by decide +kernel
theorem nD_X4_rowAfter_41 : decode nC_X4_rowAfter 41 = .ok (.invokevirtual 42, 3) := by decide +kernel
theorem nD_X4_rowAfter_44 : decode nC_X4_rowAfter 44 = .ok (.ifCond .eq 10, 3) := by decide +kernel
theorem nD_X4_rowAfter_47 : decode nC_X4_rowAfter 47 = .ok (.lload_n 2, 1) := by decide +kernel
theorem nD_X4_rowAfter_48 : decode nC_X4_rowAfter 48 = .ok (.invokestatic 61, 3) := by decide +kernel
theorem nD_X4_rowAfter_51 : decode nC_X4_rowAfter 51 = .ok (.goto 7, 3) := by decide +kernel
theorem nD_X4_rowAfter_54 : decode nC_X4_rowAfter 54 = .ok (.lload_n 2, 1) := by decide +kernel
theorem nD_X4_rowAfter_55 : decode nC_X4_rowAfter 55 = .ok (.invokestatic 65, 3) := by decide +kernel
theorem nD_X4_rowAfter_58 : decode nC_X4_rowAfter 58 = .ok (.lreturn, 1) := by decide +kernel
theorem nD_X2_withBack_0 : decode nC_X2_withBack 0 = .ok (.lload_n 0, 1) := by decide +kernel
theorem nD_X2_withBack_1 : decode nC_X2_withBack 1 = .ok (.iload_n 2, 1) := by decide +kernel
theorem nD_X2_withBack_2 : decode nC_X2_withBack 2 = .ok (.i2l, 1) := by decide +kernel
theorem nD_X2_withBack_3 : decode nC_X2_withBack 3 = .ok (.iconst 4, 1) := by decide +kernel
theorem nD_X2_withBack_4 : decode nC_X2_withBack 4 = .ok (.lload_n 0, 1) := by decide +kernel
theorem nD_X2_withBack_5 : decode nC_X2_withBack 5 = .ok (.invokestatic 9, 3) := by decide +kernel
theorem nD_X2_withBack_8 : decode nC_X2_withBack 8 = .ok (.imul, 1) := by decide +kernel
theorem nD_X2_withBack_9 : decode nC_X2_withBack 9 = .ok (.lshl, 1) := by decide +kernel
theorem nD_X2_withBack_10 : decode nC_X2_withBack 10 = .ok (.lor, 1) := by decide +kernel
theorem nD_X2_withBack_11 : decode nC_X2_withBack 11 = .ok (.ldc2_w 13, 3) := by decide +kernel
theorem nD_X2_withBack_14 : decode nC_X2_withBack 14 = .ok (.ladd, 1) := by decide +kernel
theorem nD_X2_withBack_15 : decode nC_X2_withBack 15 = .ok (.lreturn, 1) := by decide +kernel
theorem nD_X2_withoutBack_0 : decode nC_X2_withoutBack 0 = .ok (.lload_n 0, 1) := by decide +kernel
theorem nD_X2_withoutBack_1 : decode nC_X2_withoutBack 1 = .ok (.invokestatic 9, 3) := by decide +kernel
theorem nD_X2_withoutBack_4 : decode nC_X2_withoutBack 4 = .ok (.iconst 1, 1) := by decide +kernel
theorem nD_X2_withoutBack_5 : decode nC_X2_withoutBack 5 = .ok (.isub, 1) := by decide +kernel
theorem nD_X2_withoutBack_6 : decode nC_X2_withoutBack 6 = .ok (.istore_n 2, 1) := by decide +kernel
theorem nD_X2_withoutBack_7 : decode nC_X2_withoutBack 7 = .ok (.lload_n 0, 1) := by decide +kernel
theorem nD_X2_withoutBack_8 : decode nC_X2_withoutBack 8 = .ok (.ldc2_w 15, 3) := by decide +kernel
theorem nD_X2_withoutBack_11 : decode nC_X2_withoutBack 11 = .ok (.iconst 4, 1) := by decide +kernel
theorem nD_X2_withoutBack_12 : decode nC_X2_withoutBack 12 = .ok (.iload_n 2, 1) := by decide +kernel
theorem nD_X2_withoutBack_13 : decode nC_X2_withoutBack 13 = .ok (.imul, 1) := by decide +kernel
theorem nD_X2_withoutBack_14 : decode nC_X2_withoutBack 14 = .ok (.lshl, 1) := by decide +kernel
theorem nD_X2_withoutBack_15 : decode nC_X2_withoutBack 15 = .ok (.ldc2_w 17, 3) := by decide +kernel
theorem nD_X2_withoutBack_18 : decode nC_X2_withoutBack 18 = .ok (.lxor, 1) := by decide +kernel
theorem nD_X2_withoutBack_19 : decode nC_X2_withoutBack 19 = .ok (.land, 1) := by decide +kernel
theorem nD_X2_withoutBack_20 : decode nC_X2_withoutBack 20 = .ok (.ldc2_w 13, 3) := by decide +kernel
theorem nD_X2_withoutBack_23 : decode nC_X2_withoutBack 23 = .ok (.lsub, 1) := by decide +kernel
theorem nD_X2_withoutBack_24 : decode nC_X2_withoutBack 24 = .ok (.lreturn, 1) := by decide +kernel
theorem nD_X2_withoutFront_0 : decode nC_X2_withoutFront 0 = .ok (.lload_n 0, 1) := by decide +kernel
theorem nD_X2_withoutFront_1 : decode nC_X2_withoutFront 1 = .ok (.ldc2_w 19, 3) := by decide +kernel
theorem nD_X2_withoutFront_4 : decode nC_X2_withoutFront 4 = .ok (.land, 1) := by decide +kernel
theorem nD_X2_withoutFront_5 : decode nC_X2_withoutFront 5 = .ok (.iconst 4, 1) := by decide +kernel
theorem nD_X2_withoutFront_6 : decode nC_X2_withoutFront 6 = .ok (.lushr, 1) := by decide +kernel
theorem nD_X2_withoutFront_7 : decode nC_X2_withoutFront 7 = .ok (.lstore_n 2, 1) := by decide +kernel
theorem nD_X2_withoutFront_8 : decode nC_X2_withoutFront 8 = .ok (.lload_n 2, 1) := by decide +kernel
theorem nD_X2_withoutFront_9 : decode nC_X2_withoutFront 9 = .ok (.lload_n 0, 1) := by decide +kernel
theorem nD_X2_withoutFront_10 : decode nC_X2_withoutFront 10 = .ok (.invokestatic 9, 3) := by decide +kernel
theorem nD_X2_withoutFront_13 : decode nC_X2_withoutFront 13 = .ok (.iconst 1, 1) := by decide +kernel
theorem nD_X2_withoutFront_14 : decode nC_X2_withoutFront 14 = .ok (.isub, 1) := by decide +kernel
theorem nD_X2_withoutFront_15 : decode nC_X2_withoutFront 15 = .ok (.i2l, 1) := by decide +kernel
theorem nD_X2_withoutFront_16 : decode nC_X2_withoutFront 16 = .ok (.bipush 32, 2) := by decide +kernel
theorem nD_X2_withoutFront_18 : decode nC_X2_withoutFront 18 = .ok (.lshl, 1) := by decide +kernel
theorem nD_X2_withoutFront_19 : decode nC_X2_withoutFront 19 = .ok (.lor, 1) := by decide +kernel
theorem nD_X2_withoutFront_20 : decode nC_X2_withoutFront 20 = .ok (.lreturn, 1) := by decide +kernel
theorem nD_X5_fits_0 : decode nC_X5_fits 0 = .ok (.aload_n 0, 1) := by decide +kernel
theorem nD_X5_fits_1 : decode nC_X5_fits 1 = .ok (.getfield 32, 3) := by decide +kernel
theorem nD_X5_fits_4 : decode nC_X5_fits 4 = .ok (.getfield 91, 3) := by decide +kernel
theorem nD_X5_fits_7 : decode nC_X5_fits 7 = .ok (.ifCond .le 7, 3) := by decide +kernel
theorem nD_X5_fits_10 : decode nC_X5_fits 10 = .ok (.iconst 1, 1) := by decide +kernel
theorem nD_X5_fits_11 : decode nC_X5_fits 11 = .ok (.goto 4, 3) := by decide +kernel
theorem nD_X5_fits_14 : decode nC_X5_fits 14 = .ok (.iconst 0, 1) := by decide +kernel
theorem nD_X5_fits_15 : decode nC_X5_fits 15 = .ok (.ireturn, 1) := by decide +kernel
theorem nD_X5_renew_0 : decode nC_X5_renew 0 = .ok (.aload_n 0, 1) := by decide +kernel
theorem nD_X5_renew_1 : decode nC_X5_renew 1 = .ok (.iload_n 1, 1) := by decide +kernel
theorem nD_X5_renew_2 : decode nC_X5_renew 2 = .ok (.iload_n 2, 1) := by decide +kernel
theorem nD_X5_renew_3 : decode nC_X5_renew 3 = .ok (.invokevirtual 37, 3) := by decide +kernel
theorem nD_X5_renew_6 : decode nC_X5_renew 6 = .ok (.return_, 1) := by decide +kernel
theorem nD_X5_beginPut_0 : decode nC_X5_beginPut 0 = .ok (.aload_n 0, 1) := by decide +kernel
theorem nD_X5_beginPut_1 : decode nC_X5_beginPut 1 = .ok (.iload_n 1, 1) := by decide +kernel
theorem nD_X5_beginPut_2 : decode nC_X5_beginPut 2 = .ok (.invokevirtual 41, 3) := by decide +kernel
theorem nD_X5_beginPut_5 : decode nC_X5_beginPut 5 = .ok (.ifCond .eq 21, 3) := by decide +kernel
theorem nD_X5_beginPut_8 : decode nC_X5_beginPut 8 = .ok (.iload_n 2, 1) := by decide +kernel
theorem nD_X5_beginPut_9 : decode nC_X5_beginPut 9 = .ok (.invokestatic 45, 3) := by decide +kernel
theorem nD_X5_beginPut_12 : decode nC_X5_beginPut 12 = .ok (.ifCond .eq 14, 3) := by decide +kernel
theorem nD_X5_beginPut_15 : decode nC_X5_beginPut 15 = .ok (.aload_n 0, 1) := by decide +kernel
theorem nD_X5_beginPut_16 : decode nC_X5_beginPut 16 = .ok (.getfield 10, 3) := by decide +kernel
theorem nD_X5_beginPut_19 : decode nC_X5_beginPut 19 = .ok (.iload_n 1, 1) := by decide +kernel
theorem nD_X5_beginPut_20 : decode nC_X5_beginPut 20 = .ok (.invokevirtual 48, 3) := by decide +kernel
theorem nD_X5_beginPut_23 : decode nC_X5_beginPut 23 = .ok (.ifCond .ne 5, 3) := by decide +kernel
theorem nD_X5_beginPut_26 : decode nC_X5_beginPut 26 = .ok (.iconst 0, 1) := by decide +kernel
theorem nD_X5_beginPut_27 : decode nC_X5_beginPut 27 = .ok (.ireturn, 1) := by decide +kernel
theorem nD_X5_beginPut_28 : decode nC_X5_beginPut 28 = .ok (.aload_n 0, 1) := by decide +kernel
theorem nD_X5_beginPut_29 : decode nC_X5_beginPut 29 = .ok (.getfield 18, 3) := by decide +kernel
theorem nD_X5_beginPut_32 : decode nC_X5_beginPut 32 = .ok (.aload_n 0, 1) := by decide +kernel
theorem nD_X5_beginPut_33 : decode nC_X5_beginPut 33 = .ok (.getfield 51, 3) := by decide +kernel
theorem nD_X5_beginPut_36 : decode nC_X5_beginPut 36 = .ok (.aaload, 1) := by decide +kernel
theorem nD_X5_beginPut_37 : decode nC_X5_beginPut 37 = .ok (.iload_n 1, 1) := by decide +kernel
theorem nD_X5_beginPut_38 : decode nC_X5_beginPut 38 = .ok (.iload_n 2, 1) := by decide +kernel
theorem nD_X5_beginPut_39 : decode nC_X5_beginPut 39 = .ok (.aload_n 0, 1) := by decide +kernel
theorem nD_X5_beginPut_40 : decode nC_X5_beginPut 40 = .ok (.getfield 55, 3) := by decide +kernel
theorem nD_X5_beginPut_43 : decode nC_X5_beginPut 43 = .ok (.invokevirtual 58, 3) := by decide +kernel
theorem nD_X5_beginPut_46 : decode nC_X5_beginPut 46 = .ok (.aload_n 0, 1) := by decide +kernel
theorem nD_X5_beginPut_47 : decode nC_X5_beginPut 47 = .ok (.iload_n 1, 1) := by decide +kernel
theorem nD_X5_beginPut_48 : decode nC_X5_beginPut 48 = .ok (.invokevirtual 62, 3) := by decide +kernel
theorem nD_X5_beginPut_51 : decode nC_X5_beginPut 51 = .ok (.aload_n 0, 1) := by decide +kernel
theorem nD_X5_beginPut_52 : decode nC_X5_beginPut 52 = .ok (.invokevirtual 66, 3) := by decide +kernel
theorem nD_X5_beginPut_55 : decode nC_X5_beginPut 55 = .ok (.iconst 1, 1) := by decide +kernel
theorem nD_X5_beginPut_56 : decode nC_X5_beginPut 56 = .ok (.ireturn, 1) := by decide +kernel
theorem nD_X5_mayBegin_0 : decode nC_X5_mayBegin 0 = .ok (.iload_n 1, 1) := by decide +kernel
theorem nD_X5_mayBegin_1 : decode nC_X5_mayBegin 1 = .ok (.invokestatic 133, 3) := by decide +kernel
theorem nD_X5_mayBegin_4 : decode nC_X5_mayBegin 4 = .ok (.ifCond .eq 26, 3) := by decide +kernel
theorem nD_X5_mayBegin_7 : decode nC_X5_mayBegin 7 = .ok (.aload_n 0, 1) := by decide +kernel
theorem nD_X5_mayBegin_8 : decode nC_X5_mayBegin 8 = .ok (.getfield 22, 3) := by decide +kernel
theorem nD_X5_mayBegin_11 : decode nC_X5_mayBegin 11 = .ok (.iload_n 1, 1) := by decide +kernel
theorem nD_X5_mayBegin_12 : decode nC_X5_mayBegin 12 = .ok (.iaload, 1) := by decide +kernel
theorem nD_X5_mayBegin_13 : decode nC_X5_mayBegin 13 = .ok (.iconst (-1), 1) := by decide +kernel
theorem nD_X5_mayBegin_14 : decode nC_X5_mayBegin 14 = .ok (.if_icmp .ne 16, 3) := by decide +kernel
theorem nD_X5_mayBegin_17 : decode nC_X5_mayBegin 17 = .ok (.aload_n 0, 1) := by decide +kernel
theorem nD_X5_mayBegin_18 : decode nC_X5_mayBegin 18 = .ok (.getfield 51, 3) := by decide +kernel
theorem nD_X5_mayBegin_21 : decode nC_X5_mayBegin 21 = .ok (.bipush 8, 2) := by decide +kernel
theorem nD_X5_mayBegin_23 : decode nC_X5_mayBegin 23 = .ok (.if_icmp .ge 7, 3) := by decide +kernel
theorem nD_X5_mayBegin_26 : decode nC_X5_mayBegin 26 = .ok (.iconst 1, 1) := by decide +kernel
theorem nD_X5_mayBegin_27 : decode nC_X5_mayBegin 27 = .ok (.goto 4, 3) := by decide +kernel
theorem nD_X5_mayBegin_30 : decode nC_X5_mayBegin 30 = .ok (.iconst 0, 1) := by decide +kernel
theorem nD_X5_mayBegin_31 : decode nC_X5_mayBegin 31 = .ok (.ireturn, 1) := by decide +kernel
theorem nD_X5_isWorker_0 : decode nC_X5_isWorker 0 = .ok (.iload_n 0, 1) := by decide +kernel
theorem nD_X5_isWorker_1 : decode nC_X5_isWorker 1 = .ok (.ifCond .lt 12, 3) := by decide +kernel
theorem nD_X5_isWorker_4 : decode nC_X5_isWorker 4 = .ok (.iload_n 0, 1) := by decide +kernel
theorem nD_X5_isWorker_5 : decode nC_X5_isWorker 5 = .ok (.iconst 3, 1) := by decide +kernel
theorem nD_X5_isWorker_6 : decode nC_X5_isWorker 6 = .ok (.if_icmp .ge 7, 3) := by decide +kernel
theorem nD_X5_isWorker_9 : decode nC_X5_isWorker 9 = .ok (.iconst 1, 1) := by decide +kernel
theorem nD_X5_isWorker_10 : decode nC_X5_isWorker 10 = .ok (.goto 4, 3) := by decide +kernel
theorem nD_X5_isWorker_13 : decode nC_X5_isWorker 13 = .ok (.iconst 0, 1) := by decide +kernel
theorem nD_X5_isWorker_14 : decode nC_X5_isWorker 14 = .ok (.ireturn, 1) := by decide +kernel
theorem nD_X5_isValue_0 : decode nC_X5_isValue 0 = .ok (.iload_n 0, 1) := by decide +kernel
theorem nD_X5_isValue_1 : decode nC_X5_isValue 1 = .ok (.ifCond .lt 13, 3) := by decide +kernel
theorem nD_X5_isValue_4 : decode nC_X5_isValue 4 = .ok (.iload_n 0, 1) := by decide +kernel
theorem nD_X5_isValue_5 : decode nC_X5_isValue 5 = .ok (.bipush 16, 2) := by decide +kernel
theorem nD_X5_isValue_7 : decode nC_X5_isValue 7 = .ok (.if_icmp .ge 7, 3) := by decide +kernel
theorem nD_X5_isValue_10 : decode nC_X5_isValue 10 = .ok (.iconst 1, 1) := by decide +kernel
theorem nD_X5_isValue_11 : decode nC_X5_isValue 11 = .ok (.goto 4, 3) := by decide +kernel
theorem nD_X5_isValue_14 : decode nC_X5_isValue 14 = .ok (.iconst 0, 1) := by decide +kernel
theorem nD_X5_isValue_15 : decode nC_X5_isValue 15 = .ok (.ireturn, 1) := by decide +kernel
theorem nD_X4_letsPut_0 : decode nC_X4_letsPut 0 = .ok (.aload_n 0, 1) := by decide +kernel
theorem nD_X4_letsPut_1 : decode nC_X4_letsPut 1 = .ok (.getfield 11, 3) := by decide +kernel
theorem nD_X4_letsPut_4 : decode nC_X4_letsPut 4 = .ok (.iconst 2, 1) := by decide +kernel
theorem nD_X4_letsPut_5 : decode nC_X4_letsPut 5 = .ok (.if_icmp .ne 7, 3) := by decide +kernel
theorem nD_X4_letsPut_8 : decode nC_X4_letsPut 8 = .ok (.iload_n 1, 1) := by decide +kernel
theorem nD_X4_letsPut_9 : decode nC_X4_letsPut 9 = .ok (.ifCond .ne 7, 3) := by decide +kernel
theorem nD_X4_letsPut_12 : decode nC_X4_letsPut 12 = .ok (.iconst 1, 1) := by decide +kernel
theorem nD_X4_letsPut_13 : decode nC_X4_letsPut 13 = .ok (.goto 4, 3) := by decide +kernel
theorem nD_X4_letsPut_16 : decode nC_X4_letsPut 16 = .ok (.iconst 0, 1) := by decide +kernel
theorem nD_X4_letsPut_17 : decode nC_X4_letsPut 17 = .ok (.ireturn, 1) := by decide +kernel
theorem nD_X0_startPut_0 : decode nC_X0_startPut 0 = .ok (.aload_n 0, 1) := by decide +kernel
theorem nD_X0_startPut_1 : decode nC_X0_startPut 1 = .ok (.iload_n 1, 1) := by decide +kernel
theorem nD_X0_startPut_2 : decode nC_X0_startPut 2 = .ok (.putfield 7, 3) := by decide +kernel
theorem nD_X0_startPut_5 : decode nC_X0_startPut 5 = .ok (.aload_n 0, 1) := by decide +kernel
theorem nD_X0_startPut_6 : decode nC_X0_startPut 6 = .ok (.iconst 1, 1) := by decide +kernel
theorem nD_X0_startPut_7 : decode nC_X0_startPut 7 = .ok (.putfield 13, 3) := by decide +kernel
theorem nD_X0_startPut_10 : decode nC_X0_startPut 10 = .ok (.aload_n 0, 1) := by decide +kernel
theorem nD_X0_startPut_11 : decode nC_X0_startPut 11 = .ok (.iload_n 2, 1) := by decide +kernel
theorem nD_X0_startPut_12 : decode nC_X0_startPut 12 = .ok (.putfield 17, 3) := by decide +kernel
theorem nD_X0_startPut_15 : decode nC_X0_startPut 15 = .ok (.aload_n 0, 1) := by decide +kernel
theorem nD_X0_startPut_16 : decode nC_X0_startPut 16 = .ok (.iload_n 3, 1) := by decide +kernel
theorem nD_X0_startPut_17 : decode nC_X0_startPut 17 = .ok (.putfield 20, 3) := by decide +kernel
theorem nD_X0_startPut_20 : decode nC_X0_startPut 20 = .ok (.return_, 1) := by decide +kernel
theorem nD_X5_openNextCall_0 : decode nC_X5_openNextCall 0 = .ok (.aload_n 0, 1) := by decide +kernel
theorem nD_X5_openNextCall_1 : decode nC_X5_openNextCall 1 = .ok (.getfield 22, 3) := by decide +kernel
theorem nD_X5_openNextCall_4 : decode nC_X5_openNextCall 4 = .ok (.iload_n 1, 1) := by decide +kernel
theorem nD_X5_openNextCall_5 : decode nC_X5_openNextCall 5 = .ok (.aload_n 0, 1) := by decide +kernel
theorem nD_X5_openNextCall_6 : decode nC_X5_openNextCall 6 = .ok (.getfield 51, 3) := by decide +kernel
theorem nD_X5_openNextCall_9 : decode nC_X5_openNextCall 9 = .ok (.iastore, 1) := by decide +kernel
theorem nD_X5_openNextCall_10 : decode nC_X5_openNextCall 10 = .ok (.aload_n 0, 1) := by decide +kernel
theorem nD_X5_openNextCall_11 : decode nC_X5_openNextCall 11 = .ok (.dup, 1) := by decide +kernel
theorem nD_X5_openNextCall_12 : decode nC_X5_openNextCall 12 = .ok (.getfield 51, 3) := by decide +kernel
theorem nD_X5_openNextCall_15 : decode nC_X5_openNextCall 15 = .ok (.iconst 1, 1) := by decide +kernel
theorem nD_X5_openNextCall_16 : decode nC_X5_openNextCall 16 = .ok (.iadd, 1) := by decide +kernel
theorem nD_X5_openNextCall_17 : decode nC_X5_openNextCall 17 = .ok (.putfield 51, 3) := by decide +kernel
theorem nD_X5_openNextCall_20 : decode nC_X5_openNextCall 20 = .ok (.aload_n 0, 1) := by decide +kernel
theorem nD_X5_openNextCall_21 : decode nC_X5_openNextCall 21 = .ok (.dup, 1) := by decide +kernel
theorem nD_X5_openNextCall_22 : decode nC_X5_openNextCall 22 = .ok (.getfield 88, 3) := by decide +kernel
theorem nD_X5_openNextCall_25 : decode nC_X5_openNextCall 25 = .ok (.iconst 1, 1) := by decide +kernel
theorem nD_X5_openNextCall_26 : decode nC_X5_openNextCall 26 = .ok (.iadd, 1) := by decide +kernel
theorem nD_X5_openNextCall_27 : decode nC_X5_openNextCall 27 = .ok (.putfield 88, 3) := by decide +kernel
theorem nD_X5_openNextCall_30 : decode nC_X5_openNextCall 30 = .ok (.return_, 1) := by decide +kernel
theorem nD_X5_beginTake_0 : decode nC_X5_beginTake 0 = .ok (.aload_n 0, 1) := by decide +kernel
theorem nD_X5_beginTake_1 : decode nC_X5_beginTake 1 = .ok (.iload_n 1, 1) := by decide +kernel
theorem nD_X5_beginTake_2 : decode nC_X5_beginTake 2 = .ok (.invokevirtual 41, 3) := by decide +kernel
