theorem nD_X5_beginTake_5 : decode nC_X5_beginTake 5 = .ok (.ifCond .ne 5, 3) := by decide +kernel
theorem nD_X5_beginTake_8 : decode nC_X5_beginTake 8 = .ok (.iconst 0, 1) := by decide +kernel
theorem nD_X5_beginTake_9 : decode nC_X5_beginTake 9 = .ok (.ireturn, 1) := by decide +kernel
theorem nD_X5_beginTake_10 : decode nC_X5_beginTake 10 = .ok (.aload_n 0, 1) := by decide +kernel
theorem nD_X5_beginTake_11 : decode nC_X5_beginTake 11 = .ok (.getfield 18, 3) := by decide +kernel
theorem nD_X5_beginTake_14 : decode nC_X5_beginTake 14 = .ok (.aload_n 0, 1) := by decide +kernel
theorem nD_X5_beginTake_15 : decode nC_X5_beginTake 15 = .ok (.getfield 51, 3) := by decide +kernel
theorem nD_X5_beginTake_18 : decode nC_X5_beginTake 18 = .ok (.aaload, 1) := by decide +kernel
theorem nD_X5_beginTake_19 : decode nC_X5_beginTake 19 = .ok (.iload_n 1, 1) := by decide +kernel
theorem nD_X5_beginTake_20 : decode nC_X5_beginTake 20 = .ok (.aload_n 0, 1) := by decide +kernel
theorem nD_X5_beginTake_21 : decode nC_X5_beginTake 21 = .ok (.getfield 55, 3) := by decide +kernel
theorem nD_X5_beginTake_24 : decode nC_X5_beginTake 24 = .ok (.invokevirtual 69, 3) := by decide +kernel
theorem nD_X5_beginTake_27 : decode nC_X5_beginTake 27 = .ok (.aload_n 0, 1) := by decide +kernel
theorem nD_X5_beginTake_28 : decode nC_X5_beginTake 28 = .ok (.iload_n 1, 1) := by decide +kernel
theorem nD_X5_beginTake_29 : decode nC_X5_beginTake 29 = .ok (.invokevirtual 62, 3) := by decide +kernel
theorem nD_X5_beginTake_32 : decode nC_X5_beginTake 32 = .ok (.aload_n 0, 1) := by decide +kernel
theorem nD_X5_beginTake_33 : decode nC_X5_beginTake 33 = .ok (.invokevirtual 66, 3) := by decide +kernel
theorem nD_X5_beginTake_36 : decode nC_X5_beginTake 36 = .ok (.iconst 1, 1) := by decide +kernel
theorem nD_X5_beginTake_37 : decode nC_X5_beginTake 37 = .ok (.ireturn, 1) := by decide +kernel
theorem nD_X0_startTake_0 : decode nC_X0_startTake 0 = .ok (.aload_n 0, 1) := by decide +kernel
theorem nD_X0_startTake_1 : decode nC_X0_startTake 1 = .ok (.iload_n 1, 1) := by decide +kernel
theorem nD_X0_startTake_2 : decode nC_X0_startTake 2 = .ok (.putfield 7, 3) := by decide +kernel
theorem nD_X0_startTake_5 : decode nC_X0_startTake 5 = .ok (.aload_n 0, 1) := by decide +kernel
theorem nD_X0_startTake_6 : decode nC_X0_startTake 6 = .ok (.iconst 0, 1) := by decide +kernel
theorem nD_X0_startTake_7 : decode nC_X0_startTake 7 = .ok (.putfield 13, 3) := by decide +kernel
theorem nD_X0_startTake_10 : decode nC_X0_startTake 10 = .ok (.aload_n 0, 1) := by decide +kernel
theorem nD_X0_startTake_11 : decode nC_X0_startTake 11 = .ok (.iload_n 2, 1) := by decide +kernel
theorem nD_X0_startTake_12 : decode nC_X0_startTake 12 = .ok (.putfield 20, 3) := by decide +kernel
theorem nD_X0_startTake_15 : decode nC_X0_startTake 15 = .ok (.return_, 1) := by decide +kernel
theorem nD_X5_endPut_0 : decode nC_X5_endPut 0 = .ok (.aload_n 0, 1) := by decide +kernel
theorem nD_X5_endPut_1 : decode nC_X5_endPut 1 = .ok (.iload_n 1, 1) := by decide +kernel
theorem nD_X5_endPut_2 : decode nC_X5_endPut 2 = .ok (.invokevirtual 72, 3) := by decide +kernel
theorem nD_X5_endPut_5 : decode nC_X5_endPut 5 = .ok (.ifCond .eq 20, 3) := by decide +kernel
theorem nD_X5_endPut_8 : decode nC_X5_endPut 8 = .ok (.aload_n 0, 1) := by decide +kernel
theorem nD_X5_endPut_9 : decode nC_X5_endPut 9 = .ok (.getfield 18, 3) := by decide +kernel
theorem nD_X5_endPut_12 : decode nC_X5_endPut 12 = .ok (.aload_n 0, 1) := by decide +kernel
theorem nD_X5_endPut_13 : decode nC_X5_endPut 13 = .ok (.getfield 22, 3) := by decide +kernel
theorem nD_X5_endPut_16 : decode nC_X5_endPut 16 = .ok (.iload_n 1, 1) := by decide +kernel
theorem nD_X5_endPut_17 : decode nC_X5_endPut 17 = .ok (.iaload, 1) := by decide +kernel
theorem nD_X5_endPut_18 : decode nC_X5_endPut 18 = .ok (.aaload, 1) := by decide +kernel
theorem nD_X5_endPut_19 : decode nC_X5_endPut 19 = .ok (.getfield 75, 3) := by decide +kernel
theorem nD_X5_endPut_22 : decode nC_X5_endPut 22 = .ok (.ifCond .ne 5, 3) := by decide +kernel
theorem nD_X5_endPut_25 : decode nC_X5_endPut 25 = .ok (.iconst 0, 1) := by decide +kernel
theorem nD_X5_endPut_26 : decode nC_X5_endPut 26 = .ok (.ireturn, 1) := by decide +kernel
theorem nD_X5_endPut_27 : decode nC_X5_endPut 27 = .ok (.aload_n 0, 1) := by decide +kernel
theorem nD_X5_endPut_28 : decode nC_X5_endPut 28 = .ok (.iload_n 1, 1) := by decide +kernel
theorem nD_X5_endPut_29 : decode nC_X5_endPut 29 = .ok (.iload_n 2, 1) := by decide +kernel
theorem nD_X5_endPut_30 : decode nC_X5_endPut 30 = .ok (.ifCond .eq 7, 3) := by decide +kernel
theorem nD_X5_endPut_33 : decode nC_X5_endPut 33 = .ok (.iconst 1, 1) := by decide +kernel
theorem nD_X5_endPut_34 : decode nC_X5_endPut 34 = .ok (.goto 4, 3) := by decide +kernel
theorem nD_X5_endPut_37 : decode nC_X5_endPut 37 = .ok (.iconst 0, 1) := by decide +kernel
theorem nD_X5_endPut_38 : decode nC_X5_endPut 38 = .ok (.invokevirtual 79, 3) := by decide +kernel
theorem nD_X5_endPut_41 : decode nC_X5_endPut 41 = .ok (.aload_n 0, 1) := by decide +kernel
theorem nD_X5_endPut_42 : decode nC_X5_endPut 42 = .ok (.invokevirtual 66, 3) := by decide +kernel
theorem nD_X5_endPut_45 : decode nC_X5_endPut 45 = .ok (.iconst 1, 1) := by decide +kernel
theorem nD_X5_endPut_46 : decode nC_X5_endPut 46 = .ok (.ireturn, 1) := by decide +kernel
theorem nD_X5_hasOpenCall_0 : decode nC_X5_hasOpenCall 0 = .ok (.iload_n 1, 1) := by decide +kernel
theorem nD_X5_hasOpenCall_1 : decode nC_X5_hasOpenCall 1 = .ok (.invokestatic 133, 3) := by decide +kernel
theorem nD_X5_hasOpenCall_4 : decode nC_X5_hasOpenCall 4 = .ok (.ifCond .eq 17, 3) := by decide +kernel
theorem nD_X5_hasOpenCall_7 : decode nC_X5_hasOpenCall 7 = .ok (.aload_n 0, 1) := by decide +kernel
theorem nD_X5_hasOpenCall_8 : decode nC_X5_hasOpenCall 8 = .ok (.getfield 22, 3) := by decide +kernel
theorem nD_X5_hasOpenCall_11 : decode nC_X5_hasOpenCall 11 = .ok (.iload_n 1, 1) := by decide +kernel
theorem nD_X5_hasOpenCall_12 : decode nC_X5_hasOpenCall 12 = .ok (.iaload, 1) := by decide +kernel
theorem nD_X5_hasOpenCall_13 : decode nC_X5_hasOpenCall 13 = .ok (.iconst (-1), 1) := by decide +kernel
theorem nD_X5_hasOpenCall_14 : decode nC_X5_hasOpenCall 14 = .ok (.if_icmp .eq 7, 3) := by decide +kernel
theorem nD_X5_hasOpenCall_17 : decode nC_X5_hasOpenCall 17 = .ok (.iconst 1, 1) := by decide +kernel
theorem nD_X5_hasOpenCall_18 : decode nC_X5_hasOpenCall 18 = .ok (.goto 4, 3) := by decide +kernel
theorem nD_X5_hasOpenCall_21 : decode nC_X5_hasOpenCall 21 = .ok (.iconst 0, 1) := by decide +kernel
theorem nD_X5_hasOpenCall_22 : decode nC_X5_hasOpenCall 22 = .ok (.ireturn, 1) := by decide +kernel
theorem nD_X5_endOpenCall_0 : decode nC_X5_endOpenCall 0 = .ok (.aload_n 0, 1) := by decide +kernel
theorem nD_X5_endOpenCall_1 : decode nC_X5_endOpenCall 1 = .ok (.getfield 22, 3) := by decide +kernel
theorem nD_X5_endOpenCall_4 : decode nC_X5_endOpenCall 4 = .ok (.iload_n 1, 1) := by decide +kernel
theorem nD_X5_endOpenCall_5 : decode nC_X5_endOpenCall 5 = .ok (.iaload, 1) := by decide +kernel
theorem nD_X5_endOpenCall_6 : decode nC_X5_endOpenCall 6 = .ok (.istore_n 3, 1) := by decide +kernel
theorem nD_X5_endOpenCall_7 : decode nC_X5_endOpenCall 7 = .ok (.aload_n 0, 1) := by decide +kernel
theorem nD_X5_endOpenCall_8 : decode nC_X5_endOpenCall 8 = .ok (.getfield 18, 3) := by decide +kernel
theorem nD_X5_endOpenCall_11 : decode nC_X5_endOpenCall 11 = .ok (.iload_n 3, 1) := by decide +kernel
theorem nD_X5_endOpenCall_12 : decode nC_X5_endOpenCall 12 = .ok (.aaload, 1) := by decide +kernel
theorem nD_X5_endOpenCall_13 : decode nC_X5_endOpenCall 13 = .ok (.iload_n 2, 1) := by decide +kernel
theorem nD_X5_endOpenCall_14 : decode nC_X5_endOpenCall 14 = .ok (.putfield 145, 3) := by decide +kernel
theorem nD_X5_endOpenCall_17 : decode nC_X5_endOpenCall 17 = .ok (.aload_n 0, 1) := by decide +kernel
theorem nD_X5_endOpenCall_18 : decode nC_X5_endOpenCall 18 = .ok (.dup, 1) := by decide +kernel
theorem nD_X5_endOpenCall_19 : decode nC_X5_endOpenCall 19 = .ok (.getfield 55, 3) := by decide +kernel
theorem nD_X5_endOpenCall_22 : decode nC_X5_endOpenCall 22 = .ok (.iconst 1, 1) := by decide +kernel
theorem nD_X5_endOpenCall_23 : decode nC_X5_endOpenCall 23 = .ok (.iload_n 3, 1) := by decide +kernel
theorem nD_X5_endOpenCall_24 : decode nC_X5_endOpenCall 24 = .ok (.ishl, 1) := by decide +kernel
theorem nD_X5_endOpenCall_25 : decode nC_X5_endOpenCall 25 = .ok (.ior, 1) := by decide +kernel
theorem nD_X5_endOpenCall_26 : decode nC_X5_endOpenCall 26 = .ok (.putfield 55, 3) := by decide +kernel
theorem nD_X5_endOpenCall_29 : decode nC_X5_endOpenCall 29 = .ok (.aload_n 0, 1) := by decide +kernel
theorem nD_X5_endOpenCall_30 : decode nC_X5_endOpenCall 30 = .ok (.iload_n 1, 1) := by decide +kernel
theorem nD_X5_endOpenCall_31 : decode nC_X5_endOpenCall 31 = .ok (.invokevirtual 85, 3) := by decide +kernel
theorem nD_X5_endOpenCall_34 : decode nC_X5_endOpenCall 34 = .ok (.return_, 1) := by decide +kernel
theorem nD_X5_closeOpenCall_0 : decode nC_X5_closeOpenCall 0 = .ok (.aload_n 0, 1) := by decide +kernel
theorem nD_X5_closeOpenCall_1 : decode nC_X5_closeOpenCall 1 = .ok (.getfield 22, 3) := by decide +kernel
theorem nD_X5_closeOpenCall_4 : decode nC_X5_closeOpenCall 4 = .ok (.iload_n 1, 1) := by decide +kernel
theorem nD_X5_closeOpenCall_5 : decode nC_X5_closeOpenCall 5 = .ok (.iconst (-1), 1) := by decide +kernel
theorem nD_X5_closeOpenCall_6 : decode nC_X5_closeOpenCall 6 = .ok (.iastore, 1) := by decide +kernel
theorem nD_X5_closeOpenCall_7 : decode nC_X5_closeOpenCall 7 = .ok (.aload_n 0, 1) := by decide +kernel
theorem nD_X5_closeOpenCall_8 : decode nC_X5_closeOpenCall 8 = .ok (.dup, 1) := by decide +kernel
theorem nD_X5_closeOpenCall_9 : decode nC_X5_closeOpenCall 9 = .ok (.getfield 88, 3) := by decide +kernel
theorem nD_X5_closeOpenCall_12 : decode nC_X5_closeOpenCall 12 = .ok (.iconst 1, 1) := by decide +kernel
theorem nD_X5_closeOpenCall_13 : decode nC_X5_closeOpenCall 13 = .ok (.iadd, 1) := by decide +kernel
theorem nD_X5_closeOpenCall_14 : decode nC_X5_closeOpenCall 14 = .ok (.putfield 88, 3) := by decide +kernel
theorem nD_X5_closeOpenCall_17 : decode nC_X5_closeOpenCall 17 = .ok (.return_, 1) := by decide +kernel
theorem nD_X5_endTake_0 : decode nC_X5_endTake 0 = .ok (.aload_n 0, 1) := by decide +kernel
theorem nD_X5_endTake_1 : decode nC_X5_endTake 1 = .ok (.iload_n 1, 1) := by decide +kernel
theorem nD_X5_endTake_2 : decode nC_X5_endTake 2 = .ok (.invokevirtual 72, 3) := by decide +kernel
theorem nD_X5_endTake_5 : decode nC_X5_endTake 5 = .ok (.ifCond .eq 20, 3) := by decide +kernel
theorem nD_X5_endTake_8 : decode nC_X5_endTake 8 = .ok (.aload_n 0, 1) := by decide +kernel
theorem nD_X5_endTake_9 : decode nC_X5_endTake 9 = .ok (.getfield 18, 3) := by decide +kernel
theorem nD_X5_endTake_12 : decode nC_X5_endTake 12 = .ok (.aload_n 0, 1) := by decide +kernel
theorem nD_X5_endTake_13 : decode nC_X5_endTake 13 = .ok (.getfield 22, 3) := by decide +kernel
theorem nD_X5_endTake_16 : decode nC_X5_endTake 16 = .ok (.iload_n 1, 1) := by decide +kernel
theorem nD_X5_endTake_17 : decode nC_X5_endTake 17 = .ok (.iaload, 1) := by decide +kernel
theorem nD_X5_endTake_18 : decode nC_X5_endTake 18 = .ok (.aaload, 1) := by decide +kernel
theorem nD_X5_endTake_19 : decode nC_X5_endTake 19 = .ok (.getfield 75, 3) := by decide +kernel
theorem nD_X5_endTake_22 : decode nC_X5_endTake 22 = .ok (.ifCond .eq 5, 3) := by decide +kernel
theorem nD_X5_endTake_25 : decode nC_X5_endTake 25 = .ok (.iconst 0, 1) := by decide +kernel
theorem nD_X5_endTake_26 : decode nC_X5_endTake 26 = .ok (.ireturn, 1) := by decide +kernel
theorem nD_X5_endTake_27 : decode nC_X5_endTake 27 = .ok (.iload_n 2, 1) := by decide +kernel
theorem nD_X5_endTake_28 : decode nC_X5_endTake 28 = .ok (.iconst (-1), 1) := by decide +kernel
theorem nD_X5_endTake_29 : decode nC_X5_endTake 29 = .ok (.if_icmp .eq 12, 3) := by decide +kernel
theorem nD_X5_endTake_32 : decode nC_X5_endTake 32 = .ok (.iload_n 2, 1) := by decide +kernel
theorem nD_X5_endTake_33 : decode nC_X5_endTake 33 = .ok (.invokestatic 45, 3) := by decide +kernel
theorem nD_X5_endTake_36 : decode nC_X5_endTake 36 = .ok (.ifCond .ne 5, 3) := by decide +kernel
theorem nD_X5_endTake_39 : decode nC_X5_endTake 39 = .ok (.iconst 0, 1) := by decide +kernel
theorem nD_X5_endTake_40 : decode nC_X5_endTake 40 = .ok (.ireturn, 1) := by decide +kernel
theorem nD_X5_endTake_41 : decode nC_X5_endTake 41 = .ok (.aload_n 0, 1) := by decide +kernel
theorem nD_X5_endTake_42 : decode nC_X5_endTake 42 = .ok (.iload_n 1, 1) := by decide +kernel
theorem nD_X5_endTake_43 : decode nC_X5_endTake 43 = .ok (.iload_n 2, 1) := by decide +kernel
theorem nD_X5_endTake_44 : decode nC_X5_endTake 44 = .ok (.invokevirtual 79, 3) := by decide +kernel
theorem nD_X5_endTake_47 : decode nC_X5_endTake 47 = .ok (.aload_n 0, 1) := by decide +kernel
theorem nD_X5_endTake_48 : decode nC_X5_endTake 48 = .ok (.invokevirtual 66, 3) := by decide +kernel
theorem nD_X5_endTake_51 : decode nC_X5_endTake 51 = .ok (.iconst 1, 1) := by decide +kernel
theorem nD_X5_endTake_52 : decode nC_X5_endTake 52 = .ok (.ireturn, 1) := by decide +kernel
theorem nD_X5_giveUp_0 : decode nC_X5_giveUp 0 = .ok (.aload_n 0, 1) := by decide +kernel
theorem nD_X5_giveUp_1 : decode nC_X5_giveUp 1 = .ok (.iload_n 1, 1) := by decide +kernel
theorem nD_X5_giveUp_2 : decode nC_X5_giveUp 2 = .ok (.invokevirtual 72, 3) := by decide +kernel
theorem nD_X5_giveUp_5 : decode nC_X5_giveUp 5 = .ok (.ifCond .ne 5, 3) := by decide +kernel
theorem nD_X5_giveUp_8 : decode nC_X5_giveUp 8 = .ok (.iconst 0, 1) := by decide +kernel
theorem nD_X5_giveUp_9 : decode nC_X5_giveUp 9 = .ok (.ireturn, 1) := by decide +kernel
theorem nD_X5_giveUp_10 : decode nC_X5_giveUp 10 = .ok (.aload_n 0, 1) := by decide +kernel
theorem nD_X5_giveUp_11 : decode nC_X5_giveUp 11 = .ok (.dup, 1) := by decide +kernel
theorem nD_X5_giveUp_12 : decode nC_X5_giveUp 12 = .ok (.getfield 82, 3) := by decide +kernel
theorem nD_X5_giveUp_15 : decode nC_X5_giveUp 15 = .ok (.iconst 1, 1) := by decide +kernel
theorem nD_X5_giveUp_16 : decode nC_X5_giveUp 16 = .ok (.aload_n 0, 1) := by decide +kernel
theorem nD_X5_giveUp_17 : decode nC_X5_giveUp 17 = .ok (.getfield 22, 3) := by decide +kernel
theorem nD_X5_giveUp_20 : decode nC_X5_giveUp 20 = .ok (.iload_n 1, 1) := by decide +kernel
theorem nD_X5_giveUp_21 : decode nC_X5_giveUp 21 = .ok (.iaload, 1) := by decide +kernel
theorem nD_X5_giveUp_22 : decode nC_X5_giveUp 22 = .ok (.ishl, 1) := by decide +kernel
theorem nD_X5_giveUp_23 : decode nC_X5_giveUp 23 = .ok (.ior, 1) := by decide +kernel
theorem nD_X5_giveUp_24 : decode nC_X5_giveUp 24 = .ok (.putfield 82, 3) := by decide +kernel
theorem nD_X5_giveUp_27 : decode nC_X5_giveUp 27 = .ok (.aload_n 0, 1) := by decide +kernel
theorem nD_X5_giveUp_28 : decode nC_X5_giveUp 28 = .ok (.iload_n 1, 1) := by decide +kernel
theorem nD_X5_giveUp_29 : decode nC_X5_giveUp 29 = .ok (.invokevirtual 85, 3) := by decide +kernel
theorem nD_X5_giveUp_32 : decode nC_X5_giveUp 32 = .ok (.aload_n 0, 1) := by decide +kernel
theorem nD_X5_giveUp_33 : decode nC_X5_giveUp 33 = .ok (.invokevirtual 66, 3) := by decide +kernel
theorem nD_X5_giveUp_36 : decode nC_X5_giveUp 36 = .ok (.iconst 1, 1) := by decide +kernel
theorem nD_X5_giveUp_37 : decode nC_X5_giveUp 37 = .ok (.ireturn, 1) := by decide +kernel
theorem nD_X5_events_0 : decode nC_X5_events 0 = .ok (.aload_n 0, 1) := by decide +kernel
theorem nD_X5_events_1 : decode nC_X5_events 1 = .ok (.getfield 88, 3) := by decide +kernel
theorem nD_X5_events_4 : decode nC_X5_events 4 = .ok (.ireturn, 1) := by decide +kernel
theorem nD_X5_begun_0 : decode nC_X5_begun 0 = .ok (.aload_n 0, 1) := by decide +kernel
theorem nD_X5_begun_1 : decode nC_X5_begun 1 = .ok (.getfield 51, 3) := by decide +kernel
theorem nD_X5_begun_4 : decode nC_X5_begun 4 = .ok (.ireturn, 1) := by decide +kernel
theorem nD_X5_brokenAt_0 : decode nC_X5_brokenAt 0 = .ok (.aload_n 0, 1) := by decide +kernel
theorem nD_X5_brokenAt_1 : decode nC_X5_brokenAt 1 = .ok (.getfield 94, 3) := by decide +kernel
theorem nD_X5_brokenAt_4 : decode nC_X5_brokenAt 4 = .ok (.ireturn, 1) := by decide +kernel
theorem nD_X5_explanations_0 : decode nC_X5_explanations 0 = .ok (.aload_n 0, 1) := by decide +kernel
theorem nD_X5_explanations_1 : decode nC_X5_explanations 1 = .ok (.getfield 32, 3) := by decide +kernel
theorem nD_X5_explanations_4 : decode nC_X5_explanations 4 = .ok (.getfield 91, 3) := by decide +kernel
theorem nD_X5_explanations_7 : decode nC_X5_explanations 7 = .ok (.i2l, 1) := by decide +kernel
theorem nD_X5_explanations_8 : decode nC_X5_explanations 8 = .ok (.lreturn, 1) := by decide +kernel
theorem nD_X5_outcomes_0 : decode nC_X5_outcomes 0 = .ok (.aload_n 0, 1) := by decide +kernel
theorem nD_X5_outcomes_1 : decode nC_X5_outcomes 1 = .ok (.getfield 32, 3) := by decide +kernel
theorem nD_X5_outcomes_4 : decode nC_X5_outcomes 4 = .ok (.getfield 97, 3) := by decide +kernel
theorem nD_X5_outcomes_7 : decode nC_X5_outcomes 7 = .ok (.getfield 101, 3) := by decide +kernel
theorem nD_X5_outcomes_10 : decode nC_X5_outcomes 10 = .ok (.ireturn, 1) := by decide +kernel
theorem nD_X5_fewest_0 : decode nC_X5_fewest 0 = .ok (.aload_n 0, 1) := by decide +kernel
theorem nD_X5_fewest_1 : decode nC_X5_fewest 1 = .ok (.getfield 32, 3) := by decide +kernel
theorem nD_X5_fewest_4 : decode nC_X5_fewest 4 = .ok (.getfield 97, 3) := by decide +kernel
theorem nD_X5_fewest_7 : decode nC_X5_fewest 7 = .ok (.invokevirtual 106, 3) := by decide +kernel
theorem nD_X5_fewest_10 : decode nC_X5_fewest 10 = .ok (.ireturn, 1) := by decide +kernel
theorem nD_X3_shortest_0 : decode nC_X3_shortest 0 = .ok (.iconst (-1), 1) := by decide +kernel
theorem nD_X3_shortest_1 : decode nC_X3_shortest 1 = .ok (.istore_n 1, 1) := by decide +kernel
theorem nD_X3_shortest_2 : decode nC_X3_shortest 2 = .ok (.iconst 0, 1) := by decide +kernel
theorem nD_X3_shortest_3 : decode nC_X3_shortest 3 = .ok (.istore_n 2, 1) := by decide +kernel
theorem nD_X3_shortest_4 : decode nC_X3_shortest 4 = .ok (.iload_n 2, 1) := by decide +kernel
theorem nD_X3_shortest_5 : decode nC_X3_shortest 5 = .ok (.aload_n 0, 1) := by decide +kernel
theorem nD_X3_shortest_6 : decode nC_X3_shortest 6 = .ok (.getfield 25, 3) := by decide +kernel
theorem nD_X3_shortest_9 : decode nC_X3_shortest 9 = .ok (.if_icmp .ge 34, 3) := by decide +kernel
theorem nD_X3_shortest_12 : decode nC_X3_shortest 12 = .ok (.aload_n 0, 1) := by decide +kernel
theorem nD_X3_shortest_13 : decode nC_X3_shortest 13 = .ok (.getfield 11, 3) := by decide +kernel
theorem nD_X3_shortest_16 : decode nC_X3_shortest 16 = .ok (.iload_n 2, 1) := by decide +kernel
theorem nD_X3_shortest_17 : decode nC_X3_shortest 17 = .ok (.laload, 1) := by decide +kernel
theorem nD_X3_shortest_18 : decode nC_X3_shortest 18 = .ok (.invokestatic 31, 3) := by decide +kernel
theorem nD_X3_shortest_21 : decode nC_X3_shortest 21 = .ok (.istore_n 3, 1) := by decide +kernel
theorem nD_X3_shortest_22 : decode nC_X3_shortest 22 = .ok (.iload_n 1, 1) := by decide +kernel
theorem nD_X3_shortest_23 : decode nC_X3_shortest 23 = .ok (.iconst (-1), 1) := by decide +kernel
theorem nD_X3_shortest_24 : decode nC_X3_shortest 24 = .ok (.if_icmp .ne 7, 3) := by decide +kernel
theorem nD_X3_shortest_27 : decode nC_X3_shortest 27 = .ok (.iload_n 3, 1) := by decide +kernel
theorem nD_X3_shortest_28 : decode nC_X3_shortest 28 = .ok (.goto 8, 3) := by decide +kernel
theorem nD_X3_shortest_31 : decode nC_X3_shortest 31 = .ok (.iload_n 1, 1) := by decide +kernel
theorem nD_X3_shortest_32 : decode nC_X3_shortest 32 = .ok (.iload_n 3, 1) := by decide +kernel
theorem nD_X3_shortest_33 : decode nC_X3_shortest 33 = .ok (.invokestatic 37, 3) := by decide +kernel
theorem nD_X3_shortest_36 : decode nC_X3_shortest 36 = .ok (.istore_n 1, 1) := by decide +kernel
theorem nD_X3_shortest_37 : decode nC_X3_shortest 37 = .ok (.iinc 2 1, 3) := by decide +kernel
theorem nD_X3_shortest_40 : decode nC_X3_shortest 40 = .ok (.goto (-36), 3) := by decide +kernel
theorem nD_X3_shortest_43 : decode nC_X3_shortest 43 = .ok (.iload_n 1, 1) := by decide +kernel
theorem nD_X3_shortest_44 : decode nC_X3_shortest 44 = .ok (.ireturn, 1) := by decide +kernel
theorem nD_X5_most_0 : decode nC_X5_most 0 = .ok (.aload_n 0, 1) := by decide +kernel
theorem nD_X5_most_1 : decode nC_X5_most 1 = .ok (.getfield 32, 3) := by decide +kernel
theorem nD_X5_most_4 : decode nC_X5_most 4 = .ok (.getfield 97, 3) := by decide +kernel
theorem nD_X5_most_7 : decode nC_X5_most 7 = .ok (.invokevirtual 110, 3) := by decide +kernel
theorem nD_X5_most_10 : decode nC_X5_most 10 = .ok (.ireturn, 1) := by decide +kernel
theorem nD_X3_longest_0 : decode nC_X3_longest 0 = .ok (.iconst (-1), 1) := by decide +kernel
theorem nD_X3_longest_1 : decode nC_X3_longest 1 = .ok (.istore_n 1, 1) := by decide +kernel
theorem nD_X3_longest_2 : decode nC_X3_longest 2 = .ok (.iconst 0, 1) := by decide +kernel
theorem nD_X3_longest_3 : decode nC_X3_longest 3 = .ok (.istore_n 2, 1) := by decide +kernel
theorem nD_X3_longest_4 : decode nC_X3_longest 4 = .ok (.iload_n 2, 1) := by decide +kernel
theorem nD_X3_longest_5 : decode nC_X3_longest 5 = .ok (.aload_n 0, 1) := by decide +kernel
theorem nD_X3_longest_6 : decode nC_X3_longest 6 = .ok (.getfield 25, 3) := by decide +kernel
theorem nD_X3_longest_9 : decode nC_X3_longest 9 = .ok (.if_icmp .ge 23, 3) := by decide +kernel
theorem nD_X3_longest_12 : decode nC_X3_longest 12 = .ok (.iload_n 1, 1) := by decide +kernel
theorem nD_X3_longest_13 : decode nC_X3_longest 13 = .ok (.aload_n 0, 1) := by decide +kernel
theorem nD_X3_longest_14 : decode nC_X3_longest 14 = .ok (.getfield 11, 3) := by decide +kernel
theorem nD_X3_longest_17 : decode nC_X3_longest 17 = .ok (.iload_n 2, 1) := by decide +kernel
theorem nD_X3_longest_18 : decode nC_X3_longest 18 = .ok (.laload, 1) := by decide +kernel
theorem nD_X3_longest_19 : decode nC_X3_longest 19 = .ok (.invokestatic 31, 3) := by decide +kernel
theorem nD_X3_longest_22 : decode nC_X3_longest 22 = .ok (.invokestatic 43, 3) := by decide +kernel
theorem nD_X3_longest_25 : decode nC_X3_longest 25 = .ok (.istore_n 1, 1) := by decide +kernel
theorem nD_X3_longest_26 : decode nC_X3_longest 26 = .ok (.iinc 2 1, 3) := by decide +kernel
theorem nD_X3_longest_29 : decode nC_X3_longest 29 = .ok (.goto (-25), 3) := by decide +kernel
theorem nD_X3_longest_32 : decode nC_X3_longest 32 = .ok (.iload_n 1, 1) := by decide +kernel
theorem nD_X3_longest_33 : decode nC_X3_longest 33 = .ok (.ireturn, 1) := by decide +kernel
theorem nD_X5_mayHold_0 : decode nC_X5_mayHold 0 = .ok (.aload_n 0, 1) := by decide +kernel
theorem nD_X5_mayHold_1 : decode nC_X5_mayHold 1 = .ok (.getfield 32, 3) := by decide +kernel
theorem nD_X5_mayHold_4 : decode nC_X5_mayHold 4 = .ok (.getfield 97, 3) := by decide +kernel
theorem nD_X5_mayHold_7 : decode nC_X5_mayHold 7 = .ok (.iload_n 1, 1) := by decide +kernel
theorem nD_X5_mayHold_8 : decode nC_X5_mayHold 8 = .ok (.iload_n 2, 1) := by decide +kernel
theorem nD_X5_mayHold_9 : decode nC_X5_mayHold 9 = .ok (.invokevirtual 113, 3) := by decide +kernel
theorem nD_X5_mayHold_12 : decode nC_X5_mayHold 12 = .ok (.ireturn, 1) := by decide +kernel
theorem nD_X3_anyHas_0 : decode nC_X3_anyHas 0 = .ok (.iconst 0, 1) := by decide +kernel
theorem nD_X3_anyHas_1 : decode nC_X3_anyHas 1 = .ok (.istore_n 3, 1) := by decide +kernel
theorem nD_X3_anyHas_2 : decode nC_X3_anyHas 2 = .ok (.iload_n 3, 1) := by decide +kernel
theorem nD_X3_anyHas_3 : decode nC_X3_anyHas 3 = .ok (.aload_n 0, 1) := by decide +kernel
theorem nD_X3_anyHas_4 : decode nC_X3_anyHas 4 = .ok (.getfield 25, 3) := by decide +kernel
theorem nD_X3_anyHas_7 : decode nC_X3_anyHas 7 = .ok (.if_icmp .ge 42, 3) := by decide +kernel
theorem nD_X3_anyHas_10 : decode nC_X3_anyHas 10 = .ok (.iload_n 1, 1) := by decide +kernel
theorem nD_X3_anyHas_11 : decode nC_X3_anyHas 11 = .ok (.ifCond .lt 32, 3) := by decide +kernel
theorem nD_X3_anyHas_14 : decode nC_X3_anyHas 14 = .ok (.iload_n 1, 1) := by decide +kernel
theorem nD_X3_anyHas_15 : decode nC_X3_anyHas 15 = .ok (.aload_n 0, 1) := by decide +kernel
theorem nD_X3_anyHas_16 : decode nC_X3_anyHas 16 = .ok (.getfield 11, 3) := by decide +kernel
theorem nD_X3_anyHas_19 : decode nC_X3_anyHas 19 = .ok (.iload_n 3, 1) := by decide +kernel
theorem nD_X3_anyHas_20 : decode nC_X3_anyHas 20 = .ok (.laload, 1) := by decide +kernel
theorem nD_X3_anyHas_21 : decode nC_X3_anyHas 21 = .ok (.invokestatic 31, 3) := by decide +kernel
theorem nD_X3_anyHas_24 : decode nC_X3_anyHas 24 = .ok (.if_icmp .ge 19, 3) := by decide +kernel
theorem nD_X3_anyHas_27 : decode nC_X3_anyHas 27 = .ok (.aload_n 0, 1) := by decide +kernel
theorem nD_X3_anyHas_28 : decode nC_X3_anyHas 28 = .ok (.getfield 11, 3) := by decide +kernel
theorem nD_X3_anyHas_31 : decode nC_X3_anyHas 31 = .ok (.iload_n 3, 1) := by decide +kernel
theorem nD_X3_anyHas_32 : decode nC_X3_anyHas 32 = .ok (.laload, 1) := by decide +kernel
theorem nD_X3_anyHas_33 : decode nC_X3_anyHas 33 = .ok (.iload_n 1, 1) := by decide +kernel
theorem nD_X3_anyHas_34 : decode nC_X3_anyHas 34 = .ok (.invokestatic 46, 3) := by decide +kernel
theorem nD_X3_anyHas_37 : decode nC_X3_anyHas 37 = .ok (.iload_n 2, 1) := by decide +kernel
theorem nD_X3_anyHas_38 : decode nC_X3_anyHas 38 = .ok (.if_icmp .ne 5, 3) := by decide +kernel
theorem nD_X3_anyHas_41 : decode nC_X3_anyHas 41 = .ok (.iconst 1, 1) := by decide +kernel
theorem nD_X3_anyHas_42 : decode nC_X3_anyHas 42 = .ok (.ireturn, 1) := by decide +kernel
theorem nD_X3_anyHas_43 : decode nC_X3_anyHas 43 = .ok (.iinc 3 1, 3) := by decide +kernel
theorem nD_X3_anyHas_46 : decode nC_X3_anyHas 46 = .ok (.goto (-44), 3) := by decide +kernel
theorem nD_X3_anyHas_49 : decode nC_X3_anyHas 49 = .ok (.iconst 0, 1) := by decide +kernel
theorem nD_X3_anyHas_50 : decode nC_X3_anyHas 50 = .ok (.ireturn, 1) := by decide +kernel
theorem nD_X5_certain_0 : decode nC_X5_certain 0 = .ok (.aload_n 0, 1) := by decide +kernel
theorem nD_X5_certain_1 : decode nC_X5_certain 1 = .ok (.invokevirtual 117, 3) := by decide +kernel
theorem nD_X5_certain_4 : decode nC_X5_certain 4 = .ok (.ifCond .eq 34, 3) := by decide +kernel
theorem nD_X5_certain_7 : decode nC_X5_certain 7 = .ok (.aload_n 0, 1) := by decide +kernel
theorem nD_X5_certain_8 : decode nC_X5_certain 8 = .ok (.iload_n 1, 1) := by decide +kernel
theorem nD_X5_certain_9 : decode nC_X5_certain 9 = .ok (.invokevirtual 72, 3) := by decide +kernel
theorem nD_X5_certain_12 : decode nC_X5_certain 12 = .ok (.ifCond .eq 26, 3) := by decide +kernel
theorem nD_X5_certain_15 : decode nC_X5_certain 15 = .ok (.aload_n 0, 1) := by decide +kernel
theorem nD_X5_certain_16 : decode nC_X5_certain 16 = .ok (.getfield 32, 3) := by decide +kernel
theorem nD_X5_certain_19 : decode nC_X5_certain 19 = .ok (.getfield 121, 3) := by decide +kernel
theorem nD_X5_certain_22 : decode nC_X5_certain 22 = .ok (.iload_n 1, 1) := by decide +kernel
theorem nD_X5_certain_23 : decode nC_X5_certain 23 = .ok (.iaload, 1) := by decide +kernel
theorem nD_X5_certain_24 : decode nC_X5_certain 24 = .ok (.aload_n 0, 1) := by decide +kernel
theorem nD_X5_certain_25 : decode nC_X5_certain 25 = .ok (.getfield 32, 3) := by decide +kernel
theorem nD_X5_certain_28 : decode nC_X5_certain 28 = .ok (.getfield 91, 3) := by decide +kernel
theorem nD_X5_certain_31 : decode nC_X5_certain 31 = .ok (.if_icmp .ne 7, 3) := by decide +kernel
theorem nD_X5_certain_34 : decode nC_X5_certain 34 = .ok (.iconst 1, 1) := by decide +kernel
theorem nD_X5_certain_35 : decode nC_X5_certain 35 = .ok (.goto 4, 3) := by decide +kernel
theorem nD_X5_certain_38 : decode nC_X5_certain 38 = .ok (.iconst 0, 1) := by decide +kernel
theorem nD_X5_certain_39 : decode nC_X5_certain 39 = .ok (.ireturn, 1) := by decide +kernel
theorem nD_X5_answers_0 : decode nC_X5_answers 0 = .ok (.aload_n 0, 1) := by decide +kernel
theorem nD_X5_answers_1 : decode nC_X5_answers 1 = .ok (.iload_n 1, 1) := by decide +kernel
theorem nD_X5_answers_2 : decode nC_X5_answers 2 = .ok (.invokevirtual 72, 3) := by decide +kernel
theorem nD_X5_answers_5 : decode nC_X5_answers 5 = .ok (.ifCond .eq 18, 3) := by decide +kernel
theorem nD_X5_answers_8 : decode nC_X5_answers 8 = .ok (.aload_n 0, 1) := by decide +kernel
theorem nD_X5_answers_9 : decode nC_X5_answers 9 = .ok (.getfield 32, 3) := by decide +kernel
theorem nD_X5_answers_12 : decode nC_X5_answers 12 = .ok (.getfield 124, 3) := by decide +kernel
theorem nD_X5_answers_15 : decode nC_X5_answers 15 = .ok (.iload_n 1, 1) := by decide +kernel
theorem nD_X5_answers_16 : decode nC_X5_answers 16 = .ok (.iaload, 1) := by decide +kernel
theorem nD_X5_answers_17 : decode nC_X5_answers 17 = .ok (.invokestatic 127, 3) := by decide +kernel
theorem nD_X5_answers_20 : decode nC_X5_answers 20 = .ok (.goto 4, 3) := by decide +kernel
theorem nD_X5_answers_23 : decode nC_X5_answers 23 = .ok (.iconst 0, 1) := by decide +kernel
theorem nD_X5_answers_24 : decode nC_X5_answers 24 = .ok (.ireturn, 1) := by decide +kernel
theorem nD_JI_bitCount_0 : decode nC_JI_bitCount 0 = .ok (.iload_n 0, 1) := by decide +kernel
theorem nD_JI_bitCount_1 : decode nC_JI_bitCount 1 = .ok (.iload_n 0, 1) := by decide +kernel
theorem nD_JI_bitCount_2 : decode nC_JI_bitCount 2 = .ok (.iconst 1, 1) := by decide +kernel
theorem nD_JI_bitCount_3 : decode nC_JI_bitCount 3 = .ok (.iushr, 1) := by decide +kernel
theorem nD_JI_bitCount_4 : decode nC_JI_bitCount 4 = .ok (.ldc_w 265, 3) := by decide +kernel
theorem nD_JI_bitCount_7 : decode nC_JI_bitCount 7 = .ok (.iand, 1) := by decide +kernel
theorem nD_JI_bitCount_8 : decode nC_JI_bitCount 8 = .ok (.isub, 1) := by decide +kernel
theorem nD_JI_bitCount_9 : decode nC_JI_bitCount 9 = .ok (.istore_n 0, 1) := by decide +kernel
theorem nD_JI_bitCount_10 : decode nC_JI_bitCount 10 = .ok (.iload_n 0, 1) := by decide +kernel
theorem nD_JI_bitCount_11 : decode nC_JI_bitCount 11 = .ok (.ldc_w 266, 3) := by decide +kernel
theorem nD_JI_bitCount_14 : decode nC_JI_bitCount 14 = .ok (.iand, 1) := by decide +kernel
theorem nD_JI_bitCount_15 : decode nC_JI_bitCount 15 = .ok (.iload_n 0, 1) := by decide +kernel
theorem nD_JI_bitCount_16 : decode nC_JI_bitCount 16 = .ok (.iconst 2, 1) := by decide +kernel
theorem nD_JI_bitCount_17 : decode nC_JI_bitCount 17 = .ok (.iushr, 1) := by decide +kernel
theorem nD_JI_bitCount_18 : decode nC_JI_bitCount 18 = .ok (.ldc_w 266, 3) := by decide +kernel
theorem nD_JI_bitCount_21 : decode nC_JI_bitCount 21 = .ok (.iand, 1) := by decide +kernel
theorem nD_JI_bitCount_22 : decode nC_JI_bitCount 22 = .ok (.iadd, 1) := by decide +kernel
theorem nD_JI_bitCount_23 : decode nC_JI_bitCount 23 = .ok (.istore_n 0, 1) := by decide +kernel
theorem nD_JI_bitCount_24 : decode nC_JI_bitCount 24 = .ok (.iload_n 0, 1) := by decide +kernel
theorem nD_JI_bitCount_25 : decode nC_JI_bitCount 25 = .ok (.iload_n 0, 1) := by decide +kernel
theorem nD_JI_bitCount_26 : decode nC_JI_bitCount 26 = .ok (.iconst 4, 1) := by decide +kernel
theorem nD_JI_bitCount_27 : decode nC_JI_bitCount 27 = .ok (.iushr, 1) := by decide +kernel
theorem nD_JI_bitCount_28 : decode nC_JI_bitCount 28 = .ok (.iadd, 1) := by decide +kernel
theorem nD_JI_bitCount_29 : decode nC_JI_bitCount 29 = .ok (.ldc_w 267, 3) := by decide +kernel
theorem nD_JI_bitCount_32 : decode nC_JI_bitCount 32 = .ok (.iand, 1) := by decide +kernel
theorem nD_JI_bitCount_33 : decode nC_JI_bitCount 33 = .ok (.istore_n 0, 1) := by decide +kernel
theorem nD_JI_bitCount_34 : decode nC_JI_bitCount 34 = .ok (.iload_n 0, 1) := by decide +kernel
theorem nD_JI_bitCount_35 : decode nC_JI_bitCount 35 = .ok (.iload_n 0, 1) := by decide +kernel
theorem nD_JI_bitCount_36 : decode nC_JI_bitCount 36 = .ok (.bipush 8, 2) := by decide +kernel
theorem nD_JI_bitCount_38 : decode nC_JI_bitCount 38 = .ok (.iushr, 1) := by decide +kernel
theorem nD_JI_bitCount_39 : decode nC_JI_bitCount 39 = .ok (.iadd, 1) := by decide +kernel
theorem nD_JI_bitCount_40 : decode nC_JI_bitCount 40 = .ok (.istore_n 0, 1) := by decide +kernel
theorem nD_JI_bitCount_41 : decode nC_JI_bitCount 41 = .ok (.iload_n 0, 1) := by decide +kernel
theorem nD_JI_bitCount_42 : decode nC_JI_bitCount 42 = .ok (.iload_n 0, 1) := by decide +kernel
theorem nD_JI_bitCount_43 : decode nC_JI_bitCount 43 = .ok (.bipush 16, 2) := by decide +kernel
theorem nD_JI_bitCount_45 : decode nC_JI_bitCount 45 = .ok (.iushr, 1) := by decide +kernel
theorem nD_JI_bitCount_46 : decode nC_JI_bitCount 46 = .ok (.iadd, 1) := by decide +kernel
theorem nD_JI_bitCount_47 : decode nC_JI_bitCount 47 = .ok (.istore_n 0, 1) := by decide +kernel
theorem nD_JI_bitCount_48 : decode nC_JI_bitCount 48 = .ok (.iload_n 0, 1) := by decide +kernel
theorem nD_JI_bitCount_49 : decode nC_JI_bitCount 49 = .ok (.bipush 63, 2) := by decide +kernel
theorem nD_JI_bitCount_51 : decode nC_JI_bitCount 51 = .ok (.iand, 1) := by decide +kernel
theorem nD_JI_bitCount_52 : decode nC_JI_bitCount 52 = .ok (.ireturn, 1) := by decide +kernel
theorem nD_L_cell_0 : decode nC_L_cell 0 = .ok (.iload_n 1, 1) := by decide +kernel
theorem nD_L_cell_1 : decode nC_L_cell 1 = .ok (.aload_n 0, 1) := by decide +kernel
theorem nD_L_cell_2 : decode nC_L_cell 2 = .ok (.arraylength, 1) := by decide +kernel
theorem nD_L_cell_3 : decode nC_L_cell 3 = .ok (.if_icmp .ge 9, 3) := by decide +kernel
theorem nD_L_cell_6 : decode nC_L_cell 6 = .ok (.aload_n 0, 1) := by decide +kernel
theorem nD_L_cell_7 : decode nC_L_cell 7 = .ok (.iload_n 1, 1) := by decide +kernel
theorem nD_L_cell_8 : decode nC_L_cell 8 = .ok (.iaload, 1) := by decide +kernel
theorem nD_L_cell_9 : decode nC_L_cell 9 = .ok (.goto 4, 3) := by decide +kernel
theorem nD_L_cell_12 : decode nC_L_cell 12 = .ok (.iconst 0, 1) := by decide +kernel
theorem nD_L_cell_13 : decode nC_L_cell 13 = .ok (.ireturn, 1) := by decide +kernel
theorem nD_M_init_0 : decode nC_M_init 0 = .ok (.aload_n 0, 1) := by decide +kernel
theorem nD_M_init_1 : decode nC_M_init 1 = .ok (.invokespecial 1, 3) := by decide +kernel
theorem nD_M_init_4 : decode nC_M_init 4 = .ok (.aload_n 0, 1) := by decide +kernel
theorem nD_M_init_5 : decode nC_M_init 5 = .ok (.bipush 8, 2) := by decide +kernel
theorem nD_M_init_7 : decode nC_M_init 7 = .ok (.newarray .int, 2) := by decide +kernel
theorem nD_M_init_9 : decode nC_M_init 9 = .ok (.putfield 7, 3) := by decide +kernel
theorem nD_M_init_12 : decode nC_M_init 12 = .ok (.aload_n 0, 1) := by decide +kernel
theorem nD_M_init_13 : decode nC_M_init 13 = .ok (.bipush 8, 2) := by decide +kernel
theorem nD_M_init_15 : decode nC_M_init 15 = .ok (.newarray .boolean, 2) := by decide +kernel
theorem nD_M_init_17 : decode nC_M_init 17 = .ok (.putfield 13, 3) := by decide +kernel
theorem nD_M_init_20 : decode nC_M_init 20 = .ok (.aload_n 0, 1) := by decide +kernel
theorem nD_M_init_21 : decode nC_M_init 21 = .ok (.bipush 8, 2) := by decide +kernel
theorem nD_M_init_23 : decode nC_M_init 23 = .ok (.newarray .int, 2) := by decide +kernel
theorem nD_M_init_25 : decode nC_M_init 25 = .ok (.putfield 17, 3) := by decide +kernel
theorem nD_M_init_28 : decode nC_M_init 28 = .ok (.aload_n 0, 1) := by decide +kernel
theorem nD_M_init_29 : decode nC_M_init 29 = .ok (.bipush 8, 2) := by decide +kernel
theorem nD_M_init_31 : decode nC_M_init 31 = .ok (.newarray .int, 2) := by decide +kernel
theorem nD_M_init_33 : decode nC_M_init 33 = .ok (.putfield 20, 3) := by decide +kernel
theorem nD_M_init_36 : decode nC_M_init 36 = .ok (.aload_n 0, 1) := by decide +kernel
theorem nD_M_init_37 : decode nC_M_init 37 = .ok (.bipush 8, 2) := by decide +kernel
theorem nD_M_init_39 : decode nC_M_init 39 = .ok (.newarray .int, 2) := by decide +kernel
theorem nD_M_init_41 : decode nC_M_init 41 = .ok (.putfield 23, 3) := by decide +kernel
theorem nD_M_init_44 : decode nC_M_init 44 = .ok (.aload_n 0, 1) := by decide +kernel
theorem nD_M_init_45 : decode nC_M_init 45 = .ok (.bipush 8, 2) := by decide +kernel
theorem nD_M_init_47 : decode nC_M_init 47 = .ok (.newarray .int, 2) := by decide +kernel
theorem nD_M_init_49 : decode nC_M_init 49 = .ok (.putfield 26, 3) := by decide +kernel
theorem nD_M_init_52 : decode nC_M_init 52 = .ok (.aload_n 0, 1) := by decide +kernel
theorem nD_M_init_53 : decode nC_M_init 53 = .ok (.bipush 8, 2) := by decide +kernel
theorem nD_M_init_55 : decode nC_M_init 55 = .ok (.newarray .int, 2) := by decide +kernel
theorem nD_M_init_57 : decode nC_M_init 57 = .ok (.putfield 29, 3) := by decide +kernel
theorem nD_M_init_60 : decode nC_M_init 60 = .ok (.aload_n 0, 1) := by decide +kernel
theorem nD_M_init_61 : decode nC_M_init 61 = .ok (.bipush 8, 2) := by decide +kernel
theorem nD_M_init_63 : decode nC_M_init 63 = .ok (.newarray .int, 2) := by decide +kernel
theorem nD_M_init_65 : decode nC_M_init 65 = .ok (.putfield 32, 3) := by decide +kernel
theorem nD_M_init_68 : decode nC_M_init 68 = .ok (.aload_n 0, 1) := by decide +kernel
theorem nD_M_init_69 : decode nC_M_init 69 = .ok (.bipush 8, 2) := by decide +kernel
theorem nD_M_init_71 : decode nC_M_init 71 = .ok (.newarray .int, 2) := by decide +kernel
theorem nD_M_init_73 : decode nC_M_init 73 = .ok (.putfield 35, 3) := by decide +kernel
theorem nD_M_init_76 : decode nC_M_init 76 = .ok (.aload_n 0, 1) := by decide +kernel
theorem nD_M_init_77 : decode nC_M_init 77 = .ok (.bipush 9, 2) := by decide +kernel
theorem nD_M_init_79 : decode nC_M_init 79 = .ok (.newarray .int, 2) := by decide +kernel
theorem nD_M_init_81 : decode nC_M_init 81 = .ok (.putfield 38, 3) := by decide +kernel
theorem nD_M_init_84 : decode nC_M_init 84 = .ok (.aload_n 0, 1) := by decide +kernel
theorem nD_M_init_85 : decode nC_M_init 85 = .ok (.bipush 8, 2) := by decide +kernel
theorem nD_M_init_87 : decode nC_M_init 87 = .ok (.newarray .int, 2) := by decide +kernel
theorem nD_M_init_89 : decode nC_M_init 89 = .ok (.putfield 41, 3) := by decide +kernel
theorem nD_M_init_92 : decode nC_M_init 92 = .ok (.aload_n 0, 1) := by decide +kernel
theorem nD_M_init_93 : decode nC_M_init 93 = .ok (.sipush 1400, 3) := by decide +kernel
theorem nD_M_init_96 : decode nC_M_init 96 = .ok (.newarray .long, 2) := by decide +kernel
theorem nD_M_init_98 : decode nC_M_init 98 = .ok (.putfield 44, 3) := by decide +kernel
theorem nD_M_init_101 : decode nC_M_init 101 = .ok (.aload_n 0, 1) := by decide +kernel
theorem nD_M_init_102 : decode nC_M_init 102 = .ok (.iconst 3, 1) := by decide +kernel
theorem nD_M_init_103 : decode nC_M_init 103 = .ok (.newarray .long, 2) := by decide +kernel
theorem nD_M_init_105 : decode nC_M_init 105 = .ok (.putfield 48, 3) := by decide +kernel
theorem nD_M_init_108 : decode nC_M_init 108 = .ok (.aload_n 0, 1) := by decide +kernel
theorem nD_M_init_109 : decode nC_M_init 109 = .ok (.iconst 3, 1) := by decide +kernel
theorem nD_M_init_110 : decode nC_M_init 110 = .ok (.newarray .int, 2) := by decide +kernel
theorem nD_M_init_112 : decode nC_M_init 112 = .ok (.putfield 51, 3) := by decide +kernel
theorem nD_M_init_115 : decode nC_M_init 115 = .ok (.aload_n 0, 1) := by decide +kernel
theorem nD_M_init_116 : decode nC_M_init 116 = .ok (.iload_n 1, 1) := by decide +kernel
theorem nD_M_init_117 : decode nC_M_init 117 = .ok (.iload_n 2, 1) := by decide +kernel
theorem nD_M_init_118 : decode nC_M_init 118 = .ok (.invokevirtual 54, 3) := by decide +kernel
theorem nD_M_init_121 : decode nC_M_init 121 = .ok (.return_, 1) := by decide +kernel
theorem nD_M_renew_0 : decode nC_M_renew 0 = .ok (.aload_n 0, 1) := by decide +kernel
theorem nD_M_renew_1 : decode nC_M_renew 1 = .ok (.iload_n 1, 1) := by decide +kernel
theorem nD_M_renew_2 : decode nC_M_renew 2 = .ok (.iconst 1, 1) := by decide +kernel
theorem nD_M_renew_3 : decode nC_M_renew 3 = .ok (.if_icmp .eq 8, 3) := by decide +kernel
theorem nD_M_renew_6 : decode nC_M_renew 6 = .ok (.iload_n 1, 1) := by decide +kernel
theorem nD_M_renew_7 : decode nC_M_renew 7 = .ok (.iconst 2, 1) := by decide +kernel
theorem nD_M_renew_8 : decode nC_M_renew 8 = .ok (.if_icmp .ne 7, 3) := by decide +kernel
theorem nD_M_renew_11 : decode nC_M_renew 11 = .ok (.iload_n 1, 1) := by decide +kernel
theorem nD_M_renew_12 : decode nC_M_renew 12 = .ok (.goto 4, 3) := by decide +kernel
theorem nD_M_renew_15 : decode nC_M_renew 15 = .ok (.iconst 0, 1) := by decide +kernel
theorem nD_M_renew_16 : decode nC_M_renew 16 = .ok (.putfield 58, 3) := by decide +kernel
theorem nD_M_renew_19 : decode nC_M_renew 19 = .ok (.aload_n 0, 1) := by decide +kernel
theorem nD_M_renew_20 : decode nC_M_renew 20 = .ok (.iload_n 2, 1) := by decide +kernel
theorem nD_M_renew_21 : decode nC_M_renew 21 = .ok (.iconst 1, 1) := by decide +kernel
theorem nD_M_renew_22 : decode nC_M_renew 22 = .ok (.if_icmp .ge 7, 3) := by decide +kernel
theorem nD_M_renew_25 : decode nC_M_renew 25 = .ok (.iconst 1, 1) := by decide +kernel
theorem nD_M_renew_26 : decode nC_M_renew 26 = .ok (.goto 15, 3) := by decide +kernel
theorem nD_M_renew_29 : decode nC_M_renew 29 = .ok (.iload_n 2, 1) := by decide +kernel
theorem nD_M_renew_30 : decode nC_M_renew 30 = .ok (.bipush 8, 2) := by decide +kernel
theorem nD_M_renew_32 : decode nC_M_renew 32 = .ok (.if_icmp .le 8, 3) := by decide +kernel
theorem nD_M_renew_35 : decode nC_M_renew 35 = .ok (.bipush 8, 2) := by decide +kernel
theorem nD_M_renew_37 : decode nC_M_renew 37 = .ok (.goto 4, 3) := by decide +kernel
theorem nD_M_renew_40 : decode nC_M_renew 40 = .ok (.iload_n 2, 1) := by decide +kernel
theorem nD_M_renew_41 : decode nC_M_renew 41 = .ok (.putfield 62, 3) := by decide +kernel
theorem nD_M_renew_44 : decode nC_M_renew 44 = .ok (.aload_n 0, 1) := by decide +kernel
theorem nD_M_renew_45 : decode nC_M_renew 45 = .ok (.iconst 0, 1) := by decide +kernel
theorem nD_M_renew_46 : decode nC_M_renew 46 = .ok (.putfield 65, 3) := by decide +kernel
theorem nD_M_renew_49 : decode nC_M_renew 49 = .ok (.aload_n 0, 1) := by decide +kernel
theorem nD_M_renew_50 : decode nC_M_renew 50 = .ok (.iconst 0, 1) := by decide +kernel
theorem nD_M_renew_51 : decode nC_M_renew 51 = .ok (.putfield 68, 3) := by decide +kernel
theorem nD_M_renew_54 : decode nC_M_renew 54 = .ok (.aload_n 0, 1) := by decide +kernel
theorem nD_M_renew_55 : decode nC_M_renew 55 = .ok (.iconst 0, 1) := by decide +kernel
theorem nD_M_renew_56 : decode nC_M_renew 56 = .ok (.putfield 71, 3) := by decide +kernel
theorem nD_M_renew_59 : decode nC_M_renew 59 = .ok (.aload_n 0, 1) := by decide +kernel
theorem nD_M_renew_60 : decode nC_M_renew 60 = .ok (.invokevirtual 74, 3) := by decide +kernel
theorem nD_M_renew_63 : decode nC_M_renew 63 = .ok (.return_, 1) := by decide +kernel
theorem nD_M_work_0 : decode nC_M_work 0 = .ok (.aload_n 0, 1) := by decide +kernel
theorem nD_M_work_1 : decode nC_M_work 1 = .ok (.lconst 0, 1) := by decide +kernel
theorem nD_M_work_2 : decode nC_M_work 2 = .ok (.putfield 77, 3) := by decide +kernel
theorem nD_M_work_5 : decode nC_M_work 5 = .ok (.aload_n 0, 1) := by decide +kernel
theorem nD_M_work_6 : decode nC_M_work 6 = .ok (.iconst 0, 1) := by decide +kernel
theorem nD_M_work_7 : decode nC_M_work 7 = .ok (.putfield 109, 3) := by decide +kernel
theorem nD_M_work_10 : decode nC_M_work 10 = .ok (.iconst 0, 1) := by decide +kernel
theorem nD_M_work_11 : decode nC_M_work 11 = .ok (.istore_n 1, 1) := by decide +kernel
theorem nD_M_work_12 : decode nC_M_work 12 = .ok (.iload_n 1, 1) := by decide +kernel
theorem nD_M_work_13 : decode nC_M_work 13 = .ok (.iconst 3, 1) := by decide +kernel
theorem nD_M_work_14 : decode nC_M_work 14 = .ok (.if_icmp .ge 23, 3) := by decide +kernel
theorem nD_M_work_17 : decode nC_M_work 17 = .ok (.aload_n 0, 1) := by decide +kernel
theorem nD_M_work_18 : decode nC_M_work 18 = .ok (.getfield 48, 3) := by decide +kernel
theorem nD_M_work_21 : decode nC_M_work 21 = .ok (.iload_n 1, 1) := by decide +kernel
theorem nD_M_work_22 : decode nC_M_work 22 = .ok (.lconst 0, 1) := by decide +kernel
theorem nD_M_work_23 : decode nC_M_work 23 = .ok (.lastore, 1) := by decide +kernel
theorem nD_M_work_24 : decode nC_M_work 24 = .ok (.aload_n 0, 1) := by decide +kernel
theorem nD_M_work_25 : decode nC_M_work 25 = .ok (.getfield 51, 3) := by decide +kernel
theorem nD_M_work_28 : decode nC_M_work 28 = .ok (.iload_n 1, 1) := by decide +kernel
theorem nD_M_work_29 : decode nC_M_work 29 = .ok (.iconst 0, 1) := by decide +kernel
theorem nD_M_work_30 : decode nC_M_work 30 = .ok (.iastore, 1) := by decide +kernel
theorem nD_M_work_31 : decode nC_M_work 31 = .ok (.iinc 1 1, 3) := by decide +kernel
theorem nD_M_work_34 : decode nC_M_work 34 = .ok (.goto (-22), 3) := by decide +kernel
theorem nD_M_work_37 : decode nC_M_work 37 = .ok (.aload_n 0, 1) := by decide +kernel
theorem nD_M_work_38 : decode nC_M_work 38 = .ok (.iconst 0, 1) := by decide +kernel
theorem nD_M_work_39 : decode nC_M_work 39 = .ok (.putfield 99, 3) := by decide +kernel
theorem nD_M_work_42 : decode nC_M_work 42 = .ok (.aload_n 0, 1) := by decide +kernel
theorem nD_M_work_43 : decode nC_M_work 43 = .ok (.getfield 38, 3) := by decide +kernel
theorem nD_M_work_46 : decode nC_M_work 46 = .ok (.iconst 0, 1) := by decide +kernel
theorem nD_M_work_47 : decode nC_M_work 47 = .ok (.iconst 0, 1) := by decide +kernel
theorem nD_M_work_48 : decode nC_M_work 48 = .ok (.iastore, 1) := by decide +kernel
theorem nD_M_work_49 : decode nC_M_work 49 = .ok (.aload_n 0, 1) := by decide +kernel
theorem nD_M_work_50 : decode nC_M_work 50 = .ok (.iconst 0, 1) := by decide +kernel
theorem nD_M_work_51 : decode nC_M_work 51 = .ok (.putfield 96, 3) := by decide +kernel
theorem nD_M_work_54 : decode nC_M_work 54 = .ok (.aload_n 0, 1) := by decide +kernel
theorem nD_M_work_55 : decode nC_M_work 55 = .ok (.invokevirtual 112, 3) := by decide +kernel
theorem nD_M_work_58 : decode nC_M_work 58 = .ok (.iconst 0, 1) := by decide +kernel
theorem nD_M_work_59 : decode nC_M_work 59 = .ok (.istore_n 1, 1) := by decide +kernel
theorem nD_M_work_60 : decode nC_M_work 60 = .ok (.iload_n 1, 1) := by decide +kernel
theorem nD_M_work_61 : decode nC_M_work 61 = .ok (.ldc 115, 2) := by decide +kernel
theorem nD_M_work_63 : decode nC_M_work 63 = .ok (.if_icmp .ge 83, 3) := by decide +kernel
theorem nD_M_work_66 : decode nC_M_work 66 = .ok (.aload_n 0, 1) := by decide +kernel
theorem nD_M_work_67 : decode nC_M_work 67 = .ok (.getfield 38, 3) := by decide +kernel
theorem nD_M_work_70 : decode nC_M_work 70 = .ok (.aload_n 0, 1) := by decide +kernel
theorem nD_M_work_71 : decode nC_M_work 71 = .ok (.getfield 99, 3) := by decide +kernel
theorem nD_M_work_74 : decode nC_M_work 74 = .ok (.iaload, 1) := by decide +kernel
theorem nD_M_work_75 : decode nC_M_work 75 = .ok (.istore_n 2, 1) := by decide +kernel
theorem nD_M_work_76 : decode nC_M_work 76 = .ok (.iload_n 2, 1) := by decide +kernel
theorem nD_M_work_77 : decode nC_M_work 77 = .ok (.aload_n 0, 1) := by decide +kernel
theorem nD_M_work_78 : decode nC_M_work 78 = .ok (.getfield 71, 3) := by decide +kernel
theorem nD_M_work_81 : decode nC_M_work 81 = .ok (.if_icmp .ge 41, 3) := by decide +kernel
theorem nD_M_work_84 : decode nC_M_work 84 = .ok (.aload_n 0, 1) := by decide +kernel
theorem nD_M_work_85 : decode nC_M_work 85 = .ok (.getfield 38, 3) := by decide +kernel
theorem nD_M_work_88 : decode nC_M_work 88 = .ok (.aload_n 0, 1) := by decide +kernel
theorem nD_M_work_89 : decode nC_M_work 89 = .ok (.getfield 99, 3) := by decide +kernel
theorem nD_M_work_92 : decode nC_M_work 92 = .ok (.iload_n 2, 1) := by decide +kernel
theorem nD_M_work_93 : decode nC_M_work 93 = .ok (.iconst 1, 1) := by decide +kernel
theorem nD_M_work_94 : decode nC_M_work 94 = .ok (.iadd, 1) := by decide +kernel
theorem nD_M_work_95 : decode nC_M_work 95 = .ok (.iastore, 1) := by decide +kernel
theorem nD_M_work_96 : decode nC_M_work 96 = .ok (.aload_n 0, 1) := by decide +kernel
theorem nD_M_work_97 : decode nC_M_work 97 = .ok (.getfield 29, 3) := by decide +kernel
theorem nD_M_work_100 : decode nC_M_work 100 = .ok (.iload_n 2, 1) := by decide +kernel
theorem nD_M_work_101 : decode nC_M_work 101 = .ok (.iaload, 1) := by decide +kernel
theorem nD_M_work_102 : decode nC_M_work 102 = .ok (.iconst 2, 1) := by decide +kernel
theorem nD_M_work_103 : decode nC_M_work 103 = .ok (.if_icmp .eq 37, 3) := by decide +kernel
theorem nD_M_work_106 : decode nC_M_work 106 = .ok (.aload_n 0, 1) := by decide +kernel
theorem nD_M_work_107 : decode nC_M_work 107 = .ok (.iload_n 2, 1) := by decide +kernel
theorem nD_M_work_108 : decode nC_M_work 108 = .ok (.invokevirtual 105, 3) := by decide +kernel
theorem nD_M_work_111 : decode nC_M_work 111 = .ok (.ifCond .ne 29, 3) := by decide +kernel
theorem nD_M_work_114 : decode nC_M_work 114 = .ok (.aload_n 0, 1) := by decide +kernel
theorem nD_M_work_115 : decode nC_M_work 115 = .ok (.iload_n 2, 1) := by decide +kernel
theorem nD_M_work_116 : decode nC_M_work 116 = .ok (.invokevirtual 116, 3) := by decide +kernel
theorem nD_M_work_119 : decode nC_M_work 119 = .ok (.goto 21, 3) := by decide +kernel
theorem nD_M_work_122 : decode nC_M_work 122 = .ok (.aload_n 0, 1) := by decide +kernel
theorem nD_M_work_123 : decode nC_M_work 123 = .ok (.getfield 99, 3) := by decide +kernel
theorem nD_M_work_126 : decode nC_M_work 126 = .ok (.ifCond .ne 4, 3) := by decide +kernel
theorem nD_M_work_129 : decode nC_M_work 129 = .ok (.return_, 1) := by decide +kernel
theorem nD_M_work_130 : decode nC_M_work 130 = .ok (.aload_n 0, 1) := by decide +kernel
theorem nD_M_work_131 : decode nC_M_work 131 = .ok (.dup, 1) := by decide +kernel
theorem nD_M_work_132 : decode nC_M_work 132 = .ok (.getfield 99, 3) := by decide +kernel
theorem nD_M_work_135 : decode nC_M_work 135 = .ok (.iconst 1, 1) := by decide +kernel
theorem nD_M_work_136 : decode nC_M_work 136 = .ok (.isub, 1) := by decide +kernel
theorem nD_M_work_137 : decode nC_M_work 137 = .ok (.putfield 99, 3) := by decide +kernel
theorem nD_M_work_140 : decode nC_M_work 140 = .ok (.iinc 1 1, 3) := by decide +kernel
theorem nD_M_work_143 : decode nC_M_work 143 = .ok (.goto (-83), 3) := by decide +kernel
theorem nD_M_work_146 : decode nC_M_work 146 = .ok (.return_, 1) := by decide +kernel
theorem nD_M_note_0 : decode nC_M_note 0 = .ok (.iconst 0, 1) := by decide +kernel
theorem nD_M_note_1 : decode nC_M_note 1 = .ok (.istore_n 1, 1) := by decide +kernel
theorem nD_M_note_2 : decode nC_M_note 2 = .ok (.iload_n 1, 1) := by decide +kernel
theorem nD_M_note_3 : decode nC_M_note 3 = .ok (.aload_n 0, 1) := by decide +kernel
theorem nD_M_note_4 : decode nC_M_note 4 = .ok (.getfield 71, 3) := by decide +kernel
theorem nD_M_note_7 : decode nC_M_note 7 = .ok (.if_icmp .ge 28, 3) := by decide +kernel
theorem nD_M_note_10 : decode nC_M_note 10 = .ok (.aload_n 0, 1) := by decide +kernel
theorem nD_M_note_11 : decode nC_M_note 11 = .ok (.getfield 29, 3) := by decide +kernel
theorem nD_M_note_14 : decode nC_M_note 14 = .ok (.iload_n 1, 1) := by decide +kernel
theorem nD_M_note_15 : decode nC_M_note 15 = .ok (.iaload, 1) := by decide +kernel
theorem nD_M_note_16 : decode nC_M_note 16 = .ok (.iconst 1, 1) := by decide +kernel
theorem nD_M_note_17 : decode nC_M_note 17 = .ok (.if_icmp .ne 12, 3) := by decide +kernel
theorem nD_M_note_20 : decode nC_M_note 20 = .ok (.aload_n 0, 1) := by decide +kernel
theorem nD_M_note_21 : decode nC_M_note 21 = .ok (.iload_n 1, 1) := by decide +kernel
theorem nD_M_note_22 : decode nC_M_note 22 = .ok (.invokevirtual 105, 3) := by decide +kernel
theorem nD_M_note_25 : decode nC_M_note 25 = .ok (.ifCond .ne 4, 3) := by decide +kernel
theorem nD_M_note_28 : decode nC_M_note 28 = .ok (.return_, 1) := by decide +kernel
theorem nD_M_note_29 : decode nC_M_note 29 = .ok (.iinc 1 1, 3) := by decide +kernel
theorem nD_M_note_32 : decode nC_M_note 32 = .ok (.goto (-30), 3) := by decide +kernel
theorem nD_M_note_35 : decode nC_M_note 35 = .ok (.aload_n 0, 1) := by decide +kernel
theorem nD_M_note_36 : decode nC_M_note 36 = .ok (.dup, 1) := by decide +kernel
theorem nD_M_note_37 : decode nC_M_note 37 = .ok (.getfield 77, 3) := by decide +kernel
theorem nD_M_note_40 : decode nC_M_note 40 = .ok (.lconst 1, 1) := by decide +kernel
theorem nD_M_note_41 : decode nC_M_note 41 = .ok (.ladd, 1) := by decide +kernel
theorem nD_M_note_42 : decode nC_M_note 42 = .ok (.putfield 77, 3) := by decide +kernel
theorem nD_M_note_45 : decode nC_M_note 45 = .ok (.aload_n 0, 1) := by decide +kernel
theorem nD_M_note_46 : decode nC_M_note 46 = .ok (.getfield 96, 3) := by decide +kernel
theorem nD_M_note_49 : decode nC_M_note 49 = .ok (.i2l, 1) := by decide +kernel
theorem nD_M_note_50 : decode nC_M_note 50 = .ok (.lstore_n 1, 1) := by decide +kernel
theorem nD_M_note_51 : decode nC_M_note 51 = .ok (.iconst 0, 1) := by decide +kernel
theorem nD_M_note_52 : decode nC_M_note 52 = .ok (.istore_n 3, 1) := by decide +kernel
theorem nD_M_note_53 : decode nC_M_note 53 = .ok (.iload_n 3, 1) := by decide +kernel
theorem nD_M_note_54 : decode nC_M_note 54 = .ok (.aload_n 0, 1) := by decide +kernel
theorem nD_M_note_55 : decode nC_M_note 55 = .ok (.getfield 96, 3) := by decide +kernel
theorem nD_M_note_58 : decode nC_M_note 58 = .ok (.if_icmp .ge 25, 3) := by decide +kernel
theorem nD_M_note_61 : decode nC_M_note 61 = .ok (.lload_n 1, 1) := by decide +kernel
theorem nD_M_note_62 : decode nC_M_note 62 = .ok (.aload_n 0, 1) := by decide +kernel
theorem nD_M_note_63 : decode nC_M_note 63 = .ok (.getfield 41, 3) := by decide +kernel
theorem nD_M_note_66 : decode nC_M_note 66 = .ok (.iload_n 3, 1) := by decide +kernel
theorem nD_M_note_67 : decode nC_M_note 67 = .ok (.iaload, 1) := by decide +kernel
theorem nD_M_note_68 : decode nC_M_note 68 = .ok (.i2l, 1) := by decide +kernel
theorem nD_M_note_69 : decode nC_M_note 69 = .ok (.iconst 4, 1) := by decide +kernel
theorem nD_M_note_70 : decode nC_M_note 70 = .ok (.iconst 4, 1) := by decide +kernel
theorem nD_M_note_71 : decode nC_M_note 71 = .ok (.iload_n 3, 1) := by decide +kernel
theorem nD_M_note_72 : decode nC_M_note 72 = .ok (.imul, 1) := by decide +kernel
theorem nD_M_note_73 : decode nC_M_note 73 = .ok (.iadd, 1) := by decide +kernel
theorem nD_M_note_74 : decode nC_M_note 74 = .ok (.lshl, 1) := by decide +kernel
theorem nD_M_note_75 : decode nC_M_note 75 = .ok (.ladd, 1) := by decide +kernel
theorem nD_M_note_76 : decode nC_M_note 76 = .ok (.lstore_n 1, 1) := by decide +kernel
theorem nD_M_note_77 : decode nC_M_note 77 = .ok (.iinc 3 1, 3) := by decide +kernel
theorem nD_M_note_80 : decode nC_M_note 80 = .ok (.goto (-27), 3) := by decide +kernel
theorem nD_M_note_83 : decode nC_M_note 83 = .ok (.iconst 0, 1) := by decide +kernel
theorem nD_M_note_84 : decode nC_M_note 84 = .ok (.istore_n 3, 1) := by decide +kernel
theorem nD_M_note_85 : decode nC_M_note 85 = .ok (.iconst 0, 1) := by decide +kernel
theorem nD_M_note_86 : decode nC_M_note 86 = .ok (.istore 4, 2) := by decide +kernel
theorem nD_M_note_88 : decode nC_M_note 88 = .ok (.iload 4, 2) := by decide +kernel
theorem nD_M_note_90 : decode nC_M_note 90 = .ok (.aload_n 0, 1) := by decide +kernel
theorem nD_M_note_91 : decode nC_M_note 91 = .ok (.getfield 109, 3) := by decide +kernel
theorem nD_M_note_94 : decode nC_M_note 94 = .ok (.if_icmp .ge 31, 3) := by decide +kernel
theorem nD_M_note_97 : decode nC_M_note 97 = .ok (.iload_n 3, 1) := by decide +kernel
theorem nD_M_note_98 : decode nC_M_note 98 = .ok (.ifCond .ne 15, 3) := by decide +kernel
theorem nD_M_note_101 : decode nC_M_note 101 = .ok (.aload_n 0, 1) := by decide +kernel
theorem nD_M_note_102 : decode nC_M_note 102 = .ok (.getfield 44, 3) := by decide +kernel
theorem nD_M_note_105 : decode nC_M_note 105 = .ok (.iload 4, 2) := by decide +kernel
theorem nD_M_note_107 : decode nC_M_note 107 = .ok (.laload, 1) := by decide +kernel
theorem nD_M_note_108 : decode nC_M_note 108 = .ok (.lload_n 1, 1) := by decide +kernel
theorem nD_M_note_109 : decode nC_M_note 109 = .ok (.lcmp, 1) := by decide +kernel
theorem nD_M_note_110 : decode nC_M_note 110 = .ok (.ifCond .ne 7, 3) := by decide +kernel
theorem nD_M_note_113 : decode nC_M_note 113 = .ok (.iconst 1, 1) := by decide +kernel
theorem nD_M_note_114 : decode nC_M_note 114 = .ok (.goto 4, 3) := by decide +kernel
theorem nD_M_note_117 : decode nC_M_note 117 = .ok (.iconst 0, 1) := by decide +kernel
theorem nD_M_note_118 : decode nC_M_note 118 = .ok (.istore_n 3, 1) := by decide +kernel
theorem nD_M_note_119 : decode nC_M_note 119 = .ok (.iinc 4 1, 3) := by decide +kernel
theorem nD_M_note_122 : decode nC_M_note 122 = .ok (.goto (-34), 3) := by decide +kernel
theorem nD_M_note_125 : decode nC_M_note 125 = .ok (.iload_n 3, 1) := by decide +kernel
theorem nD_M_note_126 : decode nC_M_note 126 = .ok (.ifCond .ne 33, 3) := by decide +kernel
theorem nD_M_note_129 : decode nC_M_note 129 = .ok (.aload_n 0, 1) := by decide +kernel
theorem nD_M_note_130 : decode nC_M_note 130 = .ok (.getfield 109, 3) := by decide +kernel
theorem nD_M_note_133 : decode nC_M_note 133 = .ok (.sipush 1400, 3) := by decide +kernel
theorem nD_M_note_136 : decode nC_M_note 136 = .ok (.if_icmp .ge 23, 3) := by decide +kernel
theorem nD_M_note_139 : decode nC_M_note 139 = .ok (.aload_n 0, 1) := by decide +kernel
theorem nD_M_note_140 : decode nC_M_note 140 = .ok (.getfield 44, 3) := by decide +kernel
theorem nD_M_note_143 : decode nC_M_note 143 = .ok (.aload_n 0, 1) := by decide +kernel
theorem nD_M_note_144 : decode nC_M_note 144 = .ok (.getfield 109, 3) := by decide +kernel
theorem nD_M_note_147 : decode nC_M_note 147 = .ok (.lload_n 1, 1) := by decide +kernel
theorem nD_M_note_148 : decode nC_M_note 148 = .ok (.lastore, 1) := by decide +kernel
theorem nD_M_note_149 : decode nC_M_note 149 = .ok (.aload_n 0, 1) := by decide +kernel
theorem nD_M_note_150 : decode nC_M_note 150 = .ok (.dup, 1) := by decide +kernel
theorem nD_M_note_151 : decode nC_M_note 151 = .ok (.getfield 109, 3) := by decide +kernel
theorem nD_M_note_154 : decode nC_M_note 154 = .ok (.iconst 1, 1) := by decide +kernel
theorem nD_M_note_155 : decode nC_M_note 155 = .ok (.iadd, 1) := by decide +kernel
theorem nD_M_note_156 : decode nC_M_note 156 = .ok (.putfield 109, 3) := by decide +kernel
theorem nD_M_note_159 : decode nC_M_note 159 = .ok (.iconst 0, 1) := by decide +kernel
theorem nD_M_note_160 : decode nC_M_note 160 = .ok (.istore 4, 2) := by decide +kernel
theorem nD_M_note_162 : decode nC_M_note 162 = .ok (.iload 4, 2) := by decide +kernel
theorem nD_M_note_164 : decode nC_M_note 164 = .ok (.aload_n 0, 1) := by decide +kernel
theorem nD_M_note_165 : decode nC_M_note 165 = .ok (.getfield 99, 3) := by decide +kernel
theorem nD_M_note_168 : decode nC_M_note 168 = .ok (.if_icmp .ge 90, 3) := by decide +kernel
theorem nD_M_note_171 : decode nC_M_note 171 = .ok (.aload_n 0, 1) := by decide +kernel
theorem nD_M_note_172 : decode nC_M_note 172 = .ok (.getfield 32, 3) := by decide +kernel
theorem nD_M_note_175 : decode nC_M_note 175 = .ok (.iload 4, 2) := by decide +kernel
theorem nD_M_note_177 : decode nC_M_note 177 = .ok (.iaload, 1) := by decide +kernel
theorem nD_M_note_178 : decode nC_M_note 178 = .ok (.istore 5, 2) := by decide +kernel
theorem nD_M_note_180 : decode nC_M_note 180 = .ok (.aload_n 0, 1) := by decide +kernel
theorem nD_M_note_181 : decode nC_M_note 181 = .ok (.getfield 29, 3) := by decide +kernel
theorem nD_M_note_184 : decode nC_M_note 184 = .ok (.iload 5, 2) := by decide +kernel
theorem nD_M_note_186 : decode nC_M_note 186 = .ok (.iaload, 1) := by decide +kernel
theorem nD_M_note_187 : decode nC_M_note 187 = .ok (.ifCond .ne 65, 3) := by decide +kernel
theorem nD_M_note_190 : decode nC_M_note 190 = .ok (.aload_n 0, 1) := by decide +kernel
theorem nD_M_note_191 : decode nC_M_note 191 = .ok (.getfield 48, 3) := by decide +kernel
theorem nD_M_note_194 : decode nC_M_note 194 = .ok (.aload_n 0, 1) := by decide +kernel
theorem nD_M_note_195 : decode nC_M_note 195 = .ok (.getfield 7, 3) := by decide +kernel
theorem nD_M_note_198 : decode nC_M_note 198 = .ok (.iload 5, 2) := by decide +kernel
theorem nD_M_note_200 : decode nC_M_note 200 = .ok (.iaload, 1) := by decide +kernel
theorem nD_M_note_201 : decode nC_M_note 201 = .ok (.aload_n 0, 1) := by decide +kernel
theorem nD_M_note_202 : decode nC_M_note 202 = .ok (.getfield 48, 3) := by decide +kernel
theorem nD_M_note_205 : decode nC_M_note 205 = .ok (.aload_n 0, 1) := by decide +kernel
theorem nD_M_note_206 : decode nC_M_note 206 = .ok (.getfield 7, 3) := by decide +kernel
theorem nD_M_note_209 : decode nC_M_note 209 = .ok (.iload 5, 2) := by decide +kernel
theorem nD_M_note_211 : decode nC_M_note 211 = .ok (.iaload, 1) := by decide +kernel
theorem nD_M_note_212 : decode nC_M_note 212 = .ok (.laload, 1) := by decide +kernel
theorem nD_M_note_213 : decode nC_M_note 213 = .ok (.lconst 1, 1) := by decide +kernel
theorem nD_M_note_214 : decode nC_M_note 214 = .ok (.ladd, 1) := by decide +kernel
theorem nD_M_note_215 : decode nC_M_note 215 = .ok (.lastore, 1) := by decide +kernel
theorem nD_M_note_216 : decode nC_M_note 216 = .ok (.aload_n 0, 1) := by decide +kernel
theorem nD_M_note_217 : decode nC_M_note 217 = .ok (.getfield 51, 3) := by decide +kernel
theorem nD_M_note_220 : decode nC_M_note 220 = .ok (.aload_n 0, 1) := by decide +kernel
theorem nD_M_note_221 : decode nC_M_note 221 = .ok (.getfield 7, 3) := by decide +kernel
theorem nD_M_note_224 : decode nC_M_note 224 = .ok (.iload 5, 2) := by decide +kernel
theorem nD_M_note_226 : decode nC_M_note 226 = .ok (.iaload, 1) := by decide +kernel
theorem nD_M_note_227 : decode nC_M_note 227 = .ok (.aload_n 0, 1) := by decide +kernel
theorem nD_M_note_228 : decode nC_M_note 228 = .ok (.getfield 51, 3) := by decide +kernel
theorem nD_M_note_231 : decode nC_M_note 231 = .ok (.aload_n 0, 1) := by decide +kernel
theorem nD_M_note_232 : decode nC_M_note 232 = .ok (.getfield 7, 3) := by decide +kernel
theorem nD_M_note_235 : decode nC_M_note 235 = .ok (.iload 5, 2) := by decide +kernel
theorem nD_M_note_237 : decode nC_M_note 237 = .ok (.iaload, 1) := by decide +kernel
theorem nD_M_note_238 : decode nC_M_note 238 = .ok (.iaload, 1) := by decide +kernel
theorem nD_M_note_239 : decode nC_M_note 239 = .ok (.iconst 1, 1) := by decide +kernel
theorem nD_M_note_240 : decode nC_M_note 240 = .ok (.aload_n 0, 1) := by decide +kernel
theorem nD_M_note_241 : decode nC_M_note 241 = .ok (.getfield 35, 3) := by decide +kernel
theorem nD_M_note_244 : decode nC_M_note 244 = .ok (.iload 5, 2) := by decide +kernel
theorem nD_M_note_246 : decode nC_M_note 246 = .ok (.iaload, 1) := by decide +kernel
theorem nD_M_note_247 : decode nC_M_note 247 = .ok (.iconst 1, 1) := by decide +kernel
theorem nD_M_note_248 : decode nC_M_note 248 = .ok (.iadd, 1) := by decide +kernel
theorem nD_M_note_249 : decode nC_M_note 249 = .ok (.ishl, 1) := by decide +kernel
theorem nD_M_note_250 : decode nC_M_note 250 = .ok (.ior, 1) := by decide +kernel
theorem nD_M_note_251 : decode nC_M_note 251 = .ok (.iastore, 1) := by decide +kernel
theorem nD_M_note_252 : decode nC_M_note 252 = .ok (.iinc 4 1, 3) := by decide +kernel
theorem nD_M_note_255 : decode nC_M_note 255 = .ok (.goto (-93), 3) := by decide +kernel
theorem nD_M_note_258 : decode nC_M_note 258 = .ok (.return_, 1) := by decide +kernel
theorem nD_M_isListed_0 : decode nC_M_isListed 0 = .ok (.iconst 0, 1) := by decide +kernel
theorem nD_M_isListed_1 : decode nC_M_isListed 1 = .ok (.istore_n 2, 1) := by decide +kernel
theorem nD_M_isListed_2 : decode nC_M_isListed 2 = .ok (.iconst 0, 1) := by decide +kernel
theorem nD_M_isListed_3 : decode nC_M_isListed 3 = .ok (.istore_n 3, 1) := by decide +kernel
theorem nD_M_isListed_4 : decode nC_M_isListed 4 = .ok (.iload_n 3, 1) := by decide +kernel
theorem nD_M_isListed_5 : decode nC_M_isListed 5 = .ok (.aload_n 0, 1) := by decide +kernel
theorem nD_M_isListed_6 : decode nC_M_isListed 6 = .ok (.getfield 99, 3) := by decide +kernel
theorem nD_M_isListed_9 : decode nC_M_isListed 9 = .ok (.if_icmp .ge 29, 3) := by decide +kernel
theorem nD_M_isListed_12 : decode nC_M_isListed 12 = .ok (.iload_n 2, 1) := by decide +kernel
