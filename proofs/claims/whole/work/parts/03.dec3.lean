theorem nD_M_isListed_13 : decode nC_M_isListed 13 = .ok (.ifCond .ne 13, 3) := by decide +kernel
theorem nD_M_isListed_16 : decode nC_M_isListed 16 = .ok (.aload_n 0, 1) := by decide +kernel
theorem nD_M_isListed_17 : decode nC_M_isListed 17 = .ok (.getfield 32, 3) := by decide +kernel
theorem nD_M_isListed_20 : decode nC_M_isListed 20 = .ok (.iload_n 3, 1) := by decide +kernel
theorem nD_M_isListed_21 : decode nC_M_isListed 21 = .ok (.iaload, 1) := by decide +kernel
theorem nD_M_isListed_22 : decode nC_M_isListed 22 = .ok (.iload_n 1, 1) := by decide +kernel
theorem nD_M_isListed_23 : decode nC_M_isListed 23 = .ok (.if_icmp .ne 7, 3) := by decide +kernel
theorem nD_M_isListed_26 : decode nC_M_isListed 26 = .ok (.iconst 1, 1) := by decide +kernel
theorem nD_M_isListed_27 : decode nC_M_isListed 27 = .ok (.goto 4, 3) := by decide +kernel
theorem nD_M_isListed_30 : decode nC_M_isListed 30 = .ok (.iconst 0, 1) := by decide +kernel
theorem nD_M_isListed_31 : decode nC_M_isListed 31 = .ok (.istore_n 2, 1) := by decide +kernel
theorem nD_M_isListed_32 : decode nC_M_isListed 32 = .ok (.iinc 3 1, 3) := by decide +kernel
theorem nD_M_isListed_35 : decode nC_M_isListed 35 = .ok (.goto (-31), 3) := by decide +kernel
theorem nD_M_isListed_38 : decode nC_M_isListed 38 = .ok (.iload_n 2, 1) := by decide +kernel
theorem nD_M_isListed_39 : decode nC_M_isListed 39 = .ok (.ireturn, 1) := by decide +kernel
theorem nD_M_lengthen_0 : decode nC_M_lengthen 0 = .ok (.aload_n 0, 1) := by decide +kernel
theorem nD_M_lengthen_1 : decode nC_M_lengthen 1 = .ok (.getfield 32, 3) := by decide +kernel
theorem nD_M_lengthen_4 : decode nC_M_lengthen 4 = .ok (.aload_n 0, 1) := by decide +kernel
theorem nD_M_lengthen_5 : decode nC_M_lengthen 5 = .ok (.getfield 99, 3) := by decide +kernel
theorem nD_M_lengthen_8 : decode nC_M_lengthen 8 = .ok (.iload_n 1, 1) := by decide +kernel
theorem nD_M_lengthen_9 : decode nC_M_lengthen 9 = .ok (.iastore, 1) := by decide +kernel
theorem nD_M_lengthen_10 : decode nC_M_lengthen 10 = .ok (.aload_n 0, 1) := by decide +kernel
theorem nD_M_lengthen_11 : decode nC_M_lengthen 11 = .ok (.dup, 1) := by decide +kernel
theorem nD_M_lengthen_12 : decode nC_M_lengthen 12 = .ok (.getfield 99, 3) := by decide +kernel
theorem nD_M_lengthen_15 : decode nC_M_lengthen 15 = .ok (.iconst 1, 1) := by decide +kernel
theorem nD_M_lengthen_16 : decode nC_M_lengthen 16 = .ok (.iadd, 1) := by decide +kernel
theorem nD_M_lengthen_17 : decode nC_M_lengthen 17 = .ok (.putfield 99, 3) := by decide +kernel
theorem nD_M_lengthen_20 : decode nC_M_lengthen 20 = .ok (.aload_n 0, 1) := by decide +kernel
theorem nD_M_lengthen_21 : decode nC_M_lengthen 21 = .ok (.invokevirtual 120, 3) := by decide +kernel
theorem nD_M_lengthen_24 : decode nC_M_lengthen 24 = .ok (.ifCond .eq 20, 3) := by decide +kernel
theorem nD_M_lengthen_27 : decode nC_M_lengthen 27 = .ok (.aload_n 0, 1) := by decide +kernel
theorem nD_M_lengthen_28 : decode nC_M_lengthen 28 = .ok (.invokevirtual 112, 3) := by decide +kernel
theorem nD_M_lengthen_31 : decode nC_M_lengthen 31 = .ok (.aload_n 0, 1) := by decide +kernel
theorem nD_M_lengthen_32 : decode nC_M_lengthen 32 = .ok (.getfield 38, 3) := by decide +kernel
theorem nD_M_lengthen_35 : decode nC_M_lengthen 35 = .ok (.aload_n 0, 1) := by decide +kernel
theorem nD_M_lengthen_36 : decode nC_M_lengthen 36 = .ok (.getfield 99, 3) := by decide +kernel
theorem nD_M_lengthen_39 : decode nC_M_lengthen 39 = .ok (.iconst 0, 1) := by decide +kernel
theorem nD_M_lengthen_40 : decode nC_M_lengthen 40 = .ok (.iastore, 1) := by decide +kernel
theorem nD_M_lengthen_41 : decode nC_M_lengthen 41 = .ok (.goto 13, 3) := by decide +kernel
theorem nD_M_lengthen_44 : decode nC_M_lengthen 44 = .ok (.aload_n 0, 1) := by decide +kernel
theorem nD_M_lengthen_45 : decode nC_M_lengthen 45 = .ok (.dup, 1) := by decide +kernel
theorem nD_M_lengthen_46 : decode nC_M_lengthen 46 = .ok (.getfield 99, 3) := by decide +kernel
theorem nD_M_lengthen_49 : decode nC_M_lengthen 49 = .ok (.iconst 1, 1) := by decide +kernel
theorem nD_M_lengthen_50 : decode nC_M_lengthen 50 = .ok (.isub, 1) := by decide +kernel
theorem nD_M_lengthen_51 : decode nC_M_lengthen 51 = .ok (.putfield 99, 3) := by decide +kernel
theorem nD_M_lengthen_54 : decode nC_M_lengthen 54 = .ok (.return_, 1) := by decide +kernel
theorem nD_M_good_0 : decode nC_M_good 0 = .ok (.iconst 1, 1) := by decide +kernel
theorem nD_M_good_1 : decode nC_M_good 1 = .ok (.istore_n 1, 1) := by decide +kernel
theorem nD_M_good_2 : decode nC_M_good 2 = .ok (.iload_n 1, 1) := by decide +kernel
theorem nD_M_good_3 : decode nC_M_good 3 = .ok (.aload_n 0, 1) := by decide +kernel
theorem nD_M_good_4 : decode nC_M_good 4 = .ok (.getfield 99, 3) := by decide +kernel
theorem nD_M_good_7 : decode nC_M_good 7 = .ok (.if_icmp .ge 64, 3) := by decide +kernel
theorem nD_M_good_10 : decode nC_M_good 10 = .ok (.iconst 0, 1) := by decide +kernel
theorem nD_M_good_11 : decode nC_M_good 11 = .ok (.istore_n 2, 1) := by decide +kernel
theorem nD_M_good_12 : decode nC_M_good 12 = .ok (.iload_n 2, 1) := by decide +kernel
theorem nD_M_good_13 : decode nC_M_good 13 = .ok (.iload_n 1, 1) := by decide +kernel
theorem nD_M_good_14 : decode nC_M_good 14 = .ok (.if_icmp .ge 51, 3) := by decide +kernel
theorem nD_M_good_17 : decode nC_M_good 17 = .ok (.aload_n 0, 1) := by decide +kernel
theorem nD_M_good_18 : decode nC_M_good 18 = .ok (.getfield 29, 3) := by decide +kernel
theorem nD_M_good_21 : decode nC_M_good 21 = .ok (.aload_n 0, 1) := by decide +kernel
theorem nD_M_good_22 : decode nC_M_good 22 = .ok (.getfield 32, 3) := by decide +kernel
theorem nD_M_good_25 : decode nC_M_good 25 = .ok (.iload_n 1, 1) := by decide +kernel
theorem nD_M_good_26 : decode nC_M_good 26 = .ok (.iaload, 1) := by decide +kernel
theorem nD_M_good_27 : decode nC_M_good 27 = .ok (.iaload, 1) := by decide +kernel
theorem nD_M_good_28 : decode nC_M_good 28 = .ok (.iconst 1, 1) := by decide +kernel
theorem nD_M_good_29 : decode nC_M_good 29 = .ok (.if_icmp .ne 30, 3) := by decide +kernel
theorem nD_M_good_32 : decode nC_M_good 32 = .ok (.aload_n 0, 1) := by decide +kernel
theorem nD_M_good_33 : decode nC_M_good 33 = .ok (.getfield 23, 3) := by decide +kernel
theorem nD_M_good_36 : decode nC_M_good 36 = .ok (.aload_n 0, 1) := by decide +kernel
theorem nD_M_good_37 : decode nC_M_good 37 = .ok (.getfield 32, 3) := by decide +kernel
theorem nD_M_good_40 : decode nC_M_good 40 = .ok (.iload_n 1, 1) := by decide +kernel
theorem nD_M_good_41 : decode nC_M_good 41 = .ok (.iaload, 1) := by decide +kernel
theorem nD_M_good_42 : decode nC_M_good 42 = .ok (.iaload, 1) := by decide +kernel
theorem nD_M_good_43 : decode nC_M_good 43 = .ok (.aload_n 0, 1) := by decide +kernel
theorem nD_M_good_44 : decode nC_M_good 44 = .ok (.getfield 20, 3) := by decide +kernel
theorem nD_M_good_47 : decode nC_M_good 47 = .ok (.aload_n 0, 1) := by decide +kernel
theorem nD_M_good_48 : decode nC_M_good 48 = .ok (.getfield 32, 3) := by decide +kernel
theorem nD_M_good_51 : decode nC_M_good 51 = .ok (.iload_n 2, 1) := by decide +kernel
theorem nD_M_good_52 : decode nC_M_good 52 = .ok (.iaload, 1) := by decide +kernel
theorem nD_M_good_53 : decode nC_M_good 53 = .ok (.iaload, 1) := by decide +kernel
theorem nD_M_good_54 : decode nC_M_good 54 = .ok (.if_icmp .ge 5, 3) := by decide +kernel
theorem nD_M_good_57 : decode nC_M_good 57 = .ok (.iconst 0, 1) := by decide +kernel
theorem nD_M_good_58 : decode nC_M_good 58 = .ok (.ireturn, 1) := by decide +kernel
theorem nD_M_good_59 : decode nC_M_good 59 = .ok (.iinc 2 1, 3) := by decide +kernel
theorem nD_M_good_62 : decode nC_M_good 62 = .ok (.goto (-50), 3) := by decide +kernel
theorem nD_M_good_65 : decode nC_M_good 65 = .ok (.iinc 1 1, 3) := by decide +kernel
theorem nD_M_good_68 : decode nC_M_good 68 = .ok (.goto (-66), 3) := by decide +kernel
theorem nD_M_good_71 : decode nC_M_good 71 = .ok (.aload_n 0, 1) := by decide +kernel
theorem nD_M_good_72 : decode nC_M_good 72 = .ok (.iconst 0, 1) := by decide +kernel
theorem nD_M_good_73 : decode nC_M_good 73 = .ok (.putfield 96, 3) := by decide +kernel
theorem nD_M_good_76 : decode nC_M_good 76 = .ok (.iconst 0, 1) := by decide +kernel
theorem nD_M_good_77 : decode nC_M_good 77 = .ok (.istore_n 1, 1) := by decide +kernel
theorem nD_M_good_78 : decode nC_M_good 78 = .ok (.iload_n 1, 1) := by decide +kernel
theorem nD_M_good_79 : decode nC_M_good 79 = .ok (.aload_n 0, 1) := by decide +kernel
theorem nD_M_good_80 : decode nC_M_good 80 = .ok (.getfield 99, 3) := by decide +kernel
theorem nD_M_good_83 : decode nC_M_good 83 = .ok (.if_icmp .ge 54, 3) := by decide +kernel
theorem nD_M_good_86 : decode nC_M_good 86 = .ok (.aload_n 0, 1) := by decide +kernel
theorem nD_M_good_87 : decode nC_M_good 87 = .ok (.getfield 32, 3) := by decide +kernel
theorem nD_M_good_90 : decode nC_M_good 90 = .ok (.iload_n 1, 1) := by decide +kernel
theorem nD_M_good_91 : decode nC_M_good 91 = .ok (.iaload, 1) := by decide +kernel
theorem nD_M_good_92 : decode nC_M_good 92 = .ok (.istore_n 2, 1) := by decide +kernel
theorem nD_M_good_93 : decode nC_M_good 93 = .ok (.aload_n 0, 1) := by decide +kernel
theorem nD_M_good_94 : decode nC_M_good 94 = .ok (.getfield 35, 3) := by decide +kernel
theorem nD_M_good_97 : decode nC_M_good 97 = .ok (.iload_n 2, 1) := by decide +kernel
theorem nD_M_good_98 : decode nC_M_good 98 = .ok (.aload_n 0, 1) := by decide +kernel
theorem nD_M_good_99 : decode nC_M_good 99 = .ok (.iload_n 2, 1) := by decide +kernel
theorem nD_M_good_100 : decode nC_M_good 100 = .ok (.invokevirtual 102, 3) := by decide +kernel
theorem nD_M_good_103 : decode nC_M_good 103 = .ok (.iastore, 1) := by decide +kernel
theorem nD_M_good_104 : decode nC_M_good 104 = .ok (.aload_n 0, 1) := by decide +kernel
theorem nD_M_good_105 : decode nC_M_good 105 = .ok (.getfield 29, 3) := by decide +kernel
theorem nD_M_good_108 : decode nC_M_good 108 = .ok (.iload_n 2, 1) := by decide +kernel
theorem nD_M_good_109 : decode nC_M_good 109 = .ok (.iaload, 1) := by decide +kernel
theorem nD_M_good_110 : decode nC_M_good 110 = .ok (.iconst 1, 1) := by decide +kernel
theorem nD_M_good_111 : decode nC_M_good 111 = .ok (.if_icmp .ne 20, 3) := by decide +kernel
theorem nD_M_good_114 : decode nC_M_good 114 = .ok (.aload_n 0, 1) := by decide +kernel
theorem nD_M_good_115 : decode nC_M_good 115 = .ok (.getfield 35, 3) := by decide +kernel
theorem nD_M_good_118 : decode nC_M_good 118 = .ok (.iload_n 2, 1) := by decide +kernel
theorem nD_M_good_119 : decode nC_M_good 119 = .ok (.iaload, 1) := by decide +kernel
theorem nD_M_good_120 : decode nC_M_good 120 = .ok (.aload_n 0, 1) := by decide +kernel
theorem nD_M_good_121 : decode nC_M_good 121 = .ok (.getfield 26, 3) := by decide +kernel
theorem nD_M_good_124 : decode nC_M_good 124 = .ok (.iload_n 2, 1) := by decide +kernel
theorem nD_M_good_125 : decode nC_M_good 125 = .ok (.iaload, 1) := by decide +kernel
theorem nD_M_good_126 : decode nC_M_good 126 = .ok (.if_icmp .eq 5, 3) := by decide +kernel
theorem nD_M_good_129 : decode nC_M_good 129 = .ok (.iconst 0, 1) := by decide +kernel
theorem nD_M_good_130 : decode nC_M_good 130 = .ok (.ireturn, 1) := by decide +kernel
theorem nD_M_good_131 : decode nC_M_good 131 = .ok (.iinc 1 1, 3) := by decide +kernel
theorem nD_M_good_134 : decode nC_M_good 134 = .ok (.goto (-56), 3) := by decide +kernel
theorem nD_M_good_137 : decode nC_M_good 137 = .ok (.iconst 1, 1) := by decide +kernel
theorem nD_M_good_138 : decode nC_M_good 138 = .ok (.ireturn, 1) := by decide +kernel
theorem nD_M_carryOut_0 : decode nC_M_carryOut 0 = .ok (.aload_n 0, 1) := by decide +kernel
theorem nD_M_carryOut_1 : decode nC_M_carryOut 1 = .ok (.getfield 13, 3) := by decide +kernel
theorem nD_M_carryOut_4 : decode nC_M_carryOut 4 = .ok (.iload_n 1, 1) := by decide +kernel
theorem nD_M_carryOut_5 : decode nC_M_carryOut 5 = .ok (.baload, 1) := by decide +kernel
theorem nD_M_carryOut_6 : decode nC_M_carryOut 6 = .ok (.ifCond .eq 43, 3) := by decide +kernel
theorem nD_M_carryOut_9 : decode nC_M_carryOut 9 = .ok (.aload_n 0, 1) := by decide +kernel
theorem nD_M_carryOut_10 : decode nC_M_carryOut 10 = .ok (.getfield 96, 3) := by decide +kernel
theorem nD_M_carryOut_13 : decode nC_M_carryOut 13 = .ok (.aload_n 0, 1) := by decide +kernel
theorem nD_M_carryOut_14 : decode nC_M_carryOut 14 = .ok (.getfield 62, 3) := by decide +kernel
theorem nD_M_carryOut_17 : decode nC_M_carryOut 17 = .ok (.if_icmp .lt 5, 3) := by decide +kernel
theorem nD_M_carryOut_20 : decode nC_M_carryOut 20 = .ok (.iconst 0, 1) := by decide +kernel
theorem nD_M_carryOut_21 : decode nC_M_carryOut 21 = .ok (.ireturn, 1) := by decide +kernel
theorem nD_M_carryOut_22 : decode nC_M_carryOut 22 = .ok (.aload_n 0, 1) := by decide +kernel
theorem nD_M_carryOut_23 : decode nC_M_carryOut 23 = .ok (.getfield 41, 3) := by decide +kernel
theorem nD_M_carryOut_26 : decode nC_M_carryOut 26 = .ok (.aload_n 0, 1) := by decide +kernel
theorem nD_M_carryOut_27 : decode nC_M_carryOut 27 = .ok (.getfield 96, 3) := by decide +kernel
theorem nD_M_carryOut_30 : decode nC_M_carryOut 30 = .ok (.aload_n 0, 1) := by decide +kernel
theorem nD_M_carryOut_31 : decode nC_M_carryOut 31 = .ok (.getfield 17, 3) := by decide +kernel
theorem nD_M_carryOut_34 : decode nC_M_carryOut 34 = .ok (.iload_n 1, 1) := by decide +kernel
theorem nD_M_carryOut_35 : decode nC_M_carryOut 35 = .ok (.iaload, 1) := by decide +kernel
theorem nD_M_carryOut_36 : decode nC_M_carryOut 36 = .ok (.iastore, 1) := by decide +kernel
theorem nD_M_carryOut_37 : decode nC_M_carryOut 37 = .ok (.aload_n 0, 1) := by decide +kernel
theorem nD_M_carryOut_38 : decode nC_M_carryOut 38 = .ok (.dup, 1) := by decide +kernel
theorem nD_M_carryOut_39 : decode nC_M_carryOut 39 = .ok (.getfield 96, 3) := by decide +kernel
theorem nD_M_carryOut_42 : decode nC_M_carryOut 42 = .ok (.iconst 1, 1) := by decide +kernel
theorem nD_M_carryOut_43 : decode nC_M_carryOut 43 = .ok (.iadd, 1) := by decide +kernel
theorem nD_M_carryOut_44 : decode nC_M_carryOut 44 = .ok (.putfield 96, 3) := by decide +kernel
theorem nD_M_carryOut_47 : decode nC_M_carryOut 47 = .ok (.iconst 1, 1) := by decide +kernel
theorem nD_M_carryOut_48 : decode nC_M_carryOut 48 = .ok (.ireturn, 1) := by decide +kernel
theorem nD_M_carryOut_49 : decode nC_M_carryOut 49 = .ok (.aload_n 0, 1) := by decide +kernel
theorem nD_M_carryOut_50 : decode nC_M_carryOut 50 = .ok (.getfield 96, 3) := by decide +kernel
theorem nD_M_carryOut_53 : decode nC_M_carryOut 53 = .ok (.ifCond .ne 5, 3) := by decide +kernel
theorem nD_M_carryOut_56 : decode nC_M_carryOut 56 = .ok (.iconst (-1), 1) := by decide +kernel
theorem nD_M_carryOut_57 : decode nC_M_carryOut 57 = .ok (.ireturn, 1) := by decide +kernel
theorem nD_M_carryOut_58 : decode nC_M_carryOut 58 = .ok (.aload_n 0, 1) := by decide +kernel
theorem nD_M_carryOut_59 : decode nC_M_carryOut 59 = .ok (.getfield 58, 3) := by decide +kernel
theorem nD_M_carryOut_62 : decode nC_M_carryOut 62 = .ok (.iconst 1, 1) := by decide +kernel
theorem nD_M_carryOut_63 : decode nC_M_carryOut 63 = .ok (.if_icmp .eq 20, 3) := by decide +kernel
theorem nD_M_carryOut_66 : decode nC_M_carryOut 66 = .ok (.aload_n 0, 1) := by decide +kernel
theorem nD_M_carryOut_67 : decode nC_M_carryOut 67 = .ok (.getfield 58, 3) := by decide +kernel
theorem nD_M_carryOut_70 : decode nC_M_carryOut 70 = .ok (.iconst 2, 1) := by decide +kernel
theorem nD_M_carryOut_71 : decode nC_M_carryOut 71 = .ok (.if_icmp .ne 16, 3) := by decide +kernel
theorem nD_M_carryOut_74 : decode nC_M_carryOut 74 = .ok (.aload_n 0, 1) := by decide +kernel
theorem nD_M_carryOut_75 : decode nC_M_carryOut 75 = .ok (.getfield 7, 3) := by decide +kernel
theorem nD_M_carryOut_78 : decode nC_M_carryOut 78 = .ok (.iload_n 1, 1) := by decide +kernel
theorem nD_M_carryOut_79 : decode nC_M_carryOut 79 = .ok (.iaload, 1) := by decide +kernel
theorem nD_M_carryOut_80 : decode nC_M_carryOut 80 = .ok (.ifCond .ne 7, 3) := by decide +kernel
theorem nD_M_carryOut_83 : decode nC_M_carryOut 83 = .ok (.iconst 1, 1) := by decide +kernel
theorem nD_M_carryOut_84 : decode nC_M_carryOut 84 = .ok (.goto 4, 3) := by decide +kernel
theorem nD_M_carryOut_87 : decode nC_M_carryOut 87 = .ok (.iconst 0, 1) := by decide +kernel
theorem nD_M_carryOut_88 : decode nC_M_carryOut 88 = .ok (.istore_n 2, 1) := by decide +kernel
theorem nD_M_carryOut_89 : decode nC_M_carryOut 89 = .ok (.iload_n 2, 1) := by decide +kernel
theorem nD_M_carryOut_90 : decode nC_M_carryOut 90 = .ok (.ifCond .eq 17, 3) := by decide +kernel
theorem nD_M_carryOut_93 : decode nC_M_carryOut 93 = .ok (.aload_n 0, 1) := by decide +kernel
theorem nD_M_carryOut_94 : decode nC_M_carryOut 94 = .ok (.getfield 41, 3) := by decide +kernel
theorem nD_M_carryOut_97 : decode nC_M_carryOut 97 = .ok (.aload_n 0, 1) := by decide +kernel
theorem nD_M_carryOut_98 : decode nC_M_carryOut 98 = .ok (.getfield 96, 3) := by decide +kernel
theorem nD_M_carryOut_101 : decode nC_M_carryOut 101 = .ok (.iconst 1, 1) := by decide +kernel
theorem nD_M_carryOut_102 : decode nC_M_carryOut 102 = .ok (.isub, 1) := by decide +kernel
theorem nD_M_carryOut_103 : decode nC_M_carryOut 103 = .ok (.iaload, 1) := by decide +kernel
theorem nD_M_carryOut_104 : decode nC_M_carryOut 104 = .ok (.goto 9, 3) := by decide +kernel
theorem nD_M_carryOut_107 : decode nC_M_carryOut 107 = .ok (.aload_n 0, 1) := by decide +kernel
theorem nD_M_carryOut_108 : decode nC_M_carryOut 108 = .ok (.getfield 41, 3) := by decide +kernel
theorem nD_M_carryOut_111 : decode nC_M_carryOut 111 = .ok (.iconst 0, 1) := by decide +kernel
theorem nD_M_carryOut_112 : decode nC_M_carryOut 112 = .ok (.iaload, 1) := by decide +kernel
theorem nD_M_carryOut_113 : decode nC_M_carryOut 113 = .ok (.istore_n 3, 1) := by decide +kernel
theorem nD_M_carryOut_114 : decode nC_M_carryOut 114 = .ok (.aload_n 0, 1) := by decide +kernel
theorem nD_M_carryOut_115 : decode nC_M_carryOut 115 = .ok (.dup, 1) := by decide +kernel
theorem nD_M_carryOut_116 : decode nC_M_carryOut 116 = .ok (.getfield 96, 3) := by decide +kernel
theorem nD_M_carryOut_119 : decode nC_M_carryOut 119 = .ok (.iconst 1, 1) := by decide +kernel
theorem nD_M_carryOut_120 : decode nC_M_carryOut 120 = .ok (.isub, 1) := by decide +kernel
theorem nD_M_carryOut_121 : decode nC_M_carryOut 121 = .ok (.putfield 96, 3) := by decide +kernel
theorem nD_M_carryOut_124 : decode nC_M_carryOut 124 = .ok (.iconst 0, 1) := by decide +kernel
theorem nD_M_carryOut_125 : decode nC_M_carryOut 125 = .ok (.istore 4, 2) := by decide +kernel
theorem nD_M_carryOut_127 : decode nC_M_carryOut 127 = .ok (.iload 4, 2) := by decide +kernel
theorem nD_M_carryOut_129 : decode nC_M_carryOut 129 = .ok (.aload_n 0, 1) := by decide +kernel
theorem nD_M_carryOut_130 : decode nC_M_carryOut 130 = .ok (.getfield 96, 3) := by decide +kernel
theorem nD_M_carryOut_133 : decode nC_M_carryOut 133 = .ok (.if_icmp .ge 29, 3) := by decide +kernel
theorem nD_M_carryOut_136 : decode nC_M_carryOut 136 = .ok (.iload_n 2, 1) := by decide +kernel
theorem nD_M_carryOut_137 : decode nC_M_carryOut 137 = .ok (.ifCond .ne 25, 3) := by decide +kernel
theorem nD_M_carryOut_140 : decode nC_M_carryOut 140 = .ok (.aload_n 0, 1) := by decide +kernel
theorem nD_M_carryOut_141 : decode nC_M_carryOut 141 = .ok (.getfield 41, 3) := by decide +kernel
theorem nD_M_carryOut_144 : decode nC_M_carryOut 144 = .ok (.iload 4, 2) := by decide +kernel
theorem nD_M_carryOut_146 : decode nC_M_carryOut 146 = .ok (.aload_n 0, 1) := by decide +kernel
theorem nD_M_carryOut_147 : decode nC_M_carryOut 147 = .ok (.getfield 41, 3) := by decide +kernel
theorem nD_M_carryOut_150 : decode nC_M_carryOut 150 = .ok (.iload 4, 2) := by decide +kernel
theorem nD_M_carryOut_152 : decode nC_M_carryOut 152 = .ok (.iconst 1, 1) := by decide +kernel
theorem nD_M_carryOut_153 : decode nC_M_carryOut 153 = .ok (.iadd, 1) := by decide +kernel
theorem nD_M_carryOut_154 : decode nC_M_carryOut 154 = .ok (.iaload, 1) := by decide +kernel
theorem nD_M_carryOut_155 : decode nC_M_carryOut 155 = .ok (.iastore, 1) := by decide +kernel
theorem nD_M_carryOut_156 : decode nC_M_carryOut 156 = .ok (.iinc 4 1, 3) := by decide +kernel
theorem nD_M_carryOut_159 : decode nC_M_carryOut 159 = .ok (.goto (-32), 3) := by decide +kernel
theorem nD_M_carryOut_162 : decode nC_M_carryOut 162 = .ok (.iload_n 3, 1) := by decide +kernel
theorem nD_M_carryOut_163 : decode nC_M_carryOut 163 = .ok (.ireturn, 1) := by decide +kernel
theorem nD_M_beginPut_0 : decode nC_M_beginPut 0 = .ok (.iload_n 2, 1) := by decide +kernel
theorem nD_M_beginPut_1 : decode nC_M_beginPut 1 = .ok (.ifCond .lt 21, 3) := by decide +kernel
theorem nD_M_beginPut_4 : decode nC_M_beginPut 4 = .ok (.iload_n 2, 1) := by decide +kernel
theorem nD_M_beginPut_5 : decode nC_M_beginPut 5 = .ok (.bipush 15, 2) := by decide +kernel
theorem nD_M_beginPut_7 : decode nC_M_beginPut 7 = .ok (.if_icmp .gt 15, 3) := by decide +kernel
theorem nD_M_beginPut_10 : decode nC_M_beginPut 10 = .ok (.aload_n 0, 1) := by decide +kernel
theorem nD_M_beginPut_11 : decode nC_M_beginPut 11 = .ok (.getfield 58, 3) := by decide +kernel
theorem nD_M_beginPut_14 : decode nC_M_beginPut 14 = .ok (.iconst 2, 1) := by decide +kernel
theorem nD_M_beginPut_15 : decode nC_M_beginPut 15 = .ok (.if_icmp .ne 9, 3) := by decide +kernel
theorem nD_M_beginPut_18 : decode nC_M_beginPut 18 = .ok (.iload_n 1, 1) := by decide +kernel
theorem nD_M_beginPut_19 : decode nC_M_beginPut 19 = .ok (.ifCond .eq 5, 3) := by decide +kernel
theorem nD_M_beginPut_22 : decode nC_M_beginPut 22 = .ok (.iconst 0, 1) := by decide +kernel
theorem nD_M_beginPut_23 : decode nC_M_beginPut 23 = .ok (.ireturn, 1) := by decide +kernel
theorem nD_M_beginPut_24 : decode nC_M_beginPut 24 = .ok (.aload_n 0, 1) := by decide +kernel
theorem nD_M_beginPut_25 : decode nC_M_beginPut 25 = .ok (.iload_n 1, 1) := by decide +kernel
theorem nD_M_beginPut_26 : decode nC_M_beginPut 26 = .ok (.iconst 1, 1) := by decide +kernel
theorem nD_M_beginPut_27 : decode nC_M_beginPut 27 = .ok (.iload_n 2, 1) := by decide +kernel
theorem nD_M_beginPut_28 : decode nC_M_beginPut 28 = .ok (.invokevirtual 88, 3) := by decide +kernel
theorem nD_M_beginPut_31 : decode nC_M_beginPut 31 = .ok (.ireturn, 1) := by decide +kernel
theorem nD_M_begin_0 : decode nC_M_begin 0 = .ok (.iload_n 1, 1) := by decide +kernel
theorem nD_M_begin_1 : decode nC_M_begin 1 = .ok (.ifCond .lt 25, 3) := by decide +kernel
theorem nD_M_begin_4 : decode nC_M_begin 4 = .ok (.iload_n 1, 1) := by decide +kernel
theorem nD_M_begin_5 : decode nC_M_begin 5 = .ok (.iconst 2, 1) := by decide +kernel
theorem nD_M_begin_6 : decode nC_M_begin 6 = .ok (.if_icmp .gt 20, 3) := by decide +kernel
theorem nD_M_begin_9 : decode nC_M_begin 9 = .ok (.aload_n 0, 1) := by decide +kernel
theorem nD_M_begin_10 : decode nC_M_begin 10 = .ok (.getfield 71, 3) := by decide +kernel
theorem nD_M_begin_13 : decode nC_M_begin 13 = .ok (.bipush 8, 2) := by decide +kernel
theorem nD_M_begin_15 : decode nC_M_begin 15 = .ok (.if_icmp .ge 11, 3) := by decide +kernel
theorem nD_M_begin_18 : decode nC_M_begin 18 = .ok (.aload_n 0, 1) := by decide +kernel
theorem nD_M_begin_19 : decode nC_M_begin 19 = .ok (.iload_n 1, 1) := by decide +kernel
theorem nD_M_begin_20 : decode nC_M_begin 20 = .ok (.invokevirtual 81, 3) := by decide +kernel
theorem nD_M_begin_23 : decode nC_M_begin 23 = .ok (.ifCond .lt 5, 3) := by decide +kernel
theorem nD_M_begin_26 : decode nC_M_begin 26 = .ok (.iconst 0, 1) := by decide +kernel
theorem nD_M_begin_27 : decode nC_M_begin 27 = .ok (.ireturn, 1) := by decide +kernel
theorem nD_M_begin_28 : decode nC_M_begin 28 = .ok (.aload_n 0, 1) := by decide +kernel
theorem nD_M_begin_29 : decode nC_M_begin 29 = .ok (.dup, 1) := by decide +kernel
theorem nD_M_begin_30 : decode nC_M_begin 30 = .ok (.getfield 65, 3) := by decide +kernel
theorem nD_M_begin_33 : decode nC_M_begin 33 = .ok (.iconst 1, 1) := by decide +kernel
theorem nD_M_begin_34 : decode nC_M_begin 34 = .ok (.iadd, 1) := by decide +kernel
theorem nD_M_begin_35 : decode nC_M_begin 35 = .ok (.putfield 65, 3) := by decide +kernel
theorem nD_M_begin_38 : decode nC_M_begin 38 = .ok (.aload_n 0, 1) := by decide +kernel
theorem nD_M_begin_39 : decode nC_M_begin 39 = .ok (.getfield 7, 3) := by decide +kernel
theorem nD_M_begin_42 : decode nC_M_begin 42 = .ok (.aload_n 0, 1) := by decide +kernel
theorem nD_M_begin_43 : decode nC_M_begin 43 = .ok (.getfield 71, 3) := by decide +kernel
theorem nD_M_begin_46 : decode nC_M_begin 46 = .ok (.iload_n 1, 1) := by decide +kernel
theorem nD_M_begin_47 : decode nC_M_begin 47 = .ok (.iastore, 1) := by decide +kernel
theorem nD_M_begin_48 : decode nC_M_begin 48 = .ok (.aload_n 0, 1) := by decide +kernel
theorem nD_M_begin_49 : decode nC_M_begin 49 = .ok (.getfield 13, 3) := by decide +kernel
theorem nD_M_begin_52 : decode nC_M_begin 52 = .ok (.aload_n 0, 1) := by decide +kernel
theorem nD_M_begin_53 : decode nC_M_begin 53 = .ok (.getfield 71, 3) := by decide +kernel
theorem nD_M_begin_56 : decode nC_M_begin 56 = .ok (.iload_n 2, 1) := by decide +kernel
theorem nD_M_begin_57 : decode nC_M_begin 57 = .ok (.bastore, 1) := by decide +kernel
theorem nD_M_begin_58 : decode nC_M_begin 58 = .ok (.aload_n 0, 1) := by decide +kernel
theorem nD_M_begin_59 : decode nC_M_begin 59 = .ok (.getfield 17, 3) := by decide +kernel
theorem nD_M_begin_62 : decode nC_M_begin 62 = .ok (.aload_n 0, 1) := by decide +kernel
theorem nD_M_begin_63 : decode nC_M_begin 63 = .ok (.getfield 71, 3) := by decide +kernel
theorem nD_M_begin_66 : decode nC_M_begin 66 = .ok (.iload_n 3, 1) := by decide +kernel
theorem nD_M_begin_67 : decode nC_M_begin 67 = .ok (.iastore, 1) := by decide +kernel
theorem nD_M_begin_68 : decode nC_M_begin 68 = .ok (.aload_n 0, 1) := by decide +kernel
theorem nD_M_begin_69 : decode nC_M_begin 69 = .ok (.getfield 20, 3) := by decide +kernel
theorem nD_M_begin_72 : decode nC_M_begin 72 = .ok (.aload_n 0, 1) := by decide +kernel
theorem nD_M_begin_73 : decode nC_M_begin 73 = .ok (.getfield 71, 3) := by decide +kernel
theorem nD_M_begin_76 : decode nC_M_begin 76 = .ok (.aload_n 0, 1) := by decide +kernel
theorem nD_M_begin_77 : decode nC_M_begin 77 = .ok (.getfield 65, 3) := by decide +kernel
theorem nD_M_begin_80 : decode nC_M_begin 80 = .ok (.iastore, 1) := by decide +kernel
theorem nD_M_begin_81 : decode nC_M_begin 81 = .ok (.aload_n 0, 1) := by decide +kernel
theorem nD_M_begin_82 : decode nC_M_begin 82 = .ok (.getfield 29, 3) := by decide +kernel
theorem nD_M_begin_85 : decode nC_M_begin 85 = .ok (.aload_n 0, 1) := by decide +kernel
theorem nD_M_begin_86 : decode nC_M_begin 86 = .ok (.getfield 71, 3) := by decide +kernel
theorem nD_M_begin_89 : decode nC_M_begin 89 = .ok (.iconst 0, 1) := by decide +kernel
theorem nD_M_begin_90 : decode nC_M_begin 90 = .ok (.iastore, 1) := by decide +kernel
theorem nD_M_begin_91 : decode nC_M_begin 91 = .ok (.aload_n 0, 1) := by decide +kernel
theorem nD_M_begin_92 : decode nC_M_begin 92 = .ok (.dup, 1) := by decide +kernel
theorem nD_M_begin_93 : decode nC_M_begin 93 = .ok (.getfield 71, 3) := by decide +kernel
theorem nD_M_begin_96 : decode nC_M_begin 96 = .ok (.iconst 1, 1) := by decide +kernel
theorem nD_M_begin_97 : decode nC_M_begin 97 = .ok (.iadd, 1) := by decide +kernel
theorem nD_M_begin_98 : decode nC_M_begin 98 = .ok (.putfield 71, 3) := by decide +kernel
theorem nD_M_begin_101 : decode nC_M_begin 101 = .ok (.aload_n 0, 1) := by decide +kernel
theorem nD_M_begin_102 : decode nC_M_begin 102 = .ok (.invokevirtual 85, 3) := by decide +kernel
theorem nD_M_begin_105 : decode nC_M_begin 105 = .ok (.iconst 1, 1) := by decide +kernel
theorem nD_M_begin_106 : decode nC_M_begin 106 = .ok (.ireturn, 1) := by decide +kernel
theorem nD_M_openOf_0 : decode nC_M_openOf 0 = .ok (.iconst (-1), 1) := by decide +kernel
theorem nD_M_openOf_1 : decode nC_M_openOf 1 = .ok (.istore_n 2, 1) := by decide +kernel
theorem nD_M_openOf_2 : decode nC_M_openOf 2 = .ok (.iconst 0, 1) := by decide +kernel
theorem nD_M_openOf_3 : decode nC_M_openOf 3 = .ok (.istore_n 3, 1) := by decide +kernel
theorem nD_M_openOf_4 : decode nC_M_openOf 4 = .ok (.iload_n 3, 1) := by decide +kernel
theorem nD_M_openOf_5 : decode nC_M_openOf 5 = .ok (.aload_n 0, 1) := by decide +kernel
theorem nD_M_openOf_6 : decode nC_M_openOf 6 = .ok (.getfield 71, 3) := by decide +kernel
theorem nD_M_openOf_9 : decode nC_M_openOf 9 = .ok (.if_icmp .ge 34, 3) := by decide +kernel
theorem nD_M_openOf_12 : decode nC_M_openOf 12 = .ok (.aload_n 0, 1) := by decide +kernel
theorem nD_M_openOf_13 : decode nC_M_openOf 13 = .ok (.getfield 7, 3) := by decide +kernel
theorem nD_M_openOf_16 : decode nC_M_openOf 16 = .ok (.iload_n 3, 1) := by decide +kernel
theorem nD_M_openOf_17 : decode nC_M_openOf 17 = .ok (.iaload, 1) := by decide +kernel
theorem nD_M_openOf_18 : decode nC_M_openOf 18 = .ok (.iload_n 1, 1) := by decide +kernel
theorem nD_M_openOf_19 : decode nC_M_openOf 19 = .ok (.if_icmp .ne 16, 3) := by decide +kernel
theorem nD_M_openOf_22 : decode nC_M_openOf 22 = .ok (.aload_n 0, 1) := by decide +kernel
theorem nD_M_openOf_23 : decode nC_M_openOf 23 = .ok (.getfield 29, 3) := by decide +kernel
theorem nD_M_openOf_26 : decode nC_M_openOf 26 = .ok (.iload_n 3, 1) := by decide +kernel
theorem nD_M_openOf_27 : decode nC_M_openOf 27 = .ok (.iaload, 1) := by decide +kernel
theorem nD_M_openOf_28 : decode nC_M_openOf 28 = .ok (.ifCond .ne 7, 3) := by decide +kernel
theorem nD_M_openOf_31 : decode nC_M_openOf 31 = .ok (.iload_n 3, 1) := by decide +kernel
theorem nD_M_openOf_32 : decode nC_M_openOf 32 = .ok (.goto 4, 3) := by decide +kernel
theorem nD_M_openOf_35 : decode nC_M_openOf 35 = .ok (.iload_n 2, 1) := by decide +kernel
theorem nD_M_openOf_36 : decode nC_M_openOf 36 = .ok (.istore_n 2, 1) := by decide +kernel
theorem nD_M_openOf_37 : decode nC_M_openOf 37 = .ok (.iinc 3 1, 3) := by decide +kernel
theorem nD_M_openOf_40 : decode nC_M_openOf 40 = .ok (.goto (-36), 3) := by decide +kernel
theorem nD_M_openOf_43 : decode nC_M_openOf 43 = .ok (.iload_n 2, 1) := by decide +kernel
theorem nD_M_openOf_44 : decode nC_M_openOf 44 = .ok (.ireturn, 1) := by decide +kernel
theorem nD_M_happened_0 : decode nC_M_happened 0 = .ok (.aload_n 0, 1) := by decide +kernel
theorem nD_M_happened_1 : decode nC_M_happened 1 = .ok (.invokevirtual 74, 3) := by decide +kernel
theorem nD_M_happened_4 : decode nC_M_happened 4 = .ok (.aload_n 0, 1) := by decide +kernel
theorem nD_M_happened_5 : decode nC_M_happened 5 = .ok (.getfield 77, 3) := by decide +kernel
theorem nD_M_happened_8 : decode nC_M_happened 8 = .ok (.lconst 0, 1) := by decide +kernel
theorem nD_M_happened_9 : decode nC_M_happened 9 = .ok (.lcmp, 1) := by decide +kernel
theorem nD_M_happened_10 : decode nC_M_happened 10 = .ok (.ifCond .ne 18, 3) := by decide +kernel
theorem nD_M_happened_13 : decode nC_M_happened 13 = .ok (.aload_n 0, 1) := by decide +kernel
theorem nD_M_happened_14 : decode nC_M_happened 14 = .ok (.getfield 68, 3) := by decide +kernel
theorem nD_M_happened_17 : decode nC_M_happened 17 = .ok (.ifCond .ne 11, 3) := by decide +kernel
theorem nD_M_happened_20 : decode nC_M_happened 20 = .ok (.aload_n 0, 1) := by decide +kernel
theorem nD_M_happened_21 : decode nC_M_happened 21 = .ok (.aload_n 0, 1) := by decide +kernel
theorem nD_M_happened_22 : decode nC_M_happened 22 = .ok (.getfield 65, 3) := by decide +kernel
theorem nD_M_happened_25 : decode nC_M_happened 25 = .ok (.putfield 68, 3) := by decide +kernel
theorem nD_M_happened_28 : decode nC_M_happened 28 = .ok (.return_, 1) := by decide +kernel
theorem nD_M_beginTake_0 : decode nC_M_beginTake 0 = .ok (.aload_n 0, 1) := by decide +kernel
theorem nD_M_beginTake_1 : decode nC_M_beginTake 1 = .ok (.iload_n 1, 1) := by decide +kernel
theorem nD_M_beginTake_2 : decode nC_M_beginTake 2 = .ok (.iconst 0, 1) := by decide +kernel
theorem nD_M_beginTake_3 : decode nC_M_beginTake 3 = .ok (.iconst 0, 1) := by decide +kernel
theorem nD_M_beginTake_4 : decode nC_M_beginTake 4 = .ok (.invokevirtual 88, 3) := by decide +kernel
theorem nD_M_beginTake_7 : decode nC_M_beginTake 7 = .ok (.ireturn, 1) := by decide +kernel
theorem nD_M_endPut_0 : decode nC_M_endPut 0 = .ok (.aload_n 0, 1) := by decide +kernel
theorem nD_M_endPut_1 : decode nC_M_endPut 1 = .ok (.iload_n 1, 1) := by decide +kernel
theorem nD_M_endPut_2 : decode nC_M_endPut 2 = .ok (.invokevirtual 81, 3) := by decide +kernel
theorem nD_M_endPut_5 : decode nC_M_endPut 5 = .ok (.istore_n 3, 1) := by decide +kernel
theorem nD_M_endPut_6 : decode nC_M_endPut 6 = .ok (.iload_n 3, 1) := by decide +kernel
theorem nD_M_endPut_7 : decode nC_M_endPut 7 = .ok (.ifCond .lt 12, 3) := by decide +kernel
theorem nD_M_endPut_10 : decode nC_M_endPut 10 = .ok (.aload_n 0, 1) := by decide +kernel
theorem nD_M_endPut_11 : decode nC_M_endPut 11 = .ok (.getfield 13, 3) := by decide +kernel
theorem nD_M_endPut_14 : decode nC_M_endPut 14 = .ok (.iload_n 3, 1) := by decide +kernel
theorem nD_M_endPut_15 : decode nC_M_endPut 15 = .ok (.baload, 1) := by decide +kernel
theorem nD_M_endPut_16 : decode nC_M_endPut 16 = .ok (.ifCond .ne 5, 3) := by decide +kernel
theorem nD_M_endPut_19 : decode nC_M_endPut 19 = .ok (.iconst 0, 1) := by decide +kernel
theorem nD_M_endPut_20 : decode nC_M_endPut 20 = .ok (.ireturn, 1) := by decide +kernel
theorem nD_M_endPut_21 : decode nC_M_endPut 21 = .ok (.aload_n 0, 1) := by decide +kernel
theorem nD_M_endPut_22 : decode nC_M_endPut 22 = .ok (.iload_n 3, 1) := by decide +kernel
theorem nD_M_endPut_23 : decode nC_M_endPut 23 = .ok (.iconst 1, 1) := by decide +kernel
theorem nD_M_endPut_24 : decode nC_M_endPut 24 = .ok (.iload_n 2, 1) := by decide +kernel
theorem nD_M_endPut_25 : decode nC_M_endPut 25 = .ok (.ifCond .eq 7, 3) := by decide +kernel
theorem nD_M_endPut_28 : decode nC_M_endPut 28 = .ok (.iconst 1, 1) := by decide +kernel
theorem nD_M_endPut_29 : decode nC_M_endPut 29 = .ok (.goto 4, 3) := by decide +kernel
theorem nD_M_endPut_32 : decode nC_M_endPut 32 = .ok (.iconst 0, 1) := by decide +kernel
theorem nD_M_endPut_33 : decode nC_M_endPut 33 = .ok (.invokevirtual 92, 3) := by decide +kernel
theorem nD_M_endPut_36 : decode nC_M_endPut 36 = .ok (.iconst 1, 1) := by decide +kernel
theorem nD_M_endPut_37 : decode nC_M_endPut 37 = .ok (.ireturn, 1) := by decide +kernel
theorem nD_M_close_0 : decode nC_M_close 0 = .ok (.aload_n 0, 1) := by decide +kernel
theorem nD_M_close_1 : decode nC_M_close 1 = .ok (.dup, 1) := by decide +kernel
theorem nD_M_close_2 : decode nC_M_close 2 = .ok (.getfield 65, 3) := by decide +kernel
theorem nD_M_close_5 : decode nC_M_close 5 = .ok (.iconst 1, 1) := by decide +kernel
theorem nD_M_close_6 : decode nC_M_close 6 = .ok (.iadd, 1) := by decide +kernel
theorem nD_M_close_7 : decode nC_M_close 7 = .ok (.putfield 65, 3) := by decide +kernel
theorem nD_M_close_10 : decode nC_M_close 10 = .ok (.aload_n 0, 1) := by decide +kernel
theorem nD_M_close_11 : decode nC_M_close 11 = .ok (.getfield 29, 3) := by decide +kernel
theorem nD_M_close_14 : decode nC_M_close 14 = .ok (.iload_n 1, 1) := by decide +kernel
theorem nD_M_close_15 : decode nC_M_close 15 = .ok (.iload_n 2, 1) := by decide +kernel
theorem nD_M_close_16 : decode nC_M_close 16 = .ok (.iastore, 1) := by decide +kernel
theorem nD_M_close_17 : decode nC_M_close 17 = .ok (.aload_n 0, 1) := by decide +kernel
theorem nD_M_close_18 : decode nC_M_close 18 = .ok (.getfield 23, 3) := by decide +kernel
theorem nD_M_close_21 : decode nC_M_close 21 = .ok (.iload_n 1, 1) := by decide +kernel
theorem nD_M_close_22 : decode nC_M_close 22 = .ok (.aload_n 0, 1) := by decide +kernel
theorem nD_M_close_23 : decode nC_M_close 23 = .ok (.getfield 65, 3) := by decide +kernel
theorem nD_M_close_26 : decode nC_M_close 26 = .ok (.iastore, 1) := by decide +kernel
theorem nD_M_close_27 : decode nC_M_close 27 = .ok (.aload_n 0, 1) := by decide +kernel
theorem nD_M_close_28 : decode nC_M_close 28 = .ok (.getfield 26, 3) := by decide +kernel
theorem nD_M_close_31 : decode nC_M_close 31 = .ok (.iload_n 1, 1) := by decide +kernel
theorem nD_M_close_32 : decode nC_M_close 32 = .ok (.iload_n 3, 1) := by decide +kernel
theorem nD_M_close_33 : decode nC_M_close 33 = .ok (.iastore, 1) := by decide +kernel
theorem nD_M_close_34 : decode nC_M_close 34 = .ok (.aload_n 0, 1) := by decide +kernel
theorem nD_M_close_35 : decode nC_M_close 35 = .ok (.invokevirtual 85, 3) := by decide +kernel
theorem nD_M_close_38 : decode nC_M_close 38 = .ok (.return_, 1) := by decide +kernel
theorem nD_M_endTake_0 : decode nC_M_endTake 0 = .ok (.aload_n 0, 1) := by decide +kernel
theorem nD_M_endTake_1 : decode nC_M_endTake 1 = .ok (.iload_n 1, 1) := by decide +kernel
theorem nD_M_endTake_2 : decode nC_M_endTake 2 = .ok (.invokevirtual 81, 3) := by decide +kernel
theorem nD_M_endTake_5 : decode nC_M_endTake 5 = .ok (.istore_n 3, 1) := by decide +kernel
theorem nD_M_endTake_6 : decode nC_M_endTake 6 = .ok (.iload_n 3, 1) := by decide +kernel
theorem nD_M_endTake_7 : decode nC_M_endTake 7 = .ok (.ifCond .lt 23, 3) := by decide +kernel
theorem nD_M_endTake_10 : decode nC_M_endTake 10 = .ok (.aload_n 0, 1) := by decide +kernel
theorem nD_M_endTake_11 : decode nC_M_endTake 11 = .ok (.getfield 13, 3) := by decide +kernel
theorem nD_M_endTake_14 : decode nC_M_endTake 14 = .ok (.iload_n 3, 1) := by decide +kernel
theorem nD_M_endTake_15 : decode nC_M_endTake 15 = .ok (.baload, 1) := by decide +kernel
theorem nD_M_endTake_16 : decode nC_M_endTake 16 = .ok (.ifCond .ne 14, 3) := by decide +kernel
theorem nD_M_endTake_19 : decode nC_M_endTake 19 = .ok (.iload_n 2, 1) := by decide +kernel
theorem nD_M_endTake_20 : decode nC_M_endTake 20 = .ok (.iconst (-1), 1) := by decide +kernel
theorem nD_M_endTake_21 : decode nC_M_endTake 21 = .ok (.if_icmp .lt 9, 3) := by decide +kernel
theorem nD_M_endTake_24 : decode nC_M_endTake 24 = .ok (.iload_n 2, 1) := by decide +kernel
theorem nD_M_endTake_25 : decode nC_M_endTake 25 = .ok (.bipush 15, 2) := by decide +kernel
theorem nD_M_endTake_27 : decode nC_M_endTake 27 = .ok (.if_icmp .le 5, 3) := by decide +kernel
theorem nD_M_endTake_30 : decode nC_M_endTake 30 = .ok (.iconst 0, 1) := by decide +kernel
theorem nD_M_endTake_31 : decode nC_M_endTake 31 = .ok (.ireturn, 1) := by decide +kernel
theorem nD_M_endTake_32 : decode nC_M_endTake 32 = .ok (.aload_n 0, 1) := by decide +kernel
theorem nD_M_endTake_33 : decode nC_M_endTake 33 = .ok (.iload_n 3, 1) := by decide +kernel
theorem nD_M_endTake_34 : decode nC_M_endTake 34 = .ok (.iconst 1, 1) := by decide +kernel
theorem nD_M_endTake_35 : decode nC_M_endTake 35 = .ok (.iload_n 2, 1) := by decide +kernel
theorem nD_M_endTake_36 : decode nC_M_endTake 36 = .ok (.invokevirtual 92, 3) := by decide +kernel
theorem nD_M_endTake_39 : decode nC_M_endTake 39 = .ok (.iconst 1, 1) := by decide +kernel
theorem nD_M_endTake_40 : decode nC_M_endTake 40 = .ok (.ireturn, 1) := by decide +kernel
theorem nD_M_giveUp_0 : decode nC_M_giveUp 0 = .ok (.aload_n 0, 1) := by decide +kernel
theorem nD_M_giveUp_1 : decode nC_M_giveUp 1 = .ok (.iload_n 1, 1) := by decide +kernel
theorem nD_M_giveUp_2 : decode nC_M_giveUp 2 = .ok (.invokevirtual 81, 3) := by decide +kernel
theorem nD_M_giveUp_5 : decode nC_M_giveUp 5 = .ok (.istore_n 2, 1) := by decide +kernel
theorem nD_M_giveUp_6 : decode nC_M_giveUp 6 = .ok (.iload_n 2, 1) := by decide +kernel
theorem nD_M_giveUp_7 : decode nC_M_giveUp 7 = .ok (.ifCond .ge 5, 3) := by decide +kernel
theorem nD_M_giveUp_10 : decode nC_M_giveUp 10 = .ok (.iconst 0, 1) := by decide +kernel
theorem nD_M_giveUp_11 : decode nC_M_giveUp 11 = .ok (.ireturn, 1) := by decide +kernel
theorem nD_M_giveUp_12 : decode nC_M_giveUp 12 = .ok (.aload_n 0, 1) := by decide +kernel
theorem nD_M_giveUp_13 : decode nC_M_giveUp 13 = .ok (.iload_n 2, 1) := by decide +kernel
theorem nD_M_giveUp_14 : decode nC_M_giveUp 14 = .ok (.iconst 2, 1) := by decide +kernel
theorem nD_M_giveUp_15 : decode nC_M_giveUp 15 = .ok (.iconst 0, 1) := by decide +kernel
theorem nD_M_giveUp_16 : decode nC_M_giveUp 16 = .ok (.invokevirtual 92, 3) := by decide +kernel
theorem nD_M_giveUp_19 : decode nC_M_giveUp 19 = .ok (.iconst 1, 1) := by decide +kernel
theorem nD_M_giveUp_20 : decode nC_M_giveUp 20 = .ok (.ireturn, 1) := by decide +kernel
theorem nD_M_events_0 : decode nC_M_events 0 = .ok (.aload_n 0, 1) := by decide +kernel
theorem nD_M_events_1 : decode nC_M_events 1 = .ok (.getfield 65, 3) := by decide +kernel
theorem nD_M_events_4 : decode nC_M_events 4 = .ok (.ireturn, 1) := by decide +kernel
theorem nD_M_begun_0 : decode nC_M_begun 0 = .ok (.aload_n 0, 1) := by decide +kernel
theorem nD_M_begun_1 : decode nC_M_begun 1 = .ok (.getfield 71, 3) := by decide +kernel
theorem nD_M_begun_4 : decode nC_M_begun 4 = .ok (.ireturn, 1) := by decide +kernel
theorem nD_M_fits_0 : decode nC_M_fits 0 = .ok (.aload_n 0, 1) := by decide +kernel
theorem nD_M_fits_1 : decode nC_M_fits 1 = .ok (.getfield 77, 3) := by decide +kernel
theorem nD_M_fits_4 : decode nC_M_fits 4 = .ok (.lconst 0, 1) := by decide +kernel
theorem nD_M_fits_5 : decode nC_M_fits 5 = .ok (.lcmp, 1) := by decide +kernel
theorem nD_M_fits_6 : decode nC_M_fits 6 = .ok (.ifCond .le 7, 3) := by decide +kernel
theorem nD_M_fits_9 : decode nC_M_fits 9 = .ok (.iconst 1, 1) := by decide +kernel
theorem nD_M_fits_10 : decode nC_M_fits 10 = .ok (.goto 4, 3) := by decide +kernel
theorem nD_M_fits_13 : decode nC_M_fits 13 = .ok (.iconst 0, 1) := by decide +kernel
theorem nD_M_fits_14 : decode nC_M_fits 14 = .ok (.ireturn, 1) := by decide +kernel
theorem nD_M_brokenAt_0 : decode nC_M_brokenAt 0 = .ok (.aload_n 0, 1) := by decide +kernel
theorem nD_M_brokenAt_1 : decode nC_M_brokenAt 1 = .ok (.getfield 68, 3) := by decide +kernel
theorem nD_M_brokenAt_4 : decode nC_M_brokenAt 4 = .ok (.ireturn, 1) := by decide +kernel
theorem nD_M_explanations_0 : decode nC_M_explanations 0 = .ok (.aload_n 0, 1) := by decide +kernel
theorem nD_M_explanations_1 : decode nC_M_explanations 1 = .ok (.getfield 77, 3) := by decide +kernel
theorem nD_M_explanations_4 : decode nC_M_explanations 4 = .ok (.lreturn, 1) := by decide +kernel
theorem nD_M_outcomes_0 : decode nC_M_outcomes 0 = .ok (.aload_n 0, 1) := by decide +kernel
theorem nD_M_outcomes_1 : decode nC_M_outcomes 1 = .ok (.getfield 109, 3) := by decide +kernel
theorem nD_M_outcomes_4 : decode nC_M_outcomes 4 = .ok (.ireturn, 1) := by decide +kernel
theorem nD_M_fewest_0 : decode nC_M_fewest 0 = .ok (.iconst (-1), 1) := by decide +kernel
theorem nD_M_fewest_1 : decode nC_M_fewest 1 = .ok (.istore_n 1, 1) := by decide +kernel
theorem nD_M_fewest_2 : decode nC_M_fewest 2 = .ok (.iconst 0, 1) := by decide +kernel
theorem nD_M_fewest_3 : decode nC_M_fewest 3 = .ok (.istore_n 2, 1) := by decide +kernel
theorem nD_M_fewest_4 : decode nC_M_fewest 4 = .ok (.iload_n 2, 1) := by decide +kernel
theorem nD_M_fewest_5 : decode nC_M_fewest 5 = .ok (.aload_n 0, 1) := by decide +kernel
theorem nD_M_fewest_6 : decode nC_M_fewest 6 = .ok (.getfield 109, 3) := by decide +kernel
theorem nD_M_fewest_9 : decode nC_M_fewest 9 = .ok (.if_icmp .ge 30, 3) := by decide +kernel
theorem nD_M_fewest_12 : decode nC_M_fewest 12 = .ok (.aload_n 0, 1) := by decide +kernel
theorem nD_M_fewest_13 : decode nC_M_fewest 13 = .ok (.iload_n 2, 1) := by decide +kernel
theorem nD_M_fewest_14 : decode nC_M_fewest 14 = .ok (.invokevirtual 126, 3) := by decide +kernel
theorem nD_M_fewest_17 : decode nC_M_fewest 17 = .ok (.istore_n 3, 1) := by decide +kernel
theorem nD_M_fewest_18 : decode nC_M_fewest 18 = .ok (.iload_n 1, 1) := by decide +kernel
theorem nD_M_fewest_19 : decode nC_M_fewest 19 = .ok (.ifCond .lt 8, 3) := by decide +kernel
theorem nD_M_fewest_22 : decode nC_M_fewest 22 = .ok (.iload_n 3, 1) := by decide +kernel
theorem nD_M_fewest_23 : decode nC_M_fewest 23 = .ok (.iload_n 1, 1) := by decide +kernel
theorem nD_M_fewest_24 : decode nC_M_fewest 24 = .ok (.if_icmp .ge 7, 3) := by decide +kernel
theorem nD_M_fewest_27 : decode nC_M_fewest 27 = .ok (.iload_n 3, 1) := by decide +kernel
theorem nD_M_fewest_28 : decode nC_M_fewest 28 = .ok (.goto 4, 3) := by decide +kernel
theorem nD_M_fewest_31 : decode nC_M_fewest 31 = .ok (.iload_n 1, 1) := by decide +kernel
theorem nD_M_fewest_32 : decode nC_M_fewest 32 = .ok (.istore_n 1, 1) := by decide +kernel
theorem nD_M_fewest_33 : decode nC_M_fewest 33 = .ok (.iinc 2 1, 3) := by decide +kernel
theorem nD_M_fewest_36 : decode nC_M_fewest 36 = .ok (.goto (-32), 3) := by decide +kernel
theorem nD_M_fewest_39 : decode nC_M_fewest 39 = .ok (.iload_n 1, 1) := by decide +kernel
theorem nD_M_fewest_40 : decode nC_M_fewest 40 = .ok (.ireturn, 1) := by decide +kernel
theorem nD_M_sizeOf_0 : decode nC_M_sizeOf 0 = .ok (.aload_n 0, 1) := by decide +kernel
theorem nD_M_sizeOf_1 : decode nC_M_sizeOf 1 = .ok (.getfield 44, 3) := by decide +kernel
theorem nD_M_sizeOf_4 : decode nC_M_sizeOf 4 = .ok (.iload_n 1, 1) := by decide +kernel
theorem nD_M_sizeOf_5 : decode nC_M_sizeOf 5 = .ok (.laload, 1) := by decide +kernel
theorem nD_M_sizeOf_6 : decode nC_M_sizeOf 6 = .ok (.ldc2_w 124, 3) := by decide +kernel
theorem nD_M_sizeOf_9 : decode nC_M_sizeOf 9 = .ok (.land, 1) := by decide +kernel
theorem nD_M_sizeOf_10 : decode nC_M_sizeOf 10 = .ok (.l2i, 1) := by decide +kernel
theorem nD_M_sizeOf_11 : decode nC_M_sizeOf 11 = .ok (.ireturn, 1) := by decide +kernel
theorem nD_M_most_0 : decode nC_M_most 0 = .ok (.iconst (-1), 1) := by decide +kernel
theorem nD_M_most_1 : decode nC_M_most 1 = .ok (.istore_n 1, 1) := by decide +kernel
theorem nD_M_most_2 : decode nC_M_most 2 = .ok (.iconst 0, 1) := by decide +kernel
theorem nD_M_most_3 : decode nC_M_most 3 = .ok (.istore_n 2, 1) := by decide +kernel
theorem nD_M_most_4 : decode nC_M_most 4 = .ok (.iload_n 2, 1) := by decide +kernel
theorem nD_M_most_5 : decode nC_M_most 5 = .ok (.aload_n 0, 1) := by decide +kernel
theorem nD_M_most_6 : decode nC_M_most 6 = .ok (.getfield 109, 3) := by decide +kernel
theorem nD_M_most_9 : decode nC_M_most 9 = .ok (.if_icmp .ge 26, 3) := by decide +kernel
theorem nD_M_most_12 : decode nC_M_most 12 = .ok (.aload_n 0, 1) := by decide +kernel
theorem nD_M_most_13 : decode nC_M_most 13 = .ok (.iload_n 2, 1) := by decide +kernel
theorem nD_M_most_14 : decode nC_M_most 14 = .ok (.invokevirtual 126, 3) := by decide +kernel
theorem nD_M_most_17 : decode nC_M_most 17 = .ok (.istore_n 3, 1) := by decide +kernel
theorem nD_M_most_18 : decode nC_M_most 18 = .ok (.iload_n 3, 1) := by decide +kernel
theorem nD_M_most_19 : decode nC_M_most 19 = .ok (.iload_n 1, 1) := by decide +kernel
theorem nD_M_most_20 : decode nC_M_most 20 = .ok (.if_icmp .le 7, 3) := by decide +kernel
theorem nD_M_most_23 : decode nC_M_most 23 = .ok (.iload_n 3, 1) := by decide +kernel
theorem nD_M_most_24 : decode nC_M_most 24 = .ok (.goto 4, 3) := by decide +kernel
theorem nD_M_most_27 : decode nC_M_most 27 = .ok (.iload_n 1, 1) := by decide +kernel
theorem nD_M_most_28 : decode nC_M_most 28 = .ok (.istore_n 1, 1) := by decide +kernel
theorem nD_M_most_29 : decode nC_M_most 29 = .ok (.iinc 2 1, 3) := by decide +kernel
theorem nD_M_most_32 : decode nC_M_most 32 = .ok (.goto (-28), 3) := by decide +kernel
theorem nD_M_most_35 : decode nC_M_most 35 = .ok (.iload_n 1, 1) := by decide +kernel
theorem nD_M_most_36 : decode nC_M_most 36 = .ok (.ireturn, 1) := by decide +kernel
theorem nD_M_mayHold_0 : decode nC_M_mayHold 0 = .ok (.iload_n 1, 1) := by decide +kernel
theorem nD_M_mayHold_1 : decode nC_M_mayHold 1 = .ok (.ifCond .lt 19, 3) := by decide +kernel
theorem nD_M_mayHold_4 : decode nC_M_mayHold 4 = .ok (.iload_n 1, 1) := by decide +kernel
theorem nD_M_mayHold_5 : decode nC_M_mayHold 5 = .ok (.bipush 7, 2) := by decide +kernel
theorem nD_M_mayHold_7 : decode nC_M_mayHold 7 = .ok (.if_icmp .gt 13, 3) := by decide +kernel
theorem nD_M_mayHold_10 : decode nC_M_mayHold 10 = .ok (.iload_n 2, 1) := by decide +kernel
theorem nD_M_mayHold_11 : decode nC_M_mayHold 11 = .ok (.ifCond .lt 9, 3) := by decide +kernel
theorem nD_M_mayHold_14 : decode nC_M_mayHold 14 = .ok (.iload_n 2, 1) := by decide +kernel
theorem nD_M_mayHold_15 : decode nC_M_mayHold 15 = .ok (.bipush 15, 2) := by decide +kernel
theorem nD_M_mayHold_17 : decode nC_M_mayHold 17 = .ok (.if_icmp .le 5, 3) := by decide +kernel
theorem nD_M_mayHold_20 : decode nC_M_mayHold 20 = .ok (.iconst 0, 1) := by decide +kernel
theorem nD_M_mayHold_21 : decode nC_M_mayHold 21 = .ok (.ireturn, 1) := by decide +kernel
theorem nD_M_mayHold_22 : decode nC_M_mayHold 22 = .ok (.iconst 0, 1) := by decide +kernel
theorem nD_M_mayHold_23 : decode nC_M_mayHold 23 = .ok (.istore_n 3, 1) := by decide +kernel
theorem nD_M_mayHold_24 : decode nC_M_mayHold 24 = .ok (.iconst 0, 1) := by decide +kernel
theorem nD_M_mayHold_25 : decode nC_M_mayHold 25 = .ok (.istore 4, 2) := by decide +kernel
theorem nD_M_mayHold_27 : decode nC_M_mayHold 27 = .ok (.iload 4, 2) := by decide +kernel
theorem nD_M_mayHold_29 : decode nC_M_mayHold 29 = .ok (.aload_n 0, 1) := by decide +kernel
theorem nD_M_mayHold_30 : decode nC_M_mayHold 30 = .ok (.getfield 109, 3) := by decide +kernel
theorem nD_M_mayHold_33 : decode nC_M_mayHold 33 = .ok (.if_icmp .ge 52, 3) := by decide +kernel
theorem nD_M_mayHold_36 : decode nC_M_mayHold 36 = .ok (.iload_n 3, 1) := by decide +kernel
theorem nD_M_mayHold_37 : decode nC_M_mayHold 37 = .ok (.ifCond .ne 36, 3) := by decide +kernel
theorem nD_M_mayHold_40 : decode nC_M_mayHold 40 = .ok (.iload_n 1, 1) := by decide +kernel
theorem nD_M_mayHold_41 : decode nC_M_mayHold 41 = .ok (.aload_n 0, 1) := by decide +kernel
theorem nD_M_mayHold_42 : decode nC_M_mayHold 42 = .ok (.iload 4, 2) := by decide +kernel
theorem nD_M_mayHold_44 : decode nC_M_mayHold 44 = .ok (.invokevirtual 126, 3) := by decide +kernel
theorem nD_M_mayHold_47 : decode nC_M_mayHold 47 = .ok (.if_icmp .ge 30, 3) := by decide +kernel
theorem nD_M_mayHold_50 : decode nC_M_mayHold 50 = .ok (.aload_n 0, 1) := by decide +kernel
theorem nD_M_mayHold_51 : decode nC_M_mayHold 51 = .ok (.getfield 44, 3) := by decide +kernel
theorem nD_M_mayHold_54 : decode nC_M_mayHold 54 = .ok (.iload 4, 2) := by decide +kernel
theorem nD_M_mayHold_56 : decode nC_M_mayHold 56 = .ok (.laload, 1) := by decide +kernel
theorem nD_M_mayHold_57 : decode nC_M_mayHold 57 = .ok (.iconst 4, 1) := by decide +kernel
theorem nD_M_mayHold_58 : decode nC_M_mayHold 58 = .ok (.iconst 4, 1) := by decide +kernel
theorem nD_M_mayHold_59 : decode nC_M_mayHold 59 = .ok (.iload_n 1, 1) := by decide +kernel
theorem nD_M_mayHold_60 : decode nC_M_mayHold 60 = .ok (.imul, 1) := by decide +kernel
theorem nD_M_mayHold_61 : decode nC_M_mayHold 61 = .ok (.iadd, 1) := by decide +kernel
theorem nD_M_mayHold_62 : decode nC_M_mayHold 62 = .ok (.lshr, 1) := by decide +kernel
theorem nD_M_mayHold_63 : decode nC_M_mayHold 63 = .ok (.ldc2_w 124, 3) := by decide +kernel
theorem nD_M_mayHold_66 : decode nC_M_mayHold 66 = .ok (.land, 1) := by decide +kernel
theorem nD_M_mayHold_67 : decode nC_M_mayHold 67 = .ok (.iload_n 2, 1) := by decide +kernel
theorem nD_M_mayHold_68 : decode nC_M_mayHold 68 = .ok (.i2l, 1) := by decide +kernel
theorem nD_M_mayHold_69 : decode nC_M_mayHold 69 = .ok (.lcmp, 1) := by decide +kernel
theorem nD_M_mayHold_70 : decode nC_M_mayHold 70 = .ok (.ifCond .ne 7, 3) := by decide +kernel
theorem nD_M_mayHold_73 : decode nC_M_mayHold 73 = .ok (.iconst 1, 1) := by decide +kernel
theorem nD_M_mayHold_74 : decode nC_M_mayHold 74 = .ok (.goto 4, 3) := by decide +kernel
theorem nD_M_mayHold_77 : decode nC_M_mayHold 77 = .ok (.iconst 0, 1) := by decide +kernel
theorem nD_M_mayHold_78 : decode nC_M_mayHold 78 = .ok (.istore_n 3, 1) := by decide +kernel
theorem nD_M_mayHold_79 : decode nC_M_mayHold 79 = .ok (.iinc 4 1, 3) := by decide +kernel
theorem nD_M_mayHold_82 : decode nC_M_mayHold 82 = .ok (.goto (-55), 3) := by decide +kernel
theorem nD_M_mayHold_85 : decode nC_M_mayHold 85 = .ok (.iload_n 3, 1) := by decide +kernel
theorem nD_M_mayHold_86 : decode nC_M_mayHold 86 = .ok (.ireturn, 1) := by decide +kernel
theorem nD_M_certain_0 : decode nC_M_certain 0 = .ok (.aload_n 0, 1) := by decide +kernel
theorem nD_M_certain_1 : decode nC_M_certain 1 = .ok (.iload_n 1, 1) := by decide +kernel
theorem nD_M_certain_2 : decode nC_M_certain 2 = .ok (.invokevirtual 81, 3) := by decide +kernel
theorem nD_M_certain_5 : decode nC_M_certain 5 = .ok (.ifCond .lt 30, 3) := by decide +kernel
theorem nD_M_certain_8 : decode nC_M_certain 8 = .ok (.aload_n 0, 1) := by decide +kernel
theorem nD_M_certain_9 : decode nC_M_certain 9 = .ok (.getfield 77, 3) := by decide +kernel
theorem nD_M_certain_12 : decode nC_M_certain 12 = .ok (.lconst 0, 1) := by decide +kernel
theorem nD_M_certain_13 : decode nC_M_certain 13 = .ok (.lcmp, 1) := by decide +kernel
theorem nD_M_certain_14 : decode nC_M_certain 14 = .ok (.ifCond .le 21, 3) := by decide +kernel
theorem nD_M_certain_17 : decode nC_M_certain 17 = .ok (.aload_n 0, 1) := by decide +kernel
theorem nD_M_certain_18 : decode nC_M_certain 18 = .ok (.getfield 48, 3) := by decide +kernel
theorem nD_M_certain_21 : decode nC_M_certain 21 = .ok (.iload_n 1, 1) := by decide +kernel
theorem nD_M_certain_22 : decode nC_M_certain 22 = .ok (.laload, 1) := by decide +kernel
theorem nD_M_certain_23 : decode nC_M_certain 23 = .ok (.aload_n 0, 1) := by decide +kernel
theorem nD_M_certain_24 : decode nC_M_certain 24 = .ok (.getfield 77, 3) := by decide +kernel
theorem nD_M_certain_27 : decode nC_M_certain 27 = .ok (.lcmp, 1) := by decide +kernel
theorem nD_M_certain_28 : decode nC_M_certain 28 = .ok (.ifCond .ne 7, 3) := by decide +kernel
theorem nD_M_certain_31 : decode nC_M_certain 31 = .ok (.iconst 1, 1) := by decide +kernel
theorem nD_M_certain_32 : decode nC_M_certain 32 = .ok (.goto 4, 3) := by decide +kernel
theorem nD_M_certain_35 : decode nC_M_certain 35 = .ok (.iconst 0, 1) := by decide +kernel
theorem nD_M_certain_36 : decode nC_M_certain 36 = .ok (.ireturn, 1) := by decide +kernel
theorem nD_M_answers_0 : decode nC_M_answers 0 = .ok (.aload_n 0, 1) := by decide +kernel
theorem nD_M_answers_1 : decode nC_M_answers 1 = .ok (.iload_n 1, 1) := by decide +kernel
theorem nD_M_answers_2 : decode nC_M_answers 2 = .ok (.invokevirtual 81, 3) := by decide +kernel
theorem nD_M_answers_5 : decode nC_M_answers 5 = .ok (.ifCond .ge 5, 3) := by decide +kernel
theorem nD_M_answers_8 : decode nC_M_answers 8 = .ok (.iconst 0, 1) := by decide +kernel
theorem nD_M_answers_9 : decode nC_M_answers 9 = .ok (.ireturn, 1) := by decide +kernel
theorem nD_M_answers_10 : decode nC_M_answers 10 = .ok (.iconst 0, 1) := by decide +kernel
theorem nD_M_answers_11 : decode nC_M_answers 11 = .ok (.istore_n 2, 1) := by decide +kernel
theorem nD_M_answers_12 : decode nC_M_answers 12 = .ok (.iconst 0, 1) := by decide +kernel
theorem nD_M_answers_13 : decode nC_M_answers 13 = .ok (.istore_n 3, 1) := by decide +kernel
theorem nD_M_answers_14 : decode nC_M_answers 14 = .ok (.iload_n 3, 1) := by decide +kernel
theorem nD_M_answers_15 : decode nC_M_answers 15 = .ok (.bipush 17, 2) := by decide +kernel
theorem nD_M_answers_17 : decode nC_M_answers 17 = .ok (.if_icmp .ge 22, 3) := by decide +kernel
theorem nD_M_answers_20 : decode nC_M_answers 20 = .ok (.iload_n 2, 1) := by decide +kernel
theorem nD_M_answers_21 : decode nC_M_answers 21 = .ok (.aload_n 0, 1) := by decide +kernel
theorem nD_M_answers_22 : decode nC_M_answers 22 = .ok (.getfield 51, 3) := by decide +kernel
theorem nD_M_answers_25 : decode nC_M_answers 25 = .ok (.iload_n 1, 1) := by decide +kernel
theorem nD_M_answers_26 : decode nC_M_answers 26 = .ok (.iaload, 1) := by decide +kernel
theorem nD_M_answers_27 : decode nC_M_answers 27 = .ok (.iload_n 3, 1) := by decide +kernel
theorem nD_M_answers_28 : decode nC_M_answers 28 = .ok (.ishr, 1) := by decide +kernel
theorem nD_M_answers_29 : decode nC_M_answers 29 = .ok (.iconst 1, 1) := by decide +kernel
theorem nD_M_answers_30 : decode nC_M_answers 30 = .ok (.iand, 1) := by decide +kernel
theorem nD_M_answers_31 : decode nC_M_answers 31 = .ok (.iadd, 1) := by decide +kernel
theorem nD_M_answers_32 : decode nC_M_answers 32 = .ok (.istore_n 2, 1) := by decide +kernel
theorem nD_M_answers_33 : decode nC_M_answers 33 = .ok (.iinc 3 1, 3) := by decide +kernel
theorem nD_M_answers_36 : decode nC_M_answers 36 = .ok (.goto (-22), 3) := by decide +kernel
theorem nD_M_answers_39 : decode nC_M_answers 39 = .ok (.iload_n 2, 1) := by decide +kernel
theorem nD_M_answers_40 : decode nC_M_answers 40 = .ok (.ireturn, 1) := by decide +kernel
