theorem dX10_clear_0 : decode cX10_clear 0 = .ok (.aload_n 0, 1) := by decide +kernel
theorem dX10_clear_1 : decode cX10_clear 1 = .ok (.getfield 11, 3) := by decide +kernel
theorem dX10_clear_4 : decode cX10_clear 4 = .ok (.iconst 0, 1) := by decide +kernel
theorem dX10_clear_5 : decode cX10_clear 5 = .ok (.invokestatic 39, 3) := by decide +kernel
theorem dX10_clear_8 : decode cX10_clear 8 = .ok (.aload_n 0, 1) := by decide +kernel
theorem dX10_clear_9 : decode cX10_clear 9 = .ok (.iconst 0, 1) := by decide +kernel
theorem dX10_clear_10 : decode cX10_clear 10 = .ok (.putfield 45, 3) := by decide +kernel
theorem dX10_clear_13 : decode cX10_clear 13 = .ok (.aload_n 0, 1) := by decide +kernel
theorem dX10_clear_14 : decode cX10_clear 14 = .ok (.iconst (-1), 1) := by decide +kernel
theorem dX10_clear_15 : decode cX10_clear 15 = .ok (.putfield 49, 3) := by decide +kernel
theorem dX10_clear_18 : decode cX10_clear 18 = .ok (.aload_n 0, 1) := by decide +kernel
theorem dX10_clear_19 : decode cX10_clear 19 = .ok (.iconst 0, 1) := by decide +kernel
theorem dX10_clear_20 : decode cX10_clear 20 = .ok (.putfield 52, 3) := by decide +kernel
theorem dX10_clear_23 : decode cX10_clear 23 = .ok (.aload_n 0, 1) := by decide +kernel
theorem dX10_clear_24 : decode cX10_clear 24 = .ok (.iconst 0, 1) := by decide +kernel
theorem dX10_clear_25 : decode cX10_clear 25 = .ok (.putfield 55, 3) := by decide +kernel
theorem dX10_clear_28 : decode cX10_clear 28 = .ok (.return_, 1) := by decide +kernel
theorem dX10_hasRun_0 : decode cX10_hasRun 0 = .ok (.aload_n 0, 1) := by decide +kernel
theorem dX10_hasRun_1 : decode cX10_hasRun 1 = .ok (.getfield 45, 3) := by decide +kernel
theorem dX10_hasRun_4 : decode cX10_hasRun 4 = .ok (.ifCond .le 7, 3) := by decide +kernel
theorem dX10_hasRun_7 : decode cX10_hasRun 7 = .ok (.iconst 1, 1) := by decide +kernel
theorem dX10_hasRun_8 : decode cX10_hasRun 8 = .ok (.goto 4, 3) := by decide +kernel
theorem dX10_hasRun_11 : decode cX10_hasRun 11 = .ok (.iconst 0, 1) := by decide +kernel
theorem dX10_hasRun_12 : decode cX10_hasRun 12 = .ok (.ireturn, 1) := by decide +kernel
theorem dX10_endPlace_0 : decode cX10_endPlace 0 = .ok (.aload_n 0, 1) := by decide +kernel
theorem dX10_endPlace_1 : decode cX10_endPlace 1 = .ok (.getfield 49, 3) := by decide +kernel
theorem dX10_endPlace_4 : decode cX10_endPlace 4 = .ok (.ireturn, 1) := by decide +kernel
theorem dX10_stepsDone_0 : decode cX10_stepsDone 0 = .ok (.aload_n 0, 1) := by decide +kernel
theorem dX10_stepsDone_1 : decode cX10_stepsDone 1 = .ok (.getfield 52, 3) := by decide +kernel
theorem dX10_stepsDone_4 : decode cX10_stepsDone 4 = .ok (.ireturn, 1) := by decide +kernel
theorem dX10_tellings_0 : decode cX10_tellings 0 = .ok (.aload_n 0, 1) := by decide +kernel
theorem dX10_tellings_1 : decode cX10_tellings 1 = .ok (.getfield 55, 3) := by decide +kernel
theorem dX10_tellings_4 : decode cX10_tellings 4 = .ok (.ireturn, 1) := by decide +kernel
theorem dX10_give_0 : decode cX10_give 0 = .ok (.aload_n 0, 1) := by decide +kernel
theorem dX10_give_1 : decode cX10_give 1 = .ok (.getfield 31, 3) := by decide +kernel
theorem dX10_give_4 : decode cX10_give 4 = .ok (.iload_n 1, 1) := by decide +kernel
theorem dX10_give_5 : decode cX10_give 5 = .ok (.invokevirtual 58, 3) := by decide +kernel
theorem dX10_give_8 : decode cX10_give 8 = .ok (.ifCond .eq 12, 3) := by decide +kernel
theorem dX10_give_11 : decode cX10_give 11 = .ok (.iload_n 1, 1) := by decide +kernel
theorem dX10_give_12 : decode cX10_give 12 = .ok (.aload_n 0, 1) := by decide +kernel
theorem dX10_give_13 : decode cX10_give 13 = .ok (.getfield 11, 3) := by decide +kernel
theorem dX10_give_16 : decode cX10_give 16 = .ok (.arraylength, 1) := by decide +kernel
theorem dX10_give_17 : decode cX10_give 17 = .ok (.if_icmp .lt 5, 3) := by decide +kernel
theorem dX10_give_20 : decode cX10_give 20 = .ok (.iconst 0, 1) := by decide +kernel
theorem dX10_give_21 : decode cX10_give 21 = .ok (.ireturn, 1) := by decide +kernel
theorem dX10_give_22 : decode cX10_give 22 = .ok (.aload_n 0, 1) := by decide +kernel
theorem dX10_give_23 : decode cX10_give 23 = .ok (.getfield 11, 3) := by decide +kernel
theorem dX10_give_26 : decode cX10_give 26 = .ok (.iload_n 1, 1) := by decide +kernel
theorem dX10_give_27 : decode cX10_give 27 = .ok (.iload_n 2, 1) := by decide +kernel
theorem dX10_give_28 : decode cX10_give 28 = .ok (.iastore, 1) := by decide +kernel
theorem dX10_give_29 : decode cX10_give 29 = .ok (.iconst 1, 1) := by decide +kernel
theorem dX10_give_30 : decode cX10_give 30 = .ok (.ireturn, 1) := by decide +kernel
theorem dX10_perform_0 : decode cX10_perform 0 = .ok (.aload_n 0, 1) := by decide +kernel
theorem dX10_perform_1 : decode cX10_perform 1 = .ok (.getfield 35, 3) := by decide +kernel
theorem dX10_perform_4 : decode cX10_perform 4 = .ok (.sipush 2048, 3) := by decide +kernel
theorem dX10_perform_7 : decode cX10_perform 7 = .ok (.invokevirtual 64, 3) := by decide +kernel
theorem dX10_perform_10 : decode cX10_perform 10 = .ok (.iconst 0, 1) := by decide +kernel
theorem dX10_perform_11 : decode cX10_perform 11 = .ok (.istore_n 2, 1) := by decide +kernel
theorem dX10_perform_12 : decode cX10_perform 12 = .ok (.iload_n 2, 1) := by decide +kernel
theorem dX10_perform_13 : decode cX10_perform 13 = .ok (.aload_n 0, 1) := by decide +kernel
theorem dX10_perform_14 : decode cX10_perform 14 = .ok (.getfield 31, 3) := by decide +kernel
theorem dX10_perform_17 : decode cX10_perform 17 = .ok (.invokevirtual 70, 3) := by decide +kernel
theorem dX10_perform_20 : decode cX10_perform 20 = .ok (.if_icmp .ge 44, 3) := by decide +kernel
theorem dX10_perform_23 : decode cX10_perform 23 = .ok (.iload_n 2, 1) := by decide +kernel
theorem dX10_perform_24 : decode cX10_perform 24 = .ok (.aload_n 0, 1) := by decide +kernel
theorem dX10_perform_25 : decode cX10_perform 25 = .ok (.getfield 11, 3) := by decide +kernel
theorem dX10_perform_28 : decode cX10_perform 28 = .ok (.arraylength, 1) := by decide +kernel
theorem dX10_perform_29 : decode cX10_perform 29 = .ok (.if_icmp .ge 35, 3) := by decide +kernel
theorem dX10_perform_32 : decode cX10_perform 32 = .ok (.aload_n 0, 1) := by decide +kernel
theorem dX10_perform_33 : decode cX10_perform 33 = .ok (.getfield 35, 3) := by decide +kernel
theorem dX10_perform_36 : decode cX10_perform 36 = .ok (.iconst 0, 1) := by decide +kernel
theorem dX10_perform_37 : decode cX10_perform 37 = .ok (.aload_n 0, 1) := by decide +kernel
theorem dX10_perform_38 : decode cX10_perform 38 = .ok (.getfield 31, 3) := by decide +kernel
theorem dX10_perform_41 : decode cX10_perform 41 = .ok (.iload_n 2, 1) := by decide +kernel
theorem dX10_perform_42 : decode cX10_perform 42 = .ok (.invokevirtual 74, 3) := by decide +kernel
theorem dX10_perform_45 : decode cX10_perform 45 = .ok (.iconst 4, 1) := by decide +kernel
theorem dX10_perform_46 : decode cX10_perform 46 = .ok (.imul, 1) := by decide +kernel
theorem dX10_perform_47 : decode cX10_perform 47 = .ok (.iadd, 1) := by decide +kernel
theorem dX10_perform_48 : decode cX10_perform 48 = .ok (.aload_n 0, 1) := by decide +kernel
theorem dX10_perform_49 : decode cX10_perform 49 = .ok (.getfield 11, 3) := by decide +kernel
theorem dX10_perform_52 : decode cX10_perform 52 = .ok (.iload_n 2, 1) := by decide +kernel
theorem dX10_perform_53 : decode cX10_perform 53 = .ok (.iaload, 1) := by decide +kernel
theorem dX10_perform_54 : decode cX10_perform 54 = .ok (.invokevirtual 78, 3) := by decide +kernel
theorem dX10_perform_57 : decode cX10_perform 57 = .ok (.pop, 1) := by decide +kernel
theorem dX10_perform_58 : decode cX10_perform 58 = .ok (.iinc 2 1, 3) := by decide +kernel
theorem dX10_perform_61 : decode cX10_perform 61 = .ok (.goto (-49), 3) := by decide +kernel
theorem dX10_perform_64 : decode cX10_perform 64 = .ok (.aload_n 0, 1) := by decide +kernel
theorem dX10_perform_65 : decode cX10_perform 65 = .ok (.getfield 35, 3) := by decide +kernel
theorem dX10_perform_68 : decode cX10_perform 68 = .ok (.iconst 2, 1) := by decide +kernel
theorem dX10_perform_69 : decode cX10_perform 69 = .ok (.iload_n 1, 1) := by decide +kernel
theorem dX10_perform_70 : decode cX10_perform 70 = .ok (.invokevirtual 82, 3) := by decide +kernel
theorem dX10_perform_73 : decode cX10_perform 73 = .ok (.pop, 1) := by decide +kernel
theorem dX10_perform_74 : decode cX10_perform 74 = .ok (.aload_n 0, 1) := by decide +kernel
theorem dX10_perform_75 : decode cX10_perform 75 = .ok (.getfield 35, 3) := by decide +kernel
theorem dX10_perform_78 : decode cX10_perform 78 = .ok (.sipush 2048, 3) := by decide +kernel
theorem dX10_perform_81 : decode cX10_perform 81 = .ok (.invokevirtual 84, 3) := by decide +kernel
theorem dX10_perform_84 : decode cX10_perform 84 = .ok (.pop, 1) := by decide +kernel
theorem dX10_perform_85 : decode cX10_perform 85 = .ok (.aload_n 0, 1) := by decide +kernel
theorem dX10_perform_86 : decode cX10_perform 86 = .ok (.getfield 35, 3) := by decide +kernel
theorem dX10_perform_89 : decode cX10_perform 89 = .ok (.ldc 87, 2) := by decide +kernel
theorem dX10_perform_91 : decode cX10_perform 91 = .ok (.invokevirtual 88, 3) := by decide +kernel
theorem dX10_perform_94 : decode cX10_perform 94 = .ok (.pop, 1) := by decide +kernel
theorem dX10_perform_95 : decode cX10_perform 95 = .ok (.aload_n 0, 1) := by decide +kernel
theorem dX10_perform_96 : decode cX10_perform 96 = .ok (.getfield 35, 3) := by decide +kernel
theorem dX10_perform_99 : decode cX10_perform 99 = .ok (.iconst 5, 1) := by decide +kernel
theorem dX10_perform_100 : decode cX10_perform 100 = .ok (.invokevirtual 91, 3) := by decide +kernel
theorem dX10_perform_103 : decode cX10_perform 103 = .ok (.istore_n 2, 1) := by decide +kernel
theorem dX10_perform_104 : decode cX10_perform 104 = .ok (.aload_n 0, 1) := by decide +kernel
theorem dX10_perform_105 : decode cX10_perform 105 = .ok (.iload_n 2, 1) := by decide +kernel
theorem dX10_perform_106 : decode cX10_perform 106 = .ok (.ifCond .ne 7, 3) := by decide +kernel
theorem dX10_perform_109 : decode cX10_perform 109 = .ok (.iconst (-1), 1) := by decide +kernel
theorem dX10_perform_110 : decode cX10_perform 110 = .ok (.goto 18, 3) := by decide +kernel
theorem dX10_perform_113 : decode cX10_perform 113 = .ok (.aload_n 0, 1) := by decide +kernel
theorem dX10_perform_114 : decode cX10_perform 114 = .ok (.getfield 27, 3) := by decide +kernel
theorem dX10_perform_117 : decode cX10_perform 117 = .ok (.aload_n 0, 1) := by decide +kernel
theorem dX10_perform_118 : decode cX10_perform 118 = .ok (.getfield 35, 3) := by decide +kernel
theorem dX10_perform_121 : decode cX10_perform 121 = .ok (.iconst 1, 1) := by decide +kernel
theorem dX10_perform_122 : decode cX10_perform 122 = .ok (.invokevirtual 91, 3) := by decide +kernel
theorem dX10_perform_125 : decode cX10_perform 125 = .ok (.invokevirtual 94, 3) := by decide +kernel
theorem dX10_perform_128 : decode cX10_perform 128 = .ok (.putfield 49, 3) := by decide +kernel
theorem dX10_perform_131 : decode cX10_perform 131 = .ok (.aload_n 0, 1) := by decide +kernel
theorem dX10_perform_132 : decode cX10_perform 132 = .ok (.iload_n 1, 1) := by decide +kernel
theorem dX10_perform_133 : decode cX10_perform 133 = .ok (.aload_n 0, 1) := by decide +kernel
theorem dX10_perform_134 : decode cX10_perform 134 = .ok (.getfield 35, 3) := by decide +kernel
theorem dX10_perform_137 : decode cX10_perform 137 = .ok (.iconst 2, 1) := by decide +kernel
theorem dX10_perform_138 : decode cX10_perform 138 = .ok (.invokevirtual 91, 3) := by decide +kernel
theorem dX10_perform_141 : decode cX10_perform 141 = .ok (.isub, 1) := by decide +kernel
theorem dX10_perform_142 : decode cX10_perform 142 = .ok (.putfield 52, 3) := by decide +kernel
theorem dX10_perform_145 : decode cX10_perform 145 = .ok (.aload_n 0, 1) := by decide +kernel
theorem dX10_perform_146 : decode cX10_perform 146 = .ok (.aload_n 0, 1) := by decide +kernel
theorem dX10_perform_147 : decode cX10_perform 147 = .ok (.getfield 35, 3) := by decide +kernel
theorem dX10_perform_150 : decode cX10_perform 150 = .ok (.iconst 4, 1) := by decide +kernel
theorem dX10_perform_151 : decode cX10_perform 151 = .ok (.invokevirtual 91, 3) := by decide +kernel
theorem dX10_perform_154 : decode cX10_perform 154 = .ok (.iconst 4, 1) := by decide +kernel
theorem dX10_perform_155 : decode cX10_perform 155 = .ok (.idiv, 1) := by decide +kernel
theorem dX10_perform_156 : decode cX10_perform 156 = .ok (.putfield 55, 3) := by decide +kernel
theorem dX10_perform_159 : decode cX10_perform 159 = .ok (.aload_n 0, 1) := by decide +kernel
theorem dX10_perform_160 : decode cX10_perform 160 = .ok (.iload_n 1, 1) := by decide +kernel
theorem dX10_perform_161 : decode cX10_perform 161 = .ok (.invokevirtual 99, 3) := by decide +kernel
theorem dX10_perform_164 : decode cX10_perform 164 = .ok (.iload_n 2, 1) := by decide +kernel
theorem dX10_perform_165 : decode cX10_perform 165 = .ok (.ireturn, 1) := by decide +kernel
theorem dX10_remember_0 : decode cX10_remember 0 = .ok (.aload_n 0, 1) := by decide +kernel
theorem dX10_remember_1 : decode cX10_remember 1 = .ok (.getfield 24, 3) := by decide +kernel
theorem dX10_remember_4 : decode cX10_remember 4 = .ok (.astore_n 2, 1) := by decide +kernel
theorem dX10_remember_5 : decode cX10_remember 5 = .ok (.aload_n 0, 1) := by decide +kernel
theorem dX10_remember_6 : decode cX10_remember 6 = .ok (.aload_n 0, 1) := by decide +kernel
theorem dX10_remember_7 : decode cX10_remember 7 = .ok (.getfield 20, 3) := by decide +kernel
theorem dX10_remember_10 : decode cX10_remember 10 = .ok (.putfield 24, 3) := by decide +kernel
theorem dX10_remember_13 : decode cX10_remember 13 = .ok (.aload_n 0, 1) := by decide +kernel
theorem dX10_remember_14 : decode cX10_remember 14 = .ok (.aload_n 2, 1) := by decide +kernel
theorem dX10_remember_15 : decode cX10_remember 15 = .ok (.putfield 20, 3) := by decide +kernel
theorem dX10_remember_18 : decode cX10_remember 18 = .ok (.aload_n 0, 1) := by decide +kernel
theorem dX10_remember_19 : decode cX10_remember 19 = .ok (.getfield 20, 3) := by decide +kernel
theorem dX10_remember_22 : decode cX10_remember 22 = .ok (.iload_n 1, 1) := by decide +kernel
theorem dX10_remember_23 : decode cX10_remember 23 = .ok (.invokevirtual 102, 3) := by decide +kernel
theorem dX10_remember_26 : decode cX10_remember 26 = .ok (.iconst 0, 1) := by decide +kernel
theorem dX10_remember_27 : decode cX10_remember 27 = .ok (.istore_n 3, 1) := by decide +kernel
theorem dX10_remember_28 : decode cX10_remember 28 = .ok (.iload_n 3, 1) := by decide +kernel
theorem dX10_remember_29 : decode cX10_remember 29 = .ok (.aload_n 0, 1) := by decide +kernel
theorem dX10_remember_30 : decode cX10_remember 30 = .ok (.getfield 31, 3) := by decide +kernel
theorem dX10_remember_33 : decode cX10_remember 33 = .ok (.invokevirtual 70, 3) := by decide +kernel
theorem dX10_remember_36 : decode cX10_remember 36 = .ok (.if_icmp .ge 42, 3) := by decide +kernel
theorem dX10_remember_39 : decode cX10_remember 39 = .ok (.iload_n 3, 1) := by decide +kernel
theorem dX10_remember_40 : decode cX10_remember 40 = .ok (.aload_n 0, 1) := by decide +kernel
theorem dX10_remember_41 : decode cX10_remember 41 = .ok (.getfield 11, 3) := by decide +kernel
theorem dX10_remember_44 : decode cX10_remember 44 = .ok (.arraylength, 1) := by decide +kernel
theorem dX10_remember_45 : decode cX10_remember 45 = .ok (.if_icmp .ge 33, 3) := by decide +kernel
theorem dX10_remember_48 : decode cX10_remember 48 = .ok (.aload_n 0, 1) := by decide +kernel
theorem dX10_remember_49 : decode cX10_remember 49 = .ok (.getfield 31, 3) := by decide +kernel
theorem dX10_remember_52 : decode cX10_remember 52 = .ok (.iload_n 3, 1) := by decide +kernel
theorem dX10_remember_53 : decode cX10_remember 53 = .ok (.invokevirtual 105, 3) := by decide +kernel
theorem dX10_remember_56 : decode cX10_remember 56 = .ok (.ifCond .ne 16, 3) := by decide +kernel
theorem dX10_remember_59 : decode cX10_remember 59 = .ok (.aload_n 0, 1) := by decide +kernel
theorem dX10_remember_60 : decode cX10_remember 60 = .ok (.getfield 20, 3) := by decide +kernel
theorem dX10_remember_63 : decode cX10_remember 63 = .ok (.aload_n 0, 1) := by decide +kernel
theorem dX10_remember_64 : decode cX10_remember 64 = .ok (.getfield 11, 3) := by decide +kernel
theorem dX10_remember_67 : decode cX10_remember 67 = .ok (.iload_n 3, 1) := by decide +kernel
theorem dX10_remember_68 : decode cX10_remember 68 = .ok (.iaload, 1) := by decide +kernel
theorem dX10_remember_69 : decode cX10_remember 69 = .ok (.invokevirtual 108, 3) := by decide +kernel
theorem dX10_remember_72 : decode cX10_remember 72 = .ok (.iinc 3 1, 3) := by decide +kernel
theorem dX10_remember_75 : decode cX10_remember 75 = .ok (.goto (-47), 3) := by decide +kernel
theorem dX10_remember_78 : decode cX10_remember 78 = .ok (.aload_n 0, 1) := by decide +kernel
theorem dX10_remember_79 : decode cX10_remember 79 = .ok (.getfield 20, 3) := by decide +kernel
theorem dX10_remember_82 : decode cX10_remember 82 = .ok (.aload_n 0, 1) := by decide +kernel
theorem dX10_remember_83 : decode cX10_remember 83 = .ok (.getfield 35, 3) := by decide +kernel
theorem dX10_remember_86 : decode cX10_remember 86 = .ok (.invokevirtual 111, 3) := by decide +kernel
theorem dX10_remember_89 : decode cX10_remember 89 = .ok (.aload_n 0, 1) := by decide +kernel
theorem dX10_remember_90 : decode cX10_remember 90 = .ok (.getfield 35, 3) := by decide +kernel
theorem dX10_remember_93 : decode cX10_remember 93 = .ok (.invokevirtual 115, 3) := by decide +kernel
theorem dX10_remember_96 : decode cX10_remember 96 = .ok (.invokevirtual 118, 3) := by decide +kernel
theorem dX10_remember_99 : decode cX10_remember 99 = .ok (.aload_n 0, 1) := by decide +kernel
theorem dX10_remember_100 : decode cX10_remember 100 = .ok (.aload_n 0, 1) := by decide +kernel
theorem dX10_remember_101 : decode cX10_remember 101 = .ok (.getfield 45, 3) := by decide +kernel
theorem dX10_remember_104 : decode cX10_remember 104 = .ok (.iconst 1, 1) := by decide +kernel
theorem dX10_remember_105 : decode cX10_remember 105 = .ok (.iadd, 1) := by decide +kernel
theorem dX10_remember_106 : decode cX10_remember 106 = .ok (.iconst 2, 1) := by decide +kernel
theorem dX10_remember_107 : decode cX10_remember 107 = .ok (.invokestatic 122, 3) := by decide +kernel
theorem dX10_remember_110 : decode cX10_remember 110 = .ok (.putfield 45, 3) := by decide +kernel
theorem dX10_remember_113 : decode cX10_remember 113 = .ok (.return_, 1) := by decide +kernel
theorem dX10_telling_0 : decode cX10_telling 0 = .ok (.aload_n 0, 1) := by decide +kernel
theorem dX10_telling_1 : decode cX10_telling 1 = .ok (.invokevirtual 128, 3) := by decide +kernel
theorem dX10_telling_4 : decode cX10_telling 4 = .ok (.ifCond .eq 32, 3) := by decide +kernel
theorem dX10_telling_7 : decode cX10_telling 7 = .ok (.iload_n 1, 1) := by decide +kernel
theorem dX10_telling_8 : decode cX10_telling 8 = .ok (.ifCond .lt 28, 3) := by decide +kernel
theorem dX10_telling_11 : decode cX10_telling 11 = .ok (.iload_n 1, 1) := by decide +kernel
theorem dX10_telling_12 : decode cX10_telling 12 = .ok (.aload_n 0, 1) := by decide +kernel
theorem dX10_telling_13 : decode cX10_telling 13 = .ok (.getfield 55, 3) := by decide +kernel
theorem dX10_telling_16 : decode cX10_telling 16 = .ok (.if_icmp .ge 20, 3) := by decide +kernel
theorem dX10_telling_19 : decode cX10_telling 19 = .ok (.aload_n 0, 1) := by decide +kernel
theorem dX10_telling_20 : decode cX10_telling 20 = .ok (.getfield 35, 3) := by decide +kernel
theorem dX10_telling_23 : decode cX10_telling 23 = .ok (.sipush 800, 3) := by decide +kernel
theorem dX10_telling_26 : decode cX10_telling 26 = .ok (.iload_n 1, 1) := by decide +kernel
theorem dX10_telling_27 : decode cX10_telling 27 = .ok (.iconst 4, 1) := by decide +kernel
theorem dX10_telling_28 : decode cX10_telling 28 = .ok (.imul, 1) := by decide +kernel
theorem dX10_telling_29 : decode cX10_telling 29 = .ok (.iadd, 1) := by decide +kernel
theorem dX10_telling_30 : decode cX10_telling 30 = .ok (.invokevirtual 132, 3) := by decide +kernel
theorem dX10_telling_33 : decode cX10_telling 33 = .ok (.goto 4, 3) := by decide +kernel
theorem dX10_telling_36 : decode cX10_telling 36 = .ok (.iconst 0, 1) := by decide +kernel
theorem dX10_telling_37 : decode cX10_telling 37 = .ok (.ireturn, 1) := by decide +kernel
theorem dX10_wordLeft_0 : decode cX10_wordLeft 0 = .ok (.aload_n 0, 1) := by decide +kernel
theorem dX10_wordLeft_1 : decode cX10_wordLeft 1 = .ok (.invokevirtual 128, 3) := by decide +kernel
theorem dX10_wordLeft_4 : decode cX10_wordLeft 4 = .ok (.ifCond .eq 33, 3) := by decide +kernel
theorem dX10_wordLeft_7 : decode cX10_wordLeft 7 = .ok (.iload_n 1, 1) := by decide +kernel
theorem dX10_wordLeft_8 : decode cX10_wordLeft 8 = .ok (.ifCond .lt 29, 3) := by decide +kernel
theorem dX10_wordLeft_11 : decode cX10_wordLeft 11 = .ok (.iload_n 1, 1) := by decide +kernel
theorem dX10_wordLeft_12 : decode cX10_wordLeft 12 = .ok (.aload_n 0, 1) := by decide +kernel
theorem dX10_wordLeft_13 : decode cX10_wordLeft 13 = .ok (.getfield 31, 3) := by decide +kernel
theorem dX10_wordLeft_16 : decode cX10_wordLeft 16 = .ok (.invokevirtual 135, 3) := by decide +kernel
theorem dX10_wordLeft_19 : decode cX10_wordLeft 19 = .ok (.if_icmp .ge 18, 3) := by decide +kernel
theorem dX10_wordLeft_22 : decode cX10_wordLeft 22 = .ok (.aload_n 0, 1) := by decide +kernel
theorem dX10_wordLeft_23 : decode cX10_wordLeft 23 = .ok (.getfield 35, 3) := by decide +kernel
theorem dX10_wordLeft_26 : decode cX10_wordLeft 26 = .ok (.iconst 0, 1) := by decide +kernel
theorem dX10_wordLeft_27 : decode cX10_wordLeft 27 = .ok (.iload_n 1, 1) := by decide +kernel
theorem dX10_wordLeft_28 : decode cX10_wordLeft 28 = .ok (.iconst 4, 1) := by decide +kernel
theorem dX10_wordLeft_29 : decode cX10_wordLeft 29 = .ok (.imul, 1) := by decide +kernel
theorem dX10_wordLeft_30 : decode cX10_wordLeft 30 = .ok (.iadd, 1) := by decide +kernel
theorem dX10_wordLeft_31 : decode cX10_wordLeft 31 = .ok (.invokevirtual 132, 3) := by decide +kernel
theorem dX10_wordLeft_34 : decode cX10_wordLeft 34 = .ok (.goto 4, 3) := by decide +kernel
theorem dX10_wordLeft_37 : decode cX10_wordLeft 37 = .ok (.iconst 0, 1) := by decide +kernel
theorem dX10_wordLeft_38 : decode cX10_wordLeft 38 = .ok (.ireturn, 1) := by decide +kernel
theorem dX10_lastTwoAlike_0 : decode cX10_lastTwoAlike 0 = .ok (.aload_n 0, 1) := by decide +kernel
theorem dX10_lastTwoAlike_1 : decode cX10_lastTwoAlike 1 = .ok (.getfield 45, 3) := by decide +kernel
theorem dX10_lastTwoAlike_4 : decode cX10_lastTwoAlike 4 = .ok (.iconst 2, 1) := by decide +kernel
theorem dX10_lastTwoAlike_5 : decode cX10_lastTwoAlike 5 = .ok (.if_icmp .lt 31, 3) := by decide +kernel
theorem dX10_lastTwoAlike_8 : decode cX10_lastTwoAlike 8 = .ok (.aload_n 0, 1) := by decide +kernel
theorem dX10_lastTwoAlike_9 : decode cX10_lastTwoAlike 9 = .ok (.getfield 20, 3) := by decide +kernel
theorem dX10_lastTwoAlike_12 : decode cX10_lastTwoAlike 12 = .ok (.aload_n 0, 1) := by decide +kernel
theorem dX10_lastTwoAlike_13 : decode cX10_lastTwoAlike 13 = .ok (.getfield 24, 3) := by decide +kernel
theorem dX10_lastTwoAlike_16 : decode cX10_lastTwoAlike 16 = .ok (.invokevirtual 138, 3) := by decide +kernel
theorem dX10_lastTwoAlike_19 : decode cX10_lastTwoAlike 19 = .ok (.ifCond .eq 17, 3) := by decide +kernel
theorem dX10_lastTwoAlike_22 : decode cX10_lastTwoAlike 22 = .ok (.aload_n 0, 1) := by decide +kernel
theorem dX10_lastTwoAlike_23 : decode cX10_lastTwoAlike 23 = .ok (.getfield 20, 3) := by decide +kernel
theorem dX10_lastTwoAlike_26 : decode cX10_lastTwoAlike 26 = .ok (.aload_n 0, 1) := by decide +kernel
theorem dX10_lastTwoAlike_27 : decode cX10_lastTwoAlike 27 = .ok (.getfield 24, 3) := by decide +kernel
theorem dX10_lastTwoAlike_30 : decode cX10_lastTwoAlike 30 = .ok (.invokevirtual 142, 3) := by decide +kernel
theorem dX10_lastTwoAlike_33 : decode cX10_lastTwoAlike 33 = .ok (.ifCond .eq 7, 3) := by decide +kernel
theorem dX10_lastTwoAlike_36 : decode cX10_lastTwoAlike 36 = .ok (.iconst 1, 1) := by decide +kernel
theorem dX10_lastTwoAlike_37 : decode cX10_lastTwoAlike 37 = .ok (.goto 4, 3) := by decide +kernel
theorem dX10_lastTwoAlike_40 : decode cX10_lastTwoAlike 40 = .ok (.iconst 0, 1) := by decide +kernel
theorem dX10_lastTwoAlike_41 : decode cX10_lastTwoAlike 41 = .ok (.ireturn, 1) := by decide +kernel
abbrev MX10_clear : aw_M := (yX10_clear, cX10_clear, 1, none)
theorem codX10_clear : Cond.code yX10_clear cX10_clear 1 none ∈ aw_T := aw_in 514 (by decide +kernel) rfl
theorem iniX10 : Cond.initialized RX10 ∈ aw_T := aw_in 122 (by decide +kernel) rfl
theorem insX10_clear : Cond.instanceMethod yX10_clear ∈ aw_T := aw_in 512 (by decide +kernel) rfl
theorem selX10_clear : Cond.selects RX10 yX10_clear yX10_clear ∈ aw_T := aw_in 513 (by decide +kernel) rfl
abbrev MX10_endPlace : aw_M := (yX10_endPlace, cX10_endPlace, 1, (some .int))
theorem codX10_endPlace : Cond.code yX10_endPlace cX10_endPlace 1 (some .int) ∈ aw_T := aw_in 1334 (by decide +kernel) rfl
theorem insX10_endPlace : Cond.instanceMethod yX10_endPlace ∈ aw_T := aw_in 1332 (by decide +kernel) rfl
theorem selX10_endPlace : Cond.selects RX10 yX10_endPlace yX10_endPlace ∈ aw_T := aw_in 1333 (by decide +kernel) rfl
abbrev MX10_give : aw_M := (yX10_give, cX10_give, 3, (some .boolean))
theorem codX10_give : Cond.code yX10_give cX10_give 3 (some .boolean) ∈ aw_T := aw_in 1162 (by decide +kernel) rfl
theorem insX10_give : Cond.instanceMethod yX10_give ∈ aw_T := aw_in 1160 (by decide +kernel) rfl
theorem selX10_give : Cond.selects RX10 yX10_give yX10_give ∈ aw_T := aw_in 1161 (by decide +kernel) rfl
abbrev MX10_hasRun : aw_M := (yX10_hasRun, cX10_hasRun, 1, (some .boolean))
theorem codX10_hasRun : Cond.code yX10_hasRun cX10_hasRun 1 (some .boolean) ∈ aw_T := aw_in 1330 (by decide +kernel) rfl
theorem insX10_hasRun : Cond.instanceMethod yX10_hasRun ∈ aw_T := aw_in 1328 (by decide +kernel) rfl
theorem selX10_hasRun : Cond.selects RX10 yX10_hasRun yX10_hasRun ∈ aw_T := aw_in 1329 (by decide +kernel) rfl
abbrev MX10_lastTwoAlike : aw_M := (yX10_lastTwoAlike, cX10_lastTwoAlike, 1, (some .boolean))
theorem codX10_lastTwoAlike : Cond.code yX10_lastTwoAlike cX10_lastTwoAlike 1 (some .boolean) ∈ aw_T := aw_in 1372 (by decide +kernel) rfl
theorem insX10_lastTwoAlike : Cond.instanceMethod yX10_lastTwoAlike ∈ aw_T := aw_in 1370 (by decide +kernel) rfl
theorem selX10_lastTwoAlike : Cond.selects RX10 yX10_lastTwoAlike yX10_lastTwoAlike ∈ aw_T := aw_in 1371 (by decide +kernel) rfl
abbrev MX10_perform : aw_M := (yX10_perform, cX10_perform, 3, (some .int))
theorem codX10_perform : Cond.code yX10_perform cX10_perform 3 (some .int) ∈ aw_T := aw_in 1174 (by decide +kernel) rfl
theorem insX10_perform : Cond.instanceMethod yX10_perform ∈ aw_T := aw_in 1172 (by decide +kernel) rfl
theorem selX10_perform : Cond.selects RX10 yX10_perform yX10_perform ∈ aw_T := aw_in 1173 (by decide +kernel) rfl
abbrev MX10_remember : aw_M := (yX10_remember, cX10_remember, 4, none)
theorem codX10_remember : Cond.code yX10_remember cX10_remember 4 none ∈ aw_T := aw_in 1297 (by decide +kernel) rfl
theorem insX10_remember : Cond.instanceMethod yX10_remember ∈ aw_T := aw_in 1296 (by decide +kernel) rfl
theorem selX10_remember : Cond.selects RX10 yX10_remember yX10_remember ∈ aw_T := aw_in 74 (by decide +kernel) rfl
abbrev MX10_stepsDone : aw_M := (yX10_stepsDone, cX10_stepsDone, 1, (some .int))
theorem codX10_stepsDone : Cond.code yX10_stepsDone cX10_stepsDone 1 (some .int) ∈ aw_T := aw_in 1338 (by decide +kernel) rfl
theorem insX10_stepsDone : Cond.instanceMethod yX10_stepsDone ∈ aw_T := aw_in 1336 (by decide +kernel) rfl
theorem selX10_stepsDone : Cond.selects RX10 yX10_stepsDone yX10_stepsDone ∈ aw_T := aw_in 1337 (by decide +kernel) rfl
abbrev MX10_telling : aw_M := (yX10_telling, cX10_telling, 2, (some .int))
theorem codX10_telling : Cond.code yX10_telling cX10_telling 2 (some .int) ∈ aw_T := aw_in 1350 (by decide +kernel) rfl
theorem insX10_telling : Cond.instanceMethod yX10_telling ∈ aw_T := aw_in 1348 (by decide +kernel) rfl
theorem selX10_telling : Cond.selects RX10 yX10_telling yX10_telling ∈ aw_T := aw_in 1349 (by decide +kernel) rfl
abbrev MX10_tellings : aw_M := (yX10_tellings, cX10_tellings, 1, (some .int))
theorem codX10_tellings : Cond.code yX10_tellings cX10_tellings 1 (some .int) ∈ aw_T := aw_in 1342 (by decide +kernel) rfl
theorem insX10_tellings : Cond.instanceMethod yX10_tellings ∈ aw_T := aw_in 1340 (by decide +kernel) rfl
theorem selX10_tellings : Cond.selects RX10 yX10_tellings yX10_tellings ∈ aw_T := aw_in 1341 (by decide +kernel) rfl
abbrev MX10_wordLeft : aw_M := (yX10_wordLeft, cX10_wordLeft, 2, (some .int))
theorem codX10_wordLeft : Cond.code yX10_wordLeft cX10_wordLeft 2 (some .int) ∈ aw_T := aw_in 1363 (by decide +kernel) rfl
theorem insX10_wordLeft : Cond.instanceMethod yX10_wordLeft ∈ aw_T := aw_in 1361 (by decide +kernel) rfl
theorem selX10_wordLeft : Cond.selects RX10 yX10_wordLeft yX10_wordLeft ∈ aw_T := aw_in 1362 (by decide +kernel) rfl
theorem hX10_w : ∀ w ∈ u_ws RX10 TX10 10, w ∈ aw_T := by
  show ∀ w ∈ [u_lay RX10 TX10 0, u_lay RX10 TX10 1, u_lay RX10 TX10 2, u_lay RX10 TX10 3, u_lay RX10 TX10 4, u_lay RX10 TX10 5, u_lay RX10 TX10 6, u_lay RX10 TX10 7, u_lay RX10 TX10 8, u_lay RX10 TX10 9], w ∈ aw_T
  exact List.forall_mem_cons.mpr ⟨aw_in 415 (by decide +kernel) rfl, List.forall_mem_cons.mpr ⟨aw_in 417 (by decide +kernel) rfl, List.forall_mem_cons.mpr ⟨aw_in 419 (by decide +kernel) rfl, List.forall_mem_cons.mpr ⟨aw_in 421 (by decide +kernel) rfl, List.forall_mem_cons.mpr ⟨aw_in 423 (by decide +kernel) rfl, List.forall_mem_cons.mpr ⟨aw_in 425 (by decide +kernel) rfl, List.forall_mem_cons.mpr ⟨aw_in 427 (by decide +kernel) rfl, List.forall_mem_cons.mpr ⟨aw_in 429 (by decide +kernel) rfl, List.forall_mem_cons.mpr ⟨aw_in 431 (by decide +kernel) rfl, List.forall_mem_cons.mpr ⟨aw_in 433 (by decide +kernel) rfl, fun _ h => absurd h List.not_mem_nil⟩⟩⟩⟩⟩⟩⟩⟩⟩⟩
theorem hX10 : aw_C 10 RX10 TX10 10 tyX10 := ⟨rfl, hX10_w, tyX10_ok, nmX10⟩
theorem fX10_11 : aw_F RX10 11 10 3 (.array .int) true := aw_F.of hX10 3 (by decide) (aw_in 408 (by decide +kernel) rfl) rfl rfl rfl
theorem fX10_20 : aw_F RX10 20 10 4 (.object "QuietDesk$Past") false := aw_F.of hX10 4 (by decide) (aw_in 409 (by decide +kernel) rfl) rfl rfl rfl
theorem fX10_24 : aw_F RX10 24 10 5 (.object "QuietDesk$Past") false := aw_F.of hX10 5 (by decide) (aw_in 410 (by decide +kernel) rfl) rfl rfl rfl
theorem fX10_27 : aw_F RX10 27 10 0 (.object "QuietDesk$Nodes") true := aw_F.of hX10 0 (by decide) (aw_in 405 (by decide +kernel) rfl) rfl rfl rfl
theorem fX10_31 : aw_F RX10 31 10 1 (.object "QuietDesk$Names") true := aw_F.of hX10 1 (by decide) (aw_in 406 (by decide +kernel) rfl) rfl rfl rfl
theorem fX10_35 : aw_F RX10 35 10 2 (.object "QuietDesk$Machine") true := aw_F.of hX10 2 (by decide) (aw_in 407 (by decide +kernel) rfl) rfl rfl rfl
theorem fX10_45 : aw_F RX10 45 10 6 .int false := aw_F.of hX10 6 (by decide) (aw_in 411 (by decide +kernel) rfl) rfl rfl rfl
theorem fX10_49 : aw_F RX10 49 10 7 .int false := aw_F.of hX10 7 (by decide) (aw_in 412 (by decide +kernel) rfl) rfl rfl rfl
theorem fX10_52 : aw_F RX10 52 10 8 .int false := aw_F.of hX10 8 (by decide) (aw_in 413 (by decide +kernel) rfl) rfl rfl rfl
theorem fX10_55 : aw_F RX10 55 10 9 .int false := aw_F.of hX10 9 (by decide) (aw_in 414 (by decide +kernel) rfl) rfl rfl rfl
theorem qX10_122 : Cond.methodLink RX10 122 Lib.Math.min.name ∈ aw_T := aw_in 1322 (by decide +kernel) rfl
theorem oX10_87 : Cond.constant RX10 87 (100000000 : Int32) ∈ aw_T := aw_in 1191 (by decide +kernel) rfl
theorem lX10_102 : aw_L RX10 102 MX6_begin 1 := ⟨aw_in 1298 (by decide +kernel) rfl, iniX6, codX6_begin, ⟨by decide, by decide, by decide +kernel⟩, by decide⟩
theorem lX10_105 : aw_L RX10 105 MX3_inputSecret 1 := ⟨aw_in 1302 (by decide +kernel) rfl, iniX3, codX3_inputSecret, ⟨by decide, by decide, by decide +kernel⟩, by decide⟩
theorem lX10_108 : aw_L RX10 108 MX6_addPublic 1 := ⟨aw_in 1306 (by decide +kernel) rfl, iniX6, codX6_addPublic, ⟨by decide, by decide, by decide +kernel⟩, by decide⟩
theorem lX10_111 : aw_L RX10 111 MX2_events 0 := ⟨aw_in 1310 (by decide +kernel) rfl, iniX2, codX2_events, ⟨by decide, by decide, by decide +kernel⟩, by decide⟩
theorem lX10_115 : aw_L RX10 115 MX2_cycles 0 := ⟨aw_in 1314 (by decide +kernel) rfl, iniX2, codX2_cycles, ⟨by decide, by decide, by decide +kernel⟩, by decide⟩
theorem lX10_118 : aw_L RX10 118 MX6_finish 2 := ⟨aw_in 1318 (by decide +kernel) rfl, iniX6, codX6_finish, ⟨by decide, by decide, by decide +kernel⟩, by decide⟩
theorem lX10_128 : aw_L RX10 128 MX10_hasRun 0 := ⟨aw_in 1351 (by decide +kernel) rfl, iniX10, codX10_hasRun, ⟨by decide, by decide, by decide +kernel⟩, by decide⟩
theorem lX10_132 : aw_L RX10 132 MX2_fetch 1 := ⟨aw_in 1352 (by decide +kernel) rfl, iniX2, codX2_fetch, ⟨by decide, by decide, by decide +kernel⟩, by decide⟩
theorem lX10_135 : aw_L RX10 135 MX3_words 0 := ⟨aw_in 1364 (by decide +kernel) rfl, iniX3, codX3_words, ⟨by decide, by decide, by decide +kernel⟩, by decide⟩
theorem lX10_138 : aw_L RX10 138 MX6_sameFrom 1 := ⟨aw_in 1373 (by decide +kernel) rfl, iniX6, codX6_sameFrom, ⟨by decide, by decide, by decide +kernel⟩, by decide⟩
theorem lX10_142 : aw_L RX10 142 MX6_sameSeen 1 := ⟨aw_in 1377 (by decide +kernel) rfl, iniX6, codX6_sameSeen, ⟨by decide, by decide, by decide +kernel⟩, by decide⟩
theorem lX10_39 : aw_L RX10 39 MJ7_fill_53178 2 := ⟨aw_in 515 (by decide +kernel) rfl, iniJ7, codJ7_fill_53178, ⟨by decide, by decide, by decide +kernel⟩, by decide⟩
theorem lX10_58 : aw_L RX10 58 MX3_hasInput 1 := ⟨aw_in 1163 (by decide +kernel) rfl, iniX3, codX3_hasInput, ⟨by decide, by decide, by decide +kernel⟩, by decide⟩
theorem lX10_64 : aw_L RX10 64 MX2_wipe 1 := ⟨aw_in 1175 (by decide +kernel) rfl, iniX2, codX2_wipe, ⟨by decide, by decide, by decide +kernel⟩, by decide⟩
theorem lX10_70 : aw_L RX10 70 MX3_inputs 0 := ⟨aw_in 1176 (by decide +kernel) rfl, iniX3, codX3_inputs, ⟨by decide, by decide, by decide +kernel⟩, by decide⟩
theorem lX10_74 : aw_L RX10 74 MX3_inputWord 1 := ⟨aw_in 1177 (by decide +kernel) rfl, iniX3, codX3_inputWord, ⟨by decide, by decide, by decide +kernel⟩, by decide⟩
theorem lX10_78 : aw_L RX10 78 MX2_store 2 := ⟨aw_in 1182 (by decide +kernel) rfl, iniX2, codX2_store, ⟨by decide, by decide, by decide +kernel⟩, by decide⟩
theorem lX10_82 : aw_L RX10 82 MX2_fill 2 := ⟨aw_in 1183 (by decide +kernel) rfl, iniX2, codX2_fill, ⟨by decide, by decide, by decide +kernel⟩, by decide⟩
theorem lX10_84 : aw_L RX10 84 MX2_beginAt 1 := ⟨aw_in 1187 (by decide +kernel) rfl, iniX2, codX2_beginAt, ⟨by decide, by decide, by decide +kernel⟩, by decide⟩
theorem lX10_88 : aw_L RX10 88 MX2_work 1 := ⟨aw_in 1192 (by decide +kernel) rfl, iniX2, codX2_work, ⟨by decide, by decide, by decide +kernel⟩, by decide⟩
theorem lX10_91 : aw_L RX10 91 MX2_register 1 := ⟨aw_in 1285 (by decide +kernel) rfl, iniX2, codX2_register, ⟨by decide, by decide, by decide +kernel⟩, by decide⟩
theorem lX10_94 : aw_L RX10 94 MX4_placeOfBack 1 := ⟨aw_in 1289 (by decide +kernel) rfl, iniX4, codX4_placeOfBack, ⟨by decide, by decide, by decide +kernel⟩, by decide⟩
theorem lX10_99 : aw_L RX10 99 MX10_remember 1 := ⟨aw_in 1294 (by decide +kernel) rfl, iniX10, codX10_remember, ⟨by decide, by decide, by decide +kernel⟩, by decide⟩
