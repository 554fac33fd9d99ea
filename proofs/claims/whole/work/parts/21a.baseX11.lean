theorem dX11_feed_0 : decode cX11_feed 0 = .ok (.aload_n 0, 1) := by decide +kernel
theorem dX11_feed_1 : decode cX11_feed 1 = .ok (.getfield 10, 3) := by decide +kernel
theorem dX11_feed_4 : decode cX11_feed 4 = .ok (.invokevirtual 91, 3) := by decide +kernel
theorem dX11_feed_7 : decode cX11_feed 7 = .ok (.ifCond .ne 5, 3) := by decide +kernel
theorem dX11_feed_10 : decode cX11_feed 10 = .ok (.iconst (-1), 1) := by decide +kernel
theorem dX11_feed_11 : decode cX11_feed 11 = .ok (.ireturn, 1) := by decide +kernel
theorem dX11_feed_12 : decode cX11_feed 12 = .ok (.aload_n 0, 1) := by decide +kernel
theorem dX11_feed_13 : decode cX11_feed 13 = .ok (.getfield 10, 3) := by decide +kernel
theorem dX11_feed_16 : decode cX11_feed 16 = .ok (.iload_n 1, 1) := by decide +kernel
theorem dX11_feed_17 : decode cX11_feed 17 = .ok (.invokevirtual 95, 3) := by decide +kernel
theorem dX11_feed_20 : decode cX11_feed 20 = .ok (.aload_n 0, 1) := by decide +kernel
theorem dX11_feed_21 : decode cX11_feed 21 = .ok (.getfield 10, 3) := by decide +kernel
theorem dX11_feed_24 : decode cX11_feed 24 = .ok (.iload_n 2, 1) := by decide +kernel
theorem dX11_feed_25 : decode cX11_feed 25 = .ok (.invokevirtual 95, 3) := by decide +kernel
theorem dX11_feed_28 : decode cX11_feed 28 = .ok (.aload_n 0, 1) := by decide +kernel
theorem dX11_feed_29 : decode cX11_feed 29 = .ok (.getfield 10, 3) := by decide +kernel
theorem dX11_feed_32 : decode cX11_feed 32 = .ok (.iload_n 3, 1) := by decide +kernel
theorem dX11_feed_33 : decode cX11_feed 33 = .ok (.invokevirtual 95, 3) := by decide +kernel
theorem dX11_feed_36 : decode cX11_feed 36 = .ok (.aload_n 0, 1) := by decide +kernel
theorem dX11_feed_37 : decode cX11_feed 37 = .ok (.getfield 10, 3) := by decide +kernel
theorem dX11_feed_40 : decode cX11_feed 40 = .ok (.iload 4, 2) := by decide +kernel
theorem dX11_feed_42 : decode cX11_feed 42 = .ok (.invokevirtual 95, 3) := by decide +kernel
theorem dX11_feed_45 : decode cX11_feed 45 = .ok (.aload_n 0, 1) := by decide +kernel
theorem dX11_feed_46 : decode cX11_feed 46 = .ok (.getfield 10, 3) := by decide +kernel
theorem dX11_feed_49 : decode cX11_feed 49 = .ok (.iload 5, 2) := by decide +kernel
theorem dX11_feed_51 : decode cX11_feed 51 = .ok (.invokevirtual 95, 3) := by decide +kernel
theorem dX11_feed_54 : decode cX11_feed 54 = .ok (.aload_n 0, 1) := by decide +kernel
theorem dX11_feed_55 : decode cX11_feed 55 = .ok (.getfield 10, 3) := by decide +kernel
theorem dX11_feed_58 : decode cX11_feed 58 = .ok (.invokevirtual 99, 3) := by decide +kernel
theorem dX11_feed_61 : decode cX11_feed 61 = .ok (.ireturn, 1) := by decide +kernel
theorem dX11_load_0 : decode cX11_load 0 = .ok (.iload_n 1, 1) := by decide +kernel
theorem dX11_load_1 : decode cX11_load 1 = .ok (.ifCond .lt 14, 3) := by decide +kernel
theorem dX11_load_4 : decode cX11_load 4 = .ok (.iload_n 1, 1) := by decide +kernel
theorem dX11_load_5 : decode cX11_load 5 = .ok (.aload_n 0, 1) := by decide +kernel
theorem dX11_load_6 : decode cX11_load 6 = .ok (.getfield 10, 3) := by decide +kernel
theorem dX11_load_9 : decode cX11_load 9 = .ok (.invokevirtual 99, 3) := by decide +kernel
theorem dX11_load_12 : decode cX11_load 12 = .ok (.if_icmp .le 5, 3) := by decide +kernel
theorem dX11_load_15 : decode cX11_load 15 = .ok (.iconst (-1), 1) := by decide +kernel
theorem dX11_load_16 : decode cX11_load 16 = .ok (.ireturn, 1) := by decide +kernel
theorem dX11_load_17 : decode cX11_load 17 = .ok (.aload_n 0, 1) := by decide +kernel
theorem dX11_load_18 : decode cX11_load 18 = .ok (.getfield 10, 3) := by decide +kernel
theorem dX11_load_21 : decode cX11_load 21 = .ok (.iload_n 1, 1) := by decide +kernel
theorem dX11_load_22 : decode cX11_load 22 = .ok (.invokevirtual 103, 3) := by decide +kernel
theorem dX11_load_25 : decode cX11_load 25 = .ok (.aload_n 0, 1) := by decide +kernel
theorem dX11_load_26 : decode cX11_load 26 = .ok (.getfield 35, 3) := by decide +kernel
theorem dX11_load_29 : decode cX11_load 29 = .ok (.iload_n 1, 1) := by decide +kernel
theorem dX11_load_30 : decode cX11_load 30 = .ok (.invokevirtual 106, 3) := by decide +kernel
theorem dX11_load_33 : decode cX11_load 33 = .ok (.aload_n 0, 1) := by decide +kernel
theorem dX11_load_34 : decode cX11_load 34 = .ok (.getfield 42, 3) := by decide +kernel
theorem dX11_load_37 : decode cX11_load 37 = .ok (.invokevirtual 109, 3) := by decide +kernel
theorem dX11_load_40 : decode cX11_load 40 = .ok (.aload_n 0, 1) := by decide +kernel
theorem dX11_load_41 : decode cX11_load 41 = .ok (.getfield 76, 3) := by decide +kernel
theorem dX11_load_44 : decode cX11_load 44 = .ok (.invokevirtual 111, 3) := by decide +kernel
theorem dX11_load_47 : decode cX11_load 47 = .ok (.aload_n 0, 1) := by decide +kernel
theorem dX11_load_48 : decode cX11_load 48 = .ok (.getfield 21, 3) := by decide +kernel
theorem dX11_load_51 : decode cX11_load 51 = .ok (.iload_n 1, 1) := by decide +kernel
theorem dX11_load_52 : decode cX11_load 52 = .ok (.invokevirtual 112, 3) := by decide +kernel
theorem dX11_load_55 : decode cX11_load 55 = .ok (.aload_n 0, 1) := by decide +kernel
theorem dX11_load_56 : decode cX11_load 56 = .ok (.getfield 51, 3) := by decide +kernel
theorem dX11_load_59 : decode cX11_load 59 = .ok (.invokevirtual 115, 3) := by decide +kernel
theorem dX11_load_62 : decode cX11_load 62 = .ok (.istore_n 2, 1) := by decide +kernel
theorem dX11_load_63 : decode cX11_load 63 = .ok (.iload_n 2, 1) := by decide +kernel
theorem dX11_load_64 : decode cX11_load 64 = .ok (.iconst (-1), 1) := by decide +kernel
theorem dX11_load_65 : decode cX11_load 65 = .ok (.if_icmp .ne 13, 3) := by decide +kernel
theorem dX11_load_68 : decode cX11_load 68 = .ok (.aload_n 0, 1) := by decide +kernel
theorem dX11_load_69 : decode cX11_load 69 = .ok (.getfield 60, 3) := by decide +kernel
theorem dX11_load_72 : decode cX11_load 72 = .ok (.invokevirtual 117, 3) := by decide +kernel
theorem dX11_load_75 : decode cX11_load 75 = .ok (.goto 4, 3) := by decide +kernel
theorem dX11_load_78 : decode cX11_load 78 = .ok (.iconst 0, 1) := by decide +kernel
theorem dX11_load_79 : decode cX11_load 79 = .ok (.istore_n 3, 1) := by decide +kernel
theorem dX11_load_80 : decode cX11_load 80 = .ok (.aload_n 0, 1) := by decide +kernel
theorem dX11_load_81 : decode cX11_load 81 = .ok (.getfield 10, 3) := by decide +kernel
theorem dX11_load_84 : decode cX11_load 84 = .ok (.invokevirtual 120, 3) := by decide +kernel
theorem dX11_load_87 : decode cX11_load 87 = .ok (.aload_n 0, 1) := by decide +kernel
theorem dX11_load_88 : decode cX11_load 88 = .ok (.iload_n 2, 1) := by decide +kernel
theorem dX11_load_89 : decode cX11_load 89 = .ok (.iconst (-1), 1) := by decide +kernel
theorem dX11_load_90 : decode cX11_load 90 = .ok (.if_icmp .ne 11, 3) := by decide +kernel
theorem dX11_load_93 : decode cX11_load 93 = .ok (.iload_n 3, 1) := by decide +kernel
theorem dX11_load_94 : decode cX11_load 94 = .ok (.ifCond .ne 7, 3) := by decide +kernel
theorem dX11_load_97 : decode cX11_load 97 = .ok (.iconst 1, 1) := by decide +kernel
theorem dX11_load_98 : decode cX11_load 98 = .ok (.goto 4, 3) := by decide +kernel
theorem dX11_load_101 : decode cX11_load 101 = .ok (.iconst 0, 1) := by decide +kernel
theorem dX11_load_102 : decode cX11_load 102 = .ok (.putfield 80, 3) := by decide +kernel
theorem dX11_load_105 : decode cX11_load 105 = .ok (.aload_n 0, 1) := by decide +kernel
theorem dX11_load_106 : decode cX11_load 106 = .ok (.iload_n 2, 1) := by decide +kernel
theorem dX11_load_107 : decode cX11_load 107 = .ok (.iconst (-1), 1) := by decide +kernel
theorem dX11_load_108 : decode cX11_load 108 = .ok (.if_icmp .ne 13, 3) := by decide +kernel
theorem dX11_load_111 : decode cX11_load 111 = .ok (.aload_n 0, 1) := by decide +kernel
theorem dX11_load_112 : decode cX11_load 112 = .ok (.getfield 60, 3) := by decide +kernel
theorem dX11_load_115 : decode cX11_load 115 = .ok (.invokevirtual 123, 3) := by decide +kernel
theorem dX11_load_118 : decode cX11_load 118 = .ok (.goto 4, 3) := by decide +kernel
theorem dX11_load_121 : decode cX11_load 121 = .ok (.iload_n 2, 1) := by decide +kernel
theorem dX11_load_122 : decode cX11_load 122 = .ok (.putfield 84, 3) := by decide +kernel
theorem dX11_load_125 : decode cX11_load 125 = .ok (.aload_n 0, 1) := by decide +kernel
theorem dX11_load_126 : decode cX11_load 126 = .ok (.aload_n 0, 1) := by decide +kernel
theorem dX11_load_127 : decode cX11_load 127 = .ok (.getfield 80, 3) := by decide +kernel
theorem dX11_load_130 : decode cX11_load 130 = .ok (.ifCond .eq 7, 3) := by decide +kernel
theorem dX11_load_133 : decode cX11_load 133 = .ok (.iconst (-1), 1) := by decide +kernel
theorem dX11_load_134 : decode cX11_load 134 = .ok (.goto 4, 3) := by decide +kernel
theorem dX11_load_137 : decode cX11_load 137 = .ok (.iload_n 3, 1) := by decide +kernel
theorem dX11_load_138 : decode cX11_load 138 = .ok (.putfield 88, 3) := by decide +kernel
theorem dX11_load_141 : decode cX11_load 141 = .ok (.aload_n 0, 1) := by decide +kernel
theorem dX11_load_142 : decode cX11_load 142 = .ok (.getfield 80, 3) := by decide +kernel
theorem dX11_load_145 : decode cX11_load 145 = .ok (.ifCond .eq 12, 3) := by decide +kernel
theorem dX11_load_148 : decode cX11_load 148 = .ok (.aload_n 0, 1) := by decide +kernel
theorem dX11_load_149 : decode cX11_load 149 = .ok (.getfield 69, 3) := by decide +kernel
theorem dX11_load_152 : decode cX11_load 152 = .ok (.invokevirtual 126, 3) := by decide +kernel
theorem dX11_load_155 : decode cX11_load 155 = .ok (.iconst 0, 1) := by decide +kernel
theorem dX11_load_156 : decode cX11_load 156 = .ok (.ireturn, 1) := by decide +kernel
theorem dX11_load_157 : decode cX11_load 157 = .ok (.iload_n 2, 1) := by decide +kernel
theorem dX11_load_158 : decode cX11_load 158 = .ok (.iconst (-1), 1) := by decide +kernel
theorem dX11_load_159 : decode cX11_load 159 = .ok (.if_icmp .ne 8, 3) := by decide +kernel
theorem dX11_load_162 : decode cX11_load 162 = .ok (.bipush (-3), 2) := by decide +kernel
theorem dX11_load_164 : decode cX11_load 164 = .ok (.goto 5, 3) := by decide +kernel
theorem dX11_load_167 : decode cX11_load 167 = .ok (.bipush (-2), 2) := by decide +kernel
theorem dX11_load_169 : decode cX11_load 169 = .ok (.ireturn, 1) := by decide +kernel
theorem dX11_told_0 : decode cX11_told 0 = .ok (.iload_n 1, 1) := by decide +kernel
theorem dX11_told_1 : decode cX11_told 1 = .ok (.ifCond .ne 8, 3) := by decide +kernel
theorem dX11_told_4 : decode cX11_told 4 = .ok (.aload_n 0, 1) := by decide +kernel
theorem dX11_told_5 : decode cX11_told 5 = .ok (.getfield 84, 3) := by decide +kernel
theorem dX11_told_8 : decode cX11_told 8 = .ok (.ireturn, 1) := by decide +kernel
theorem dX11_told_9 : decode cX11_told 9 = .ok (.iload_n 1, 1) := by decide +kernel
theorem dX11_told_10 : decode cX11_told 10 = .ok (.iconst 1, 1) := by decide +kernel
theorem dX11_told_11 : decode cX11_told 11 = .ok (.if_icmp .ne 10, 3) := by decide +kernel
theorem dX11_told_14 : decode cX11_told 14 = .ok (.aload_n 0, 1) := by decide +kernel
theorem dX11_told_15 : decode cX11_told 15 = .ok (.getfield 88, 3) := by decide +kernel
theorem dX11_told_18 : decode cX11_told 18 = .ok (.goto 4, 3) := by decide +kernel
theorem dX11_told_21 : decode cX11_told 21 = .ok (.iconst (-1), 1) := by decide +kernel
theorem dX11_told_22 : decode cX11_told 22 = .ok (.ireturn, 1) := by decide +kernel
theorem dX11_count_0 : decode cX11_count 0 = .ok (.aload_n 0, 1) := by decide +kernel
theorem dX11_count_1 : decode cX11_count 1 = .ok (.getfield 80, 3) := by decide +kernel
theorem dX11_count_4 : decode cX11_count 4 = .ok (.ifCond .ne 5, 3) := by decide +kernel
theorem dX11_count_7 : decode cX11_count 7 = .ok (.iconst (-1), 1) := by decide +kernel
theorem dX11_count_8 : decode cX11_count 8 = .ok (.ireturn, 1) := by decide +kernel
theorem dX11_count_9 : decode cX11_count 9 = .ok (.iload_n 1, 1) := by decide +kernel
theorem dX11_count_10 : decode cX11_count 10 = .ok (.tableswitch 50 0 2 #[26, 34, 42], 26) := by decide +kernel
theorem dX11_count_36 : decode cX11_count 36 = .ok (.aload_n 0, 1) := by decide +kernel
theorem dX11_count_37 : decode cX11_count 37 = .ok (.getfield 42, 3) := by decide +kernel
theorem dX11_count_40 : decode cX11_count 40 = .ok (.invokevirtual 129, 3) := by decide +kernel
theorem dX11_count_43 : decode cX11_count 43 = .ok (.ireturn, 1) := by decide +kernel
theorem dX11_count_44 : decode cX11_count 44 = .ok (.aload_n 0, 1) := by decide +kernel
theorem dX11_count_45 : decode cX11_count 45 = .ok (.getfield 42, 3) := by decide +kernel
theorem dX11_count_48 : decode cX11_count 48 = .ok (.invokevirtual 132, 3) := by decide +kernel
theorem dX11_count_51 : decode cX11_count 51 = .ok (.ireturn, 1) := by decide +kernel
theorem dX11_count_52 : decode cX11_count 52 = .ok (.aload_n 0, 1) := by decide +kernel
theorem dX11_count_53 : decode cX11_count 53 = .ok (.getfield 42, 3) := by decide +kernel
theorem dX11_count_56 : decode cX11_count 56 = .ok (.invokevirtual 135, 3) := by decide +kernel
theorem dX11_count_59 : decode cX11_count 59 = .ok (.ireturn, 1) := by decide +kernel
theorem dX11_count_60 : decode cX11_count 60 = .ok (.iconst (-1), 1) := by decide +kernel
theorem dX11_count_61 : decode cX11_count 61 = .ok (.ireturn, 1) := by decide +kernel
theorem dX11_input_0 : decode cX11_input 0 = .ok (.aload_n 0, 1) := by decide +kernel
theorem dX11_input_1 : decode cX11_input 1 = .ok (.getfield 80, 3) := by decide +kernel
theorem dX11_input_4 : decode cX11_input 4 = .ok (.ifCond .eq 19, 3) := by decide +kernel
theorem dX11_input_7 : decode cX11_input 7 = .ok (.aload_n 0, 1) := by decide +kernel
theorem dX11_input_8 : decode cX11_input 8 = .ok (.getfield 76, 3) := by decide +kernel
theorem dX11_input_11 : decode cX11_input 11 = .ok (.iload_n 1, 1) := by decide +kernel
theorem dX11_input_12 : decode cX11_input 12 = .ok (.iload_n 2, 1) := by decide +kernel
theorem dX11_input_13 : decode cX11_input 13 = .ok (.invokevirtual 138, 3) := by decide +kernel
theorem dX11_input_16 : decode cX11_input 16 = .ok (.ifCond .eq 7, 3) := by decide +kernel
theorem dX11_input_19 : decode cX11_input 19 = .ok (.iconst 1, 1) := by decide +kernel
theorem dX11_input_20 : decode cX11_input 20 = .ok (.goto 4, 3) := by decide +kernel
theorem dX11_input_23 : decode cX11_input 23 = .ok (.iconst 0, 1) := by decide +kernel
theorem dX11_input_24 : decode cX11_input 24 = .ok (.ireturn, 1) := by decide +kernel
theorem dX11_run_0 : decode cX11_run 0 = .ok (.aload_n 0, 1) := by decide +kernel
theorem dX11_run_1 : decode cX11_run 1 = .ok (.getfield 80, 3) := by decide +kernel
theorem dX11_run_4 : decode cX11_run 4 = .ok (.ifCond .eq 14, 3) := by decide +kernel
theorem dX11_run_7 : decode cX11_run 7 = .ok (.iload_n 1, 1) := by decide +kernel
theorem dX11_run_8 : decode cX11_run 8 = .ok (.ifCond .lt 10, 3) := by decide +kernel
theorem dX11_run_11 : decode cX11_run 11 = .ok (.iload_n 1, 1) := by decide +kernel
theorem dX11_run_12 : decode cX11_run 12 = .ok (.sipush 2000, 3) := by decide +kernel
theorem dX11_run_15 : decode cX11_run 15 = .ok (.if_icmp .le 5, 3) := by decide +kernel
theorem dX11_run_18 : decode cX11_run 18 = .ok (.iconst (-1), 1) := by decide +kernel
theorem dX11_run_19 : decode cX11_run 19 = .ok (.ireturn, 1) := by decide +kernel
theorem dX11_run_20 : decode cX11_run 20 = .ok (.aload_n 0, 1) := by decide +kernel
theorem dX11_run_21 : decode cX11_run 21 = .ok (.getfield 76, 3) := by decide +kernel
theorem dX11_run_24 : decode cX11_run 24 = .ok (.iload_n 1, 1) := by decide +kernel
theorem dX11_run_25 : decode cX11_run 25 = .ok (.invokevirtual 142, 3) := by decide +kernel
theorem dX11_run_28 : decode cX11_run 28 = .ok (.ireturn, 1) := by decide +kernel
theorem dX11_ran_0 : decode cX11_ran 0 = .ok (.aload_n 0, 1) := by decide +kernel
theorem dX11_ran_1 : decode cX11_ran 1 = .ok (.getfield 76, 3) := by decide +kernel
theorem dX11_ran_4 : decode cX11_ran 4 = .ok (.invokevirtual 146, 3) := by decide +kernel
theorem dX11_ran_7 : decode cX11_ran 7 = .ok (.ifCond .ne 5, 3) := by decide +kernel
theorem dX11_ran_10 : decode cX11_ran 10 = .ok (.iconst (-1), 1) := by decide +kernel
theorem dX11_ran_11 : decode cX11_ran 11 = .ok (.ireturn, 1) := by decide +kernel
theorem dX11_ran_12 : decode cX11_ran 12 = .ok (.iload_n 1, 1) := by decide +kernel
theorem dX11_ran_13 : decode cX11_ran 13 = .ok (.tableswitch 51 0 2 #[27, 35, 43], 27) := by decide +kernel
theorem dX11_ran_40 : decode cX11_ran 40 = .ok (.aload_n 0, 1) := by decide +kernel
theorem dX11_ran_41 : decode cX11_ran 41 = .ok (.getfield 76, 3) := by decide +kernel
theorem dX11_ran_44 : decode cX11_ran 44 = .ok (.invokevirtual 149, 3) := by decide +kernel
theorem dX11_ran_47 : decode cX11_ran 47 = .ok (.ireturn, 1) := by decide +kernel
theorem dX11_ran_48 : decode cX11_ran 48 = .ok (.aload_n 0, 1) := by decide +kernel
theorem dX11_ran_49 : decode cX11_ran 49 = .ok (.getfield 76, 3) := by decide +kernel
theorem dX11_ran_52 : decode cX11_ran 52 = .ok (.invokevirtual 152, 3) := by decide +kernel
theorem dX11_ran_55 : decode cX11_ran 55 = .ok (.ireturn, 1) := by decide +kernel
theorem dX11_ran_56 : decode cX11_ran 56 = .ok (.aload_n 0, 1) := by decide +kernel
theorem dX11_ran_57 : decode cX11_ran 57 = .ok (.getfield 76, 3) := by decide +kernel
theorem dX11_ran_60 : decode cX11_ran 60 = .ok (.invokevirtual 155, 3) := by decide +kernel
theorem dX11_ran_63 : decode cX11_ran 63 = .ok (.ireturn, 1) := by decide +kernel
theorem dX11_ran_64 : decode cX11_ran 64 = .ok (.iconst (-1), 1) := by decide +kernel
theorem dX11_ran_65 : decode cX11_ran 65 = .ok (.ireturn, 1) := by decide +kernel
theorem dX11_out_0 : decode cX11_out 0 = .ok (.aload_n 0, 1) := by decide +kernel
theorem dX11_out_1 : decode cX11_out 1 = .ok (.getfield 76, 3) := by decide +kernel
theorem dX11_out_4 : decode cX11_out 4 = .ok (.iload_n 1, 1) := by decide +kernel
theorem dX11_out_5 : decode cX11_out 5 = .ok (.invokevirtual 158, 3) := by decide +kernel
theorem dX11_out_8 : decode cX11_out 8 = .ok (.ireturn, 1) := by decide +kernel
theorem dX11_word_0 : decode cX11_word 0 = .ok (.aload_n 0, 1) := by decide +kernel
theorem dX11_word_1 : decode cX11_word 1 = .ok (.getfield 76, 3) := by decide +kernel
theorem dX11_word_4 : decode cX11_word 4 = .ok (.iload_n 1, 1) := by decide +kernel
theorem dX11_word_5 : decode cX11_word 5 = .ok (.invokevirtual 161, 3) := by decide +kernel
theorem dX11_word_8 : decode cX11_word 8 = .ok (.ireturn, 1) := by decide +kernel
theorem dX11_quiet_0 : decode cX11_quiet 0 = .ok (.aload_n 0, 1) := by decide +kernel
theorem dX11_quiet_1 : decode cX11_quiet 1 = .ok (.getfield 76, 3) := by decide +kernel
theorem dX11_quiet_4 : decode cX11_quiet 4 = .ok (.invokevirtual 164, 3) := by decide +kernel
theorem dX11_quiet_7 : decode cX11_quiet 7 = .ok (.ireturn, 1) := by decide +kernel
theorem dX11_poke_0 : decode cX11_poke 0 = .ok (.aload_n 0, 1) := by decide +kernel
theorem dX11_poke_1 : decode cX11_poke 1 = .ok (.getfield 28, 3) := by decide +kernel
theorem dX11_poke_4 : decode cX11_poke 4 = .ok (.iload_n 1, 1) := by decide +kernel
theorem dX11_poke_5 : decode cX11_poke 5 = .ok (.iload_n 2, 1) := by decide +kernel
theorem dX11_poke_6 : decode cX11_poke 6 = .ok (.invokevirtual 167, 3) := by decide +kernel
theorem dX11_poke_9 : decode cX11_poke 9 = .ok (.ireturn, 1) := by decide +kernel
theorem dX11_peek_0 : decode cX11_peek 0 = .ok (.aload_n 0, 1) := by decide +kernel
theorem dX11_peek_1 : decode cX11_peek 1 = .ok (.getfield 28, 3) := by decide +kernel
theorem dX11_peek_4 : decode cX11_peek 4 = .ok (.iload_n 1, 1) := by decide +kernel
theorem dX11_peek_5 : decode cX11_peek 5 = .ok (.invokevirtual 170, 3) := by decide +kernel
theorem dX11_peek_8 : decode cX11_peek 8 = .ok (.ireturn, 1) := by decide +kernel
theorem dX11_set_0 : decode cX11_set 0 = .ok (.aload_n 0, 1) := by decide +kernel
theorem dX11_set_1 : decode cX11_set 1 = .ok (.getfield 28, 3) := by decide +kernel
theorem dX11_set_4 : decode cX11_set 4 = .ok (.iload_n 1, 1) := by decide +kernel
theorem dX11_set_5 : decode cX11_set 5 = .ok (.iload_n 2, 1) := by decide +kernel
theorem dX11_set_6 : decode cX11_set 6 = .ok (.invokevirtual 173, 3) := by decide +kernel
theorem dX11_set_9 : decode cX11_set 9 = .ok (.ireturn, 1) := by decide +kernel
theorem dX11_get_0 : decode cX11_get 0 = .ok (.aload_n 0, 1) := by decide +kernel
theorem dX11_get_1 : decode cX11_get 1 = .ok (.getfield 28, 3) := by decide +kernel
theorem dX11_get_4 : decode cX11_get 4 = .ok (.iload_n 1, 1) := by decide +kernel
theorem dX11_get_5 : decode cX11_get 5 = .ok (.invokevirtual 176, 3) := by decide +kernel
theorem dX11_get_8 : decode cX11_get 8 = .ok (.ireturn, 1) := by decide +kernel
theorem dX11_start_0 : decode cX11_start 0 = .ok (.aload_n 0, 1) := by decide +kernel
theorem dX11_start_1 : decode cX11_start 1 = .ok (.getfield 28, 3) := by decide +kernel
theorem dX11_start_4 : decode cX11_start 4 = .ok (.iload_n 1, 1) := by decide +kernel
theorem dX11_start_5 : decode cX11_start 5 = .ok (.invokevirtual 179, 3) := by decide +kernel
theorem dX11_start_8 : decode cX11_start 8 = .ok (.ireturn, 1) := by decide +kernel
theorem dX11_go_0 : decode cX11_go 0 = .ok (.iload_n 1, 1) := by decide +kernel
theorem dX11_go_1 : decode cX11_go 1 = .ok (.ifCond .lt 10, 3) := by decide +kernel
theorem dX11_go_4 : decode cX11_go 4 = .ok (.iload_n 1, 1) := by decide +kernel
theorem dX11_go_5 : decode cX11_go 5 = .ok (.sipush 2000, 3) := by decide +kernel
theorem dX11_go_8 : decode cX11_go 8 = .ok (.if_icmp .le 5, 3) := by decide +kernel
theorem dX11_go_11 : decode cX11_go 11 = .ok (.iconst (-1), 1) := by decide +kernel
theorem dX11_go_12 : decode cX11_go 12 = .ok (.ireturn, 1) := by decide +kernel
theorem dX11_go_13 : decode cX11_go 13 = .ok (.aload_n 0, 1) := by decide +kernel
theorem dX11_go_14 : decode cX11_go 14 = .ok (.getfield 28, 3) := by decide +kernel
theorem dX11_go_17 : decode cX11_go 17 = .ok (.iload_n 1, 1) := by decide +kernel
theorem dX11_go_18 : decode cX11_go 18 = .ok (.invokevirtual 183, 3) := by decide +kernel
theorem dX11_go_21 : decode cX11_go 21 = .ok (.ireturn, 1) := by decide +kernel
theorem dX11_state_0 : decode cX11_state 0 = .ok (.iload_n 1, 1) := by decide +kernel
theorem dX11_state_1 : decode cX11_state 1 = .ok (.tableswitch 64 0 3 #[31, 39, 47, 56], 31) := by decide +kernel
theorem dX11_state_32 : decode cX11_state 32 = .ok (.aload_n 0, 1) := by decide +kernel
theorem dX11_state_33 : decode cX11_state 33 = .ok (.getfield 28, 3) := by decide +kernel
theorem dX11_state_36 : decode cX11_state 36 = .ok (.invokevirtual 185, 3) := by decide +kernel
theorem dX11_state_39 : decode cX11_state 39 = .ok (.ireturn, 1) := by decide +kernel
theorem dX11_state_40 : decode cX11_state 40 = .ok (.aload_n 0, 1) := by decide +kernel
theorem dX11_state_41 : decode cX11_state 41 = .ok (.getfield 28, 3) := by decide +kernel
theorem dX11_state_44 : decode cX11_state 44 = .ok (.invokevirtual 188, 3) := by decide +kernel
theorem dX11_state_47 : decode cX11_state 47 = .ok (.ireturn, 1) := by decide +kernel
theorem dX11_state_48 : decode cX11_state 48 = .ok (.aload_n 0, 1) := by decide +kernel
theorem dX11_state_49 : decode cX11_state 49 = .ok (.getfield 28, 3) := by decide +kernel
theorem dX11_state_52 : decode cX11_state 52 = .ok (.invokevirtual 191, 3) := by decide +kernel
theorem dX11_state_55 : decode cX11_state 55 = .ok (.l2i, 1) := by decide +kernel
theorem dX11_state_56 : decode cX11_state 56 = .ok (.ireturn, 1) := by decide +kernel
theorem dX11_state_57 : decode cX11_state 57 = .ok (.aload_n 0, 1) := by decide +kernel
theorem dX11_state_58 : decode cX11_state 58 = .ok (.getfield 28, 3) := by decide +kernel
theorem dX11_state_61 : decode cX11_state 61 = .ok (.invokevirtual 195, 3) := by decide +kernel
theorem dX11_state_64 : decode cX11_state 64 = .ok (.ireturn, 1) := by decide +kernel
theorem dX11_state_65 : decode cX11_state 65 = .ok (.iconst (-1), 1) := by decide +kernel
theorem dX11_state_66 : decode cX11_state 66 = .ok (.ireturn, 1) := by decide +kernel
theorem dX11_trail_0 : decode cX11_trail 0 = .ok (.aload_n 0, 1) := by decide +kernel
theorem dX11_trail_1 : decode cX11_trail 1 = .ok (.getfield 28, 3) := by decide +kernel
theorem dX11_trail_4 : decode cX11_trail 4 = .ok (.invokevirtual 198, 3) := by decide +kernel
theorem dX11_trail_7 : decode cX11_trail 7 = .ok (.lreturn, 1) := by decide +kernel
abbrev MX11_count : aw_M := (yX11_count, cX11_count, 2, (some .int))
theorem codX11_count : Cond.code yX11_count cX11_count 2 (some .int) ∈ aw_T := aw_in 1142 (by decide +kernel) rfl
theorem iniX11 : Cond.initialized RX11 ∈ aw_T := aw_in 113 (by decide +kernel) rfl
theorem insX11_count : Cond.instanceMethod yX11_count ∈ aw_T := aw_in 1140 (by decide +kernel) rfl
theorem selX11_count : Cond.selects RX11 yX11_count yX11_count ∈ aw_T := aw_in 1141 (by decide +kernel) rfl
abbrev MX11_feed : aw_M := (yX11_feed, cX11_feed, 6, (some .int))
theorem codX11_feed : Cond.code yX11_feed cX11_feed 6 (some .int) ∈ aw_T := aw_in 476 (by decide +kernel) rfl
theorem insX11_feed : Cond.instanceMethod yX11_feed ∈ aw_T := aw_in 474 (by decide +kernel) rfl
theorem selX11_feed : Cond.selects RX11 yX11_feed yX11_feed ∈ aw_T := aw_in 475 (by decide +kernel) rfl
abbrev MX11_get : aw_M := (yX11_get, cX11_get, 2, (some .int))
theorem codX11_get : Cond.code yX11_get cX11_get 2 (some .int) ∈ aw_T := aw_in 1399 (by decide +kernel) rfl
theorem insX11_get : Cond.instanceMethod yX11_get ∈ aw_T := aw_in 1397 (by decide +kernel) rfl
theorem selX11_get : Cond.selects RX11 yX11_get yX11_get ∈ aw_T := aw_in 1398 (by decide +kernel) rfl
abbrev MX11_go : aw_M := (yX11_go, cX11_go, 2, (some .int))
theorem codX11_go : Cond.code yX11_go cX11_go 2 (some .int) ∈ aw_T := aw_in 1409 (by decide +kernel) rfl
theorem insX11_go : Cond.instanceMethod yX11_go ∈ aw_T := aw_in 1407 (by decide +kernel) rfl
theorem selX11_go : Cond.selects RX11 yX11_go yX11_go ∈ aw_T := aw_in 1408 (by decide +kernel) rfl
abbrev MX11_input : aw_M := (yX11_input, cX11_input, 3, (some .boolean))
theorem codX11_input : Cond.code yX11_input cX11_input 3 (some .boolean) ∈ aw_T := aw_in 1158 (by decide +kernel) rfl
theorem insX11_input : Cond.instanceMethod yX11_input ∈ aw_T := aw_in 1156 (by decide +kernel) rfl
theorem selX11_input : Cond.selects RX11 yX11_input yX11_input ∈ aw_T := aw_in 1157 (by decide +kernel) rfl
abbrev MX11_load : aw_M := (yX11_load, cX11_load, 4, (some .int))
theorem codX11_load : Cond.code yX11_load cX11_load 4 (some .int) ∈ aw_T := aw_in 492 (by decide +kernel) rfl
theorem insX11_load : Cond.instanceMethod yX11_load ∈ aw_T := aw_in 490 (by decide +kernel) rfl
theorem selX11_load : Cond.selects RX11 yX11_load yX11_load ∈ aw_T := aw_in 491 (by decide +kernel) rfl
abbrev MX11_out : aw_M := (yX11_out, cX11_out, 2, (some .int))
theorem codX11_out : Cond.code yX11_out cX11_out 2 (some .int) ∈ aw_T := aw_in 1346 (by decide +kernel) rfl
theorem insX11_out : Cond.instanceMethod yX11_out ∈ aw_T := aw_in 1344 (by decide +kernel) rfl
theorem selX11_out : Cond.selects RX11 yX11_out yX11_out ∈ aw_T := aw_in 1345 (by decide +kernel) rfl
abbrev MX11_peek : aw_M := (yX11_peek, cX11_peek, 2, (some .int))
theorem codX11_peek : Cond.code yX11_peek cX11_peek 2 (some .int) ∈ aw_T := aw_in 1389 (by decide +kernel) rfl
theorem insX11_peek : Cond.instanceMethod yX11_peek ∈ aw_T := aw_in 1387 (by decide +kernel) rfl
theorem selX11_peek : Cond.selects RX11 yX11_peek yX11_peek ∈ aw_T := aw_in 1388 (by decide +kernel) rfl
abbrev MX11_poke : aw_M := (yX11_poke, cX11_poke, 3, (some .boolean))
theorem codX11_poke : Cond.code yX11_poke cX11_poke 3 (some .boolean) ∈ aw_T := aw_in 1384 (by decide +kernel) rfl
theorem insX11_poke : Cond.instanceMethod yX11_poke ∈ aw_T := aw_in 1382 (by decide +kernel) rfl
theorem selX11_poke : Cond.selects RX11 yX11_poke yX11_poke ∈ aw_T := aw_in 1383 (by decide +kernel) rfl
abbrev MX11_quiet : aw_M := (yX11_quiet, cX11_quiet, 1, (some .boolean))
theorem codX11_quiet : Cond.code yX11_quiet cX11_quiet 1 (some .boolean) ∈ aw_T := aw_in 1368 (by decide +kernel) rfl
theorem insX11_quiet : Cond.instanceMethod yX11_quiet ∈ aw_T := aw_in 1366 (by decide +kernel) rfl
theorem selX11_quiet : Cond.selects RX11 yX11_quiet yX11_quiet ∈ aw_T := aw_in 1367 (by decide +kernel) rfl
abbrev MX11_ran : aw_M := (yX11_ran, cX11_ran, 2, (some .int))
theorem codX11_ran : Cond.code yX11_ran cX11_ran 2 (some .int) ∈ aw_T := aw_in 1326 (by decide +kernel) rfl
theorem insX11_ran : Cond.instanceMethod yX11_ran ∈ aw_T := aw_in 1324 (by decide +kernel) rfl
theorem selX11_ran : Cond.selects RX11 yX11_ran yX11_ran ∈ aw_T := aw_in 1325 (by decide +kernel) rfl
abbrev MX11_run : aw_M := (yX11_run, cX11_run, 2, (some .int))
theorem codX11_run : Cond.code yX11_run cX11_run 2 (some .int) ∈ aw_T := aw_in 1170 (by decide +kernel) rfl
theorem insX11_run : Cond.instanceMethod yX11_run ∈ aw_T := aw_in 1168 (by decide +kernel) rfl
theorem selX11_run : Cond.selects RX11 yX11_run yX11_run ∈ aw_T := aw_in 1169 (by decide +kernel) rfl
abbrev MX11_set : aw_M := (yX11_set, cX11_set, 3, (some .boolean))
theorem codX11_set : Cond.code yX11_set cX11_set 3 (some .boolean) ∈ aw_T := aw_in 1394 (by decide +kernel) rfl
theorem insX11_set : Cond.instanceMethod yX11_set ∈ aw_T := aw_in 1392 (by decide +kernel) rfl
theorem selX11_set : Cond.selects RX11 yX11_set yX11_set ∈ aw_T := aw_in 1393 (by decide +kernel) rfl
abbrev MX11_start : aw_M := (yX11_start, cX11_start, 2, (some .boolean))
theorem codX11_start : Cond.code yX11_start cX11_start 2 (some .boolean) ∈ aw_T := aw_in 1404 (by decide +kernel) rfl
theorem insX11_start : Cond.instanceMethod yX11_start ∈ aw_T := aw_in 1402 (by decide +kernel) rfl
theorem selX11_start : Cond.selects RX11 yX11_start yX11_start ∈ aw_T := aw_in 1403 (by decide +kernel) rfl
abbrev MX11_state : aw_M := (yX11_state, cX11_state, 2, (some .int))
theorem codX11_state : Cond.code yX11_state cX11_state 2 (some .int) ∈ aw_T := aw_in 1414 (by decide +kernel) rfl
theorem insX11_state : Cond.instanceMethod yX11_state ∈ aw_T := aw_in 1412 (by decide +kernel) rfl
theorem selX11_state : Cond.selects RX11 yX11_state yX11_state ∈ aw_T := aw_in 1413 (by decide +kernel) rfl
abbrev MX11_told : aw_M := (yX11_told, cX11_told, 2, (some .int))
theorem codX11_told : Cond.code yX11_told cX11_told 2 (some .int) ∈ aw_T := aw_in 1138 (by decide +kernel) rfl
theorem insX11_told : Cond.instanceMethod yX11_told ∈ aw_T := aw_in 1136 (by decide +kernel) rfl
theorem selX11_told : Cond.selects RX11 yX11_told yX11_told ∈ aw_T := aw_in 1137 (by decide +kernel) rfl
abbrev MX11_trail : aw_M := (yX11_trail, cX11_trail, 1, (some .long))
theorem codX11_trail : Cond.code yX11_trail cX11_trail 1 (some .long) ∈ aw_T := aw_in 1431 (by decide +kernel) rfl
theorem insX11_trail : Cond.instanceMethod yX11_trail ∈ aw_T := aw_in 1429 (by decide +kernel) rfl
theorem selX11_trail : Cond.selects RX11 yX11_trail yX11_trail ∈ aw_T := aw_in 1430 (by decide +kernel) rfl
abbrev MX11_word : aw_M := (yX11_word, cX11_word, 2, (some .int))
theorem codX11_word : Cond.code yX11_word cX11_word 2 (some .int) ∈ aw_T := aw_in 1359 (by decide +kernel) rfl
theorem insX11_word : Cond.instanceMethod yX11_word ∈ aw_T := aw_in 1357 (by decide +kernel) rfl
theorem selX11_word : Cond.selects RX11 yX11_word yX11_word ∈ aw_T := aw_in 1358 (by decide +kernel) rfl
theorem hX11_w : ∀ w ∈ u_ws RX11 TX11 12, w ∈ aw_T := by
  show ∀ w ∈ [u_lay RX11 TX11 0, u_lay RX11 TX11 1, u_lay RX11 TX11 2, u_lay RX11 TX11 3, u_lay RX11 TX11 4, u_lay RX11 TX11 5, u_lay RX11 TX11 6, u_lay RX11 TX11 7, u_lay RX11 TX11 8, u_lay RX11 TX11 9, u_lay RX11 TX11 10, u_lay RX11 TX11 11], w ∈ aw_T
  exact List.forall_mem_cons.mpr ⟨aw_in 448 (by decide +kernel) rfl, List.forall_mem_cons.mpr ⟨aw_in 450 (by decide +kernel) rfl, List.forall_mem_cons.mpr ⟨aw_in 452 (by decide +kernel) rfl, List.forall_mem_cons.mpr ⟨aw_in 454 (by decide +kernel) rfl, List.forall_mem_cons.mpr ⟨aw_in 456 (by decide +kernel) rfl, List.forall_mem_cons.mpr ⟨aw_in 458 (by decide +kernel) rfl, List.forall_mem_cons.mpr ⟨aw_in 460 (by decide +kernel) rfl, List.forall_mem_cons.mpr ⟨aw_in 462 (by decide +kernel) rfl, List.forall_mem_cons.mpr ⟨aw_in 464 (by decide +kernel) rfl, List.forall_mem_cons.mpr ⟨aw_in 466 (by decide +kernel) rfl, List.forall_mem_cons.mpr ⟨aw_in 468 (by decide +kernel) rfl, List.forall_mem_cons.mpr ⟨aw_in 470 (by decide +kernel) rfl, fun _ h => absurd h List.not_mem_nil⟩⟩⟩⟩⟩⟩⟩⟩⟩⟩⟩⟩
theorem hX11 : aw_C 11 RX11 TX11 12 tyX11 := ⟨rfl, hX11_w, tyX11_ok, nmX11⟩
theorem fX11_10 : aw_F RX11 10 11 0 (.object "QuietDesk$Tape") true := aw_F.of hX11 0 (by decide) (aw_in 436 (by decide +kernel) rfl) rfl rfl rfl
theorem fX11_21 : aw_F RX11 21 11 1 (.object "QuietDesk$Tokens") true := aw_F.of hX11 1 (by decide) (aw_in 437 (by decide +kernel) rfl) rfl rfl rfl
theorem fX11_28 : aw_F RX11 28 11 2 (.object "QuietDesk$Machine") true := aw_F.of hX11 2 (by decide) (aw_in 438 (by decide +kernel) rfl) rfl rfl rfl
theorem fX11_35 : aw_F RX11 35 11 3 (.object "QuietDesk$Nodes") true := aw_F.of hX11 3 (by decide) (aw_in 439 (by decide +kernel) rfl) rfl rfl rfl
theorem fX11_42 : aw_F RX11 42 11 4 (.object "QuietDesk$Names") true := aw_F.of hX11 4 (by decide) (aw_in 440 (by decide +kernel) rfl) rfl rfl rfl
theorem fX11_51 : aw_F RX11 51 11 5 (.object "QuietDesk$Reader") true := aw_F.of hX11 5 (by decide) (aw_in 441 (by decide +kernel) rfl) rfl rfl rfl
theorem fX11_60 : aw_F RX11 60 11 6 (.object "QuietDesk$Judge") true := aw_F.of hX11 6 (by decide) (aw_in 442 (by decide +kernel) rfl) rfl rfl rfl
theorem fX11_69 : aw_F RX11 69 11 7 (.object "QuietDesk$Coder") true := aw_F.of hX11 7 (by decide) (aw_in 443 (by decide +kernel) rfl) rfl rfl rfl
theorem fX11_76 : aw_F RX11 76 11 8 (.object "QuietDesk$Work") true := aw_F.of hX11 8 (by decide) (aw_in 444 (by decide +kernel) rfl) rfl rfl rfl
theorem fX11_80 : aw_F RX11 80 11 9 .boolean false := aw_F.of hX11 9 (by decide) (aw_in 445 (by decide +kernel) rfl) rfl rfl rfl
theorem fX11_84 : aw_F RX11 84 11 10 .int false := aw_F.of hX11 10 (by decide) (aw_in 446 (by decide +kernel) rfl) rfl rfl rfl
theorem fX11_88 : aw_F RX11 88 11 11 .int false := aw_F.of hX11 11 (by decide) (aw_in 447 (by decide +kernel) rfl) rfl rfl rfl
theorem lX11_103 : aw_L RX11 103 MX8_cut 1 := ⟨aw_in 493 (by decide +kernel) rfl, iniX8, codX8_cut, ⟨by decide, by decide, by decide +kernel⟩, by decide⟩
theorem lX11_106 : aw_L RX11 106 MX4_clear 1 := ⟨aw_in 503 (by decide +kernel) rfl, iniX4, codX4_clear, ⟨by decide, by decide, by decide +kernel⟩, by decide⟩
theorem lX11_109 : aw_L RX11 109 MX3_clear 0 := ⟨aw_in 507 (by decide +kernel) rfl, iniX3, codX3_clear, ⟨by decide, by decide, by decide +kernel⟩, by decide⟩
theorem lX11_111 : aw_L RX11 111 MX10_clear 0 := ⟨aw_in 511 (by decide +kernel) rfl, iniX10, codX10_clear, ⟨by decide, by decide, by decide +kernel⟩, by decide⟩
theorem lX11_112 : aw_L RX11 112 MX9_read 1 := ⟨aw_in 518 (by decide +kernel) rfl, iniX9, codX9_read, ⟨by decide, by decide, by decide +kernel⟩, by decide⟩
theorem lX11_115 : aw_L RX11 115 MX7_read 0 := ⟨aw_in 693 (by decide +kernel) rfl, iniX7, codX7_read, ⟨by decide, by decide, by decide +kernel⟩, by decide⟩
theorem lX11_117 : aw_L RX11 117 MX1_firstWrong 0 := ⟨aw_in 807 (by decide +kernel) rfl, iniX1, codX1_firstWrong, ⟨by decide, by decide, by decide +kernel⟩, by decide⟩
theorem lX11_120 : aw_L RX11 120 MX8_empty 0 := ⟨aw_in 907 (by decide +kernel) rfl, iniX8, codX8_empty, ⟨by decide, by decide, by decide +kernel⟩, by decide⟩
theorem lX11_123 : aw_L RX11 123 MX1_wrongPlace 0 := ⟨aw_in 911 (by decide +kernel) rfl, iniX1, codX1_wrongPlace, ⟨by decide, by decide, by decide +kernel⟩, by decide⟩
theorem lX11_126 : aw_L RX11 126 MX0_write 0 := ⟨aw_in 915 (by decide +kernel) rfl, iniX0, codX0_write, ⟨by decide, by decide, by decide +kernel⟩, by decide⟩
theorem lX11_129 : aw_L RX11 129 MX3_words 0 := ⟨aw_in 1143 (by decide +kernel) rfl, iniX3, codX3_words, ⟨by decide, by decide, by decide +kernel⟩, by decide⟩
theorem lX11_132 : aw_L RX11 132 MX3_inputs 0 := ⟨aw_in 1147 (by decide +kernel) rfl, iniX3, codX3_inputs, ⟨by decide, by decide, by decide +kernel⟩, by decide⟩
theorem lX11_135 : aw_L RX11 135 MX3_publicInputs 0 := ⟨aw_in 1151 (by decide +kernel) rfl, iniX3, codX3_publicInputs, ⟨by decide, by decide, by decide +kernel⟩, by decide⟩
theorem lX11_138 : aw_L RX11 138 MX10_give 2 := ⟨aw_in 1159 (by decide +kernel) rfl, iniX10, codX10_give, ⟨by decide, by decide, by decide +kernel⟩, by decide⟩
theorem lX11_142 : aw_L RX11 142 MX10_perform 1 := ⟨aw_in 1171 (by decide +kernel) rfl, iniX10, codX10_perform, ⟨by decide, by decide, by decide +kernel⟩, by decide⟩
theorem lX11_146 : aw_L RX11 146 MX10_hasRun 0 := ⟨aw_in 1327 (by decide +kernel) rfl, iniX10, codX10_hasRun, ⟨by decide, by decide, by decide +kernel⟩, by decide⟩
theorem lX11_149 : aw_L RX11 149 MX10_endPlace 0 := ⟨aw_in 1331 (by decide +kernel) rfl, iniX10, codX10_endPlace, ⟨by decide, by decide, by decide +kernel⟩, by decide⟩
theorem lX11_152 : aw_L RX11 152 MX10_stepsDone 0 := ⟨aw_in 1335 (by decide +kernel) rfl, iniX10, codX10_stepsDone, ⟨by decide, by decide, by decide +kernel⟩, by decide⟩
theorem lX11_155 : aw_L RX11 155 MX10_tellings 0 := ⟨aw_in 1339 (by decide +kernel) rfl, iniX10, codX10_tellings, ⟨by decide, by decide, by decide +kernel⟩, by decide⟩
theorem lX11_158 : aw_L RX11 158 MX10_telling 1 := ⟨aw_in 1347 (by decide +kernel) rfl, iniX10, codX10_telling, ⟨by decide, by decide, by decide +kernel⟩, by decide⟩
theorem lX11_161 : aw_L RX11 161 MX10_wordLeft 1 := ⟨aw_in 1360 (by decide +kernel) rfl, iniX10, codX10_wordLeft, ⟨by decide, by decide, by decide +kernel⟩, by decide⟩
theorem lX11_164 : aw_L RX11 164 MX10_lastTwoAlike 0 := ⟨aw_in 1369 (by decide +kernel) rfl, iniX10, codX10_lastTwoAlike, ⟨by decide, by decide, by decide +kernel⟩, by decide⟩
theorem lX11_167 : aw_L RX11 167 MX2_store 2 := ⟨aw_in 1385 (by decide +kernel) rfl, iniX2, codX2_store, ⟨by decide, by decide, by decide +kernel⟩, by decide⟩
theorem lX11_170 : aw_L RX11 170 MX2_fetch 1 := ⟨aw_in 1390 (by decide +kernel) rfl, iniX2, codX2_fetch, ⟨by decide, by decide, by decide +kernel⟩, by decide⟩
theorem lX11_173 : aw_L RX11 173 MX2_fill 2 := ⟨aw_in 1395 (by decide +kernel) rfl, iniX2, codX2_fill, ⟨by decide, by decide, by decide +kernel⟩, by decide⟩
theorem lX11_176 : aw_L RX11 176 MX2_register 1 := ⟨aw_in 1400 (by decide +kernel) rfl, iniX2, codX2_register, ⟨by decide, by decide, by decide +kernel⟩, by decide⟩
theorem lX11_179 : aw_L RX11 179 MX2_beginAt 1 := ⟨aw_in 1405 (by decide +kernel) rfl, iniX2, codX2_beginAt, ⟨by decide, by decide, by decide +kernel⟩, by decide⟩
theorem lX11_183 : aw_L RX11 183 MX2_work 1 := ⟨aw_in 1410 (by decide +kernel) rfl, iniX2, codX2_work, ⟨by decide, by decide, by decide +kernel⟩, by decide⟩
theorem lX11_185 : aw_L RX11 185 MX2_place 0 := ⟨aw_in 1415 (by decide +kernel) rfl, iniX2, codX2_place, ⟨by decide, by decide, by decide +kernel⟩, by decide⟩
theorem lX11_188 : aw_L RX11 188 MX2_ordersDone 0 := ⟨aw_in 1419 (by decide +kernel) rfl, iniX2, codX2_ordersDone, ⟨by decide, by decide, by decide +kernel⟩, by decide⟩
theorem lX11_191 : aw_L RX11 191 MX2_cycles 0 := ⟨aw_in 1423 (by decide +kernel) rfl, iniX2, codX2_cycles, ⟨by decide, by decide, by decide +kernel⟩, by decide⟩
theorem lX11_195 : aw_L RX11 195 MX2_misses 0 := ⟨aw_in 1424 (by decide +kernel) rfl, iniX2, codX2_misses, ⟨by decide, by decide, by decide +kernel⟩, by decide⟩
theorem lX11_198 : aw_L RX11 198 MX2_events 0 := ⟨aw_in 1432 (by decide +kernel) rfl, iniX2, codX2_events, ⟨by decide, by decide, by decide +kernel⟩, by decide⟩
theorem lX11_91 : aw_L RX11 91 MX8_hasRoom 0 := ⟨aw_in 477 (by decide +kernel) rfl, iniX8, codX8_hasRoom, ⟨by decide, by decide, by decide +kernel⟩, by decide⟩
theorem lX11_95 : aw_L RX11 95 MX8_add 1 := ⟨aw_in 481 (by decide +kernel) rfl, iniX8, codX8_add, ⟨by decide, by decide, by decide +kernel⟩, by decide⟩
theorem lX11_99 : aw_L RX11 99 MX8_fed 0 := ⟨aw_in 485 (by decide +kernel) rfl, iniX8, codX8_fed, ⟨by decide, by decide, by decide +kernel⟩, by decide⟩
