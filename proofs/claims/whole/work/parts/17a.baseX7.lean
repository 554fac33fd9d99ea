theorem dX7_read_0 : decode cX7_read 0 = .ok (.aload_n 0, 1) := by decide +kernel
theorem dX7_read_1 : decode cX7_read 1 = .ok (.iconst (-1), 1) := by decide +kernel
theorem dX7_read_2 : decode cX7_read 2 = .ok (.putfield 19, 3) := by decide +kernel
theorem dX7_read_5 : decode cX7_read 5 = .ok (.iconst 0, 1) := by decide +kernel
theorem dX7_read_6 : decode cX7_read 6 = .ok (.istore_n 1, 1) := by decide +kernel
theorem dX7_read_7 : decode cX7_read 7 = .ok (.iload_n 1, 1) := by decide +kernel
theorem dX7_read_8 : decode cX7_read 8 = .ok (.sipush 3000, 3) := by decide +kernel
theorem dX7_read_11 : decode cX7_read 11 = .ok (.if_icmp .ge 28, 3) := by decide +kernel
theorem dX7_read_14 : decode cX7_read 14 = .ok (.aload_n 0, 1) := by decide +kernel
theorem dX7_read_15 : decode cX7_read 15 = .ok (.getfield 19, 3) := by decide +kernel
theorem dX7_read_18 : decode cX7_read 18 = .ok (.iconst (-1), 1) := by decide +kernel
theorem dX7_read_19 : decode cX7_read 19 = .ok (.if_icmp .ne 20, 3) := by decide +kernel
theorem dX7_read_22 : decode cX7_read 22 = .ok (.aload_n 0, 1) := by decide +kernel
theorem dX7_read_23 : decode cX7_read 23 = .ok (.invokevirtual 25, 3) := by decide +kernel
theorem dX7_read_26 : decode cX7_read 26 = .ok (.ifCond .eq 13, 3) := by decide +kernel
theorem dX7_read_29 : decode cX7_read 29 = .ok (.aload_n 0, 1) := by decide +kernel
theorem dX7_read_30 : decode cX7_read 30 = .ok (.invokevirtual 29, 3) := by decide +kernel
theorem dX7_read_33 : decode cX7_read 33 = .ok (.iinc 1 1, 3) := by decide +kernel
theorem dX7_read_36 : decode cX7_read 36 = .ok (.goto (-29), 3) := by decide +kernel
theorem dX7_read_39 : decode cX7_read 39 = .ok (.aload_n 0, 1) := by decide +kernel
theorem dX7_read_40 : decode cX7_read 40 = .ok (.iconst 0, 1) := by decide +kernel
theorem dX7_read_41 : decode cX7_read 41 = .ok (.invokevirtual 32, 3) := by decide +kernel
theorem dX7_read_44 : decode cX7_read 44 = .ok (.aload_n 0, 1) := by decide +kernel
theorem dX7_read_45 : decode cX7_read 45 = .ok (.iconst 0, 1) := by decide +kernel
theorem dX7_read_46 : decode cX7_read 46 = .ok (.invokevirtual 38, 3) := by decide +kernel
theorem dX7_read_49 : decode cX7_read 49 = .ok (.pop, 1) := by decide +kernel
theorem dX7_read_50 : decode cX7_read 50 = .ok (.aload_n 0, 1) := by decide +kernel
theorem dX7_read_51 : decode cX7_read 51 = .ok (.getfield 19, 3) := by decide +kernel
theorem dX7_read_54 : decode cX7_read 54 = .ok (.ireturn, 1) := by decide +kernel
theorem dX7_atLevel_0 : decode cX7_atLevel 0 = .ok (.aload_n 0, 1) := by decide +kernel
theorem dX7_atLevel_1 : decode cX7_atLevel 1 = .ok (.getfield 9, 3) := by decide +kernel
theorem dX7_atLevel_4 : decode cX7_atLevel 4 = .ok (.invokevirtual 42, 3) := by decide +kernel
theorem dX7_atLevel_7 : decode cX7_atLevel 7 = .ok (.iconst 4, 1) := by decide +kernel
theorem dX7_atLevel_8 : decode cX7_atLevel 8 = .ok (.if_icmp .eq 14, 3) := by decide +kernel
theorem dX7_atLevel_11 : decode cX7_atLevel 11 = .ok (.aload_n 0, 1) := by decide +kernel
theorem dX7_atLevel_12 : decode cX7_atLevel 12 = .ok (.getfield 9, 3) := by decide +kernel
theorem dX7_atLevel_15 : decode cX7_atLevel 15 = .ok (.invokevirtual 42, 3) := by decide +kernel
theorem dX7_atLevel_18 : decode cX7_atLevel 18 = .ok (.iconst 5, 1) := by decide +kernel
theorem dX7_atLevel_19 : decode cX7_atLevel 19 = .ok (.if_icmp .ne 7, 3) := by decide +kernel
theorem dX7_atLevel_22 : decode cX7_atLevel 22 = .ok (.iconst 1, 1) := by decide +kernel
theorem dX7_atLevel_23 : decode cX7_atLevel 23 = .ok (.goto 4, 3) := by decide +kernel
theorem dX7_atLevel_26 : decode cX7_atLevel 26 = .ok (.iconst 0, 1) := by decide +kernel
theorem dX7_atLevel_27 : decode cX7_atLevel 27 = .ok (.ireturn, 1) := by decide +kernel
theorem dX7_fail_0 : decode cX7_fail 0 = .ok (.aload_n 0, 1) := by decide +kernel
theorem dX7_fail_1 : decode cX7_fail 1 = .ok (.getfield 19, 3) := by decide +kernel
theorem dX7_fail_4 : decode cX7_fail 4 = .ok (.iconst (-1), 1) := by decide +kernel
theorem dX7_fail_5 : decode cX7_fail 5 = .ok (.if_icmp .ne 14, 3) := by decide +kernel
theorem dX7_fail_8 : decode cX7_fail 8 = .ok (.aload_n 0, 1) := by decide +kernel
theorem dX7_fail_9 : decode cX7_fail 9 = .ok (.aload_n 0, 1) := by decide +kernel
theorem dX7_fail_10 : decode cX7_fail 10 = .ok (.getfield 9, 3) := by decide +kernel
theorem dX7_fail_13 : decode cX7_fail 13 = .ok (.invokevirtual 46, 3) := by decide +kernel
theorem dX7_fail_16 : decode cX7_fail 16 = .ok (.putfield 19, 3) := by decide +kernel
theorem dX7_fail_19 : decode cX7_fail 19 = .ok (.return_, 1) := by decide +kernel
theorem dX7_take_0 : decode cX7_take 0 = .ok (.aload_n 0, 1) := by decide +kernel
theorem dX7_take_1 : decode cX7_take 1 = .ok (.getfield 19, 3) := by decide +kernel
theorem dX7_take_4 : decode cX7_take 4 = .ok (.iconst (-1), 1) := by decide +kernel
theorem dX7_take_5 : decode cX7_take 5 = .ok (.if_icmp .ne 23, 3) := by decide +kernel
theorem dX7_take_8 : decode cX7_take 8 = .ok (.aload_n 0, 1) := by decide +kernel
theorem dX7_take_9 : decode cX7_take 9 = .ok (.getfield 9, 3) := by decide +kernel
theorem dX7_take_12 : decode cX7_take 12 = .ok (.invokevirtual 42, 3) := by decide +kernel
theorem dX7_take_15 : decode cX7_take 15 = .ok (.iload_n 1, 1) := by decide +kernel
theorem dX7_take_16 : decode cX7_take 16 = .ok (.if_icmp .ne 12, 3) := by decide +kernel
theorem dX7_take_19 : decode cX7_take 19 = .ok (.aload_n 0, 1) := by decide +kernel
theorem dX7_take_20 : decode cX7_take 20 = .ok (.getfield 9, 3) := by decide +kernel
theorem dX7_take_23 : decode cX7_take 23 = .ok (.invokevirtual 49, 3) := by decide +kernel
theorem dX7_take_26 : decode cX7_take 26 = .ok (.iconst 1, 1) := by decide +kernel
theorem dX7_take_27 : decode cX7_take 27 = .ok (.ireturn, 1) := by decide +kernel
theorem dX7_take_28 : decode cX7_take 28 = .ok (.aload_n 0, 1) := by decide +kernel
theorem dX7_take_29 : decode cX7_take 29 = .ok (.invokevirtual 52, 3) := by decide +kernel
theorem dX7_take_32 : decode cX7_take 32 = .ok (.iconst 0, 1) := by decide +kernel
theorem dX7_take_33 : decode cX7_take 33 = .ok (.ireturn, 1) := by decide +kernel
theorem dX7_declaration_0 : decode cX7_declaration 0 = .ok (.aload_n 0, 1) := by decide +kernel
theorem dX7_declaration_1 : decode cX7_declaration 1 = .ok (.getfield 9, 3) := by decide +kernel
theorem dX7_declaration_4 : decode cX7_declaration 4 = .ok (.invokevirtual 42, 3) := by decide +kernel
theorem dX7_declaration_7 : decode cX7_declaration 7 = .ok (.iconst 5, 1) := by decide +kernel
theorem dX7_declaration_8 : decode cX7_declaration 8 = .ok (.if_icmp .ne 7, 3) := by decide +kernel
theorem dX7_declaration_11 : decode cX7_declaration 11 = .ok (.iconst 1, 1) := by decide +kernel
theorem dX7_declaration_12 : decode cX7_declaration 12 = .ok (.goto 4, 3) := by decide +kernel
theorem dX7_declaration_15 : decode cX7_declaration 15 = .ok (.iconst 0, 1) := by decide +kernel
theorem dX7_declaration_16 : decode cX7_declaration 16 = .ok (.istore_n 1, 1) := by decide +kernel
theorem dX7_declaration_17 : decode cX7_declaration 17 = .ok (.aload_n 0, 1) := by decide +kernel
theorem dX7_declaration_18 : decode cX7_declaration 18 = .ok (.getfield 9, 3) := by decide +kernel
theorem dX7_declaration_21 : decode cX7_declaration 21 = .ok (.invokevirtual 49, 3) := by decide +kernel
theorem dX7_declaration_24 : decode cX7_declaration 24 = .ok (.aload_n 0, 1) := by decide +kernel
theorem dX7_declaration_25 : decode cX7_declaration 25 = .ok (.getfield 9, 3) := by decide +kernel
theorem dX7_declaration_28 : decode cX7_declaration 28 = .ok (.invokevirtual 42, 3) := by decide +kernel
theorem dX7_declaration_31 : decode cX7_declaration 31 = .ok (.bipush 6, 2) := by decide +kernel
theorem dX7_declaration_33 : decode cX7_declaration 33 = .ok (.if_icmp .ne 14, 3) := by decide +kernel
theorem dX7_declaration_36 : decode cX7_declaration 36 = .ok (.iload_n 1, 1) := by decide +kernel
theorem dX7_declaration_37 : decode cX7_declaration 37 = .ok (.iconst 2, 1) := by decide +kernel
theorem dX7_declaration_38 : decode cX7_declaration 38 = .ok (.ior, 1) := by decide +kernel
theorem dX7_declaration_39 : decode cX7_declaration 39 = .ok (.istore_n 1, 1) := by decide +kernel
theorem dX7_declaration_40 : decode cX7_declaration 40 = .ok (.aload_n 0, 1) := by decide +kernel
theorem dX7_declaration_41 : decode cX7_declaration 41 = .ok (.getfield 9, 3) := by decide +kernel
theorem dX7_declaration_44 : decode cX7_declaration 44 = .ok (.invokevirtual 49, 3) := by decide +kernel
theorem dX7_declaration_47 : decode cX7_declaration 47 = .ok (.aload_n 0, 1) := by decide +kernel
theorem dX7_declaration_48 : decode cX7_declaration 48 = .ok (.getfield 15, 3) := by decide +kernel
theorem dX7_declaration_51 : decode cX7_declaration 51 = .ok (.bipush 11, 2) := by decide +kernel
theorem dX7_declaration_53 : decode cX7_declaration 53 = .ok (.aload_n 0, 1) := by decide +kernel
theorem dX7_declaration_54 : decode cX7_declaration 54 = .ok (.getfield 9, 3) := by decide +kernel
theorem dX7_declaration_57 : decode cX7_declaration 57 = .ok (.invokevirtual 46, 3) := by decide +kernel
theorem dX7_declaration_60 : decode cX7_declaration 60 = .ok (.iload_n 1, 1) := by decide +kernel
theorem dX7_declaration_61 : decode cX7_declaration 61 = .ok (.invokevirtual 59, 3) := by decide +kernel
theorem dX7_declaration_64 : decode cX7_declaration 64 = .ok (.pop, 1) := by decide +kernel
theorem dX7_declaration_65 : decode cX7_declaration 65 = .ok (.aload_n 0, 1) := by decide +kernel
theorem dX7_declaration_66 : decode cX7_declaration 66 = .ok (.iconst 2, 1) := by decide +kernel
theorem dX7_declaration_67 : decode cX7_declaration 67 = .ok (.invokevirtual 38, 3) := by decide +kernel
theorem dX7_declaration_70 : decode cX7_declaration 70 = .ok (.ifCond .ne 4, 3) := by decide +kernel
theorem dX7_declaration_73 : decode cX7_declaration 73 = .ok (.return_, 1) := by decide +kernel
theorem dX7_declaration_74 : decode cX7_declaration 74 = .ok (.aload_n 0, 1) := by decide +kernel
theorem dX7_declaration_75 : decode cX7_declaration 75 = .ok (.getfield 9, 3) := by decide +kernel
theorem dX7_declaration_78 : decode cX7_declaration 78 = .ok (.invokevirtual 42, 3) := by decide +kernel
theorem dX7_declaration_81 : decode cX7_declaration 81 = .ok (.bipush 91, 2) := by decide +kernel
theorem dX7_declaration_83 : decode cX7_declaration 83 = .ok (.if_icmp .ne 52, 3) := by decide +kernel
theorem dX7_declaration_86 : decode cX7_declaration 86 = .ok (.aload_n 0, 1) := by decide +kernel
theorem dX7_declaration_87 : decode cX7_declaration 87 = .ok (.getfield 9, 3) := by decide +kernel
theorem dX7_declaration_90 : decode cX7_declaration 90 = .ok (.invokevirtual 49, 3) := by decide +kernel
theorem dX7_declaration_93 : decode cX7_declaration 93 = .ok (.aload_n 0, 1) := by decide +kernel
theorem dX7_declaration_94 : decode cX7_declaration 94 = .ok (.getfield 15, 3) := by decide +kernel
theorem dX7_declaration_97 : decode cX7_declaration 97 = .ok (.bipush 12, 2) := by decide +kernel
theorem dX7_declaration_99 : decode cX7_declaration 99 = .ok (.aload_n 0, 1) := by decide +kernel
theorem dX7_declaration_100 : decode cX7_declaration 100 = .ok (.getfield 9, 3) := by decide +kernel
theorem dX7_declaration_103 : decode cX7_declaration 103 = .ok (.invokevirtual 46, 3) := by decide +kernel
theorem dX7_declaration_106 : decode cX7_declaration 106 = .ok (.aload_n 0, 1) := by decide +kernel
theorem dX7_declaration_107 : decode cX7_declaration 107 = .ok (.getfield 9, 3) := by decide +kernel
theorem dX7_declaration_110 : decode cX7_declaration 110 = .ok (.invokevirtual 63, 3) := by decide +kernel
theorem dX7_declaration_113 : decode cX7_declaration 113 = .ok (.invokevirtual 59, 3) := by decide +kernel
theorem dX7_declaration_116 : decode cX7_declaration 116 = .ok (.pop, 1) := by decide +kernel
theorem dX7_declaration_117 : decode cX7_declaration 117 = .ok (.aload_n 0, 1) := by decide +kernel
theorem dX7_declaration_118 : decode cX7_declaration 118 = .ok (.iconst 3, 1) := by decide +kernel
theorem dX7_declaration_119 : decode cX7_declaration 119 = .ok (.invokevirtual 38, 3) := by decide +kernel
theorem dX7_declaration_122 : decode cX7_declaration 122 = .ok (.ifCond .eq 12, 3) := by decide +kernel
theorem dX7_declaration_125 : decode cX7_declaration 125 = .ok (.aload_n 0, 1) := by decide +kernel
theorem dX7_declaration_126 : decode cX7_declaration 126 = .ok (.bipush 93, 2) := by decide +kernel
theorem dX7_declaration_128 : decode cX7_declaration 128 = .ok (.invokevirtual 38, 3) := by decide +kernel
theorem dX7_declaration_131 : decode cX7_declaration 131 = .ok (.ifCond .ne 4, 3) := by decide +kernel
theorem dX7_declaration_134 : decode cX7_declaration 134 = .ok (.return_, 1) := by decide +kernel
theorem dX7_declaration_135 : decode cX7_declaration 135 = .ok (.aload_n 0, 1) := by decide +kernel
theorem dX7_declaration_136 : decode cX7_declaration 136 = .ok (.bipush 59, 2) := by decide +kernel
theorem dX7_declaration_138 : decode cX7_declaration 138 = .ok (.invokevirtual 38, 3) := by decide +kernel
theorem dX7_declaration_141 : decode cX7_declaration 141 = .ok (.pop, 1) := by decide +kernel
theorem dX7_declaration_142 : decode cX7_declaration 142 = .ok (.return_, 1) := by decide +kernel
theorem dX7_statements_0 : decode cX7_statements 0 = .ok (.iconst 0, 1) := by decide +kernel
theorem dX7_statements_1 : decode cX7_statements 1 = .ok (.istore_n 2, 1) := by decide +kernel
theorem dX7_statements_2 : decode cX7_statements 2 = .ok (.iload_n 2, 1) := by decide +kernel
theorem dX7_statements_3 : decode cX7_statements 3 = .ok (.sipush 3000, 3) := by decide +kernel
theorem dX7_statements_6 : decode cX7_statements 6 = .ok (.if_icmp .ge 45, 3) := by decide +kernel
theorem dX7_statements_9 : decode cX7_statements 9 = .ok (.aload_n 0, 1) := by decide +kernel
theorem dX7_statements_10 : decode cX7_statements 10 = .ok (.getfield 19, 3) := by decide +kernel
theorem dX7_statements_13 : decode cX7_statements 13 = .ok (.iconst (-1), 1) := by decide +kernel
theorem dX7_statements_14 : decode cX7_statements 14 = .ok (.if_icmp .ne 37, 3) := by decide +kernel
theorem dX7_statements_17 : decode cX7_statements 17 = .ok (.aload_n 0, 1) := by decide +kernel
theorem dX7_statements_18 : decode cX7_statements 18 = .ok (.getfield 9, 3) := by decide +kernel
theorem dX7_statements_21 : decode cX7_statements 21 = .ok (.invokevirtual 42, 3) := by decide +kernel
theorem dX7_statements_24 : decode cX7_statements 24 = .ok (.bipush 125, 2) := by decide +kernel
theorem dX7_statements_26 : decode cX7_statements 26 = .ok (.if_icmp .eq 13, 3) := by decide +kernel
theorem dX7_statements_29 : decode cX7_statements 29 = .ok (.aload_n 0, 1) := by decide +kernel
theorem dX7_statements_30 : decode cX7_statements 30 = .ok (.getfield 9, 3) := by decide +kernel
theorem dX7_statements_33 : decode cX7_statements 33 = .ok (.invokevirtual 42, 3) := by decide +kernel
theorem dX7_statements_36 : decode cX7_statements 36 = .ok (.ifCond .ne 4, 3) := by decide +kernel
theorem dX7_statements_39 : decode cX7_statements 39 = .ok (.return_, 1) := by decide +kernel
theorem dX7_statements_40 : decode cX7_statements 40 = .ok (.aload_n 0, 1) := by decide +kernel
theorem dX7_statements_41 : decode cX7_statements 41 = .ok (.iload_n 1, 1) := by decide +kernel
theorem dX7_statements_42 : decode cX7_statements 42 = .ok (.invokevirtual 66, 3) := by decide +kernel
theorem dX7_statements_45 : decode cX7_statements 45 = .ok (.iinc 2 1, 3) := by decide +kernel
theorem dX7_statements_48 : decode cX7_statements 48 = .ok (.goto (-46), 3) := by decide +kernel
theorem dX7_statements_51 : decode cX7_statements 51 = .ok (.return_, 1) := by decide +kernel
theorem dX7_statement_0 : decode cX7_statement 0 = .ok (.aload_n 0, 1) := by decide +kernel
theorem dX7_statement_1 : decode cX7_statement 1 = .ok (.getfield 9, 3) := by decide +kernel
theorem dX7_statement_4 : decode cX7_statement 4 = .ok (.invokevirtual 42, 3) := by decide +kernel
theorem dX7_statement_7 : decode cX7_statement 7 = .ok (.tableswitch 81 2 10 #[49, 81, 81, 81, 81, 73, 57, 81, 65], 49) := by decide +kernel
theorem dX7_statement_56 : decode cX7_statement 56 = .ok (.aload_n 0, 1) := by decide +kernel
theorem dX7_statement_57 : decode cX7_statement 57 = .ok (.iload_n 1, 1) := by decide +kernel
theorem dX7_statement_58 : decode cX7_statement 58 = .ok (.invokevirtual 69, 3) := by decide +kernel
theorem dX7_statement_61 : decode cX7_statement 61 = .ok (.goto 31, 3) := by decide +kernel
theorem dX7_statement_64 : decode cX7_statement 64 = .ok (.aload_n 0, 1) := by decide +kernel
theorem dX7_statement_65 : decode cX7_statement 65 = .ok (.iload_n 1, 1) := by decide +kernel
theorem dX7_statement_66 : decode cX7_statement 66 = .ok (.invokevirtual 72, 3) := by decide +kernel
theorem dX7_statement_69 : decode cX7_statement 69 = .ok (.goto 23, 3) := by decide +kernel
theorem dX7_statement_72 : decode cX7_statement 72 = .ok (.aload_n 0, 1) := by decide +kernel
theorem dX7_statement_73 : decode cX7_statement 73 = .ok (.iload_n 1, 1) := by decide +kernel
theorem dX7_statement_74 : decode cX7_statement 74 = .ok (.invokevirtual 75, 3) := by decide +kernel
theorem dX7_statement_77 : decode cX7_statement 77 = .ok (.goto 15, 3) := by decide +kernel
theorem dX7_statement_80 : decode cX7_statement 80 = .ok (.aload_n 0, 1) := by decide +kernel
theorem dX7_statement_81 : decode cX7_statement 81 = .ok (.iload_n 1, 1) := by decide +kernel
theorem dX7_statement_82 : decode cX7_statement 82 = .ok (.invokevirtual 78, 3) := by decide +kernel
theorem dX7_statement_85 : decode cX7_statement 85 = .ok (.goto 7, 3) := by decide +kernel
theorem dX7_statement_88 : decode cX7_statement 88 = .ok (.aload_n 0, 1) := by decide +kernel
theorem dX7_statement_89 : decode cX7_statement 89 = .ok (.invokevirtual 52, 3) := by decide +kernel
theorem dX7_statement_92 : decode cX7_statement 92 = .ok (.return_, 1) := by decide +kernel
theorem dX7_putStatement_0 : decode cX7_putStatement 0 = .ok (.aload_n 0, 1) := by decide +kernel
theorem dX7_putStatement_1 : decode cX7_putStatement 1 = .ok (.getfield 9, 3) := by decide +kernel
theorem dX7_putStatement_4 : decode cX7_putStatement 4 = .ok (.invokevirtual 46, 3) := by decide +kernel
theorem dX7_putStatement_7 : decode cX7_putStatement 7 = .ok (.istore_n 2, 1) := by decide +kernel
theorem dX7_putStatement_8 : decode cX7_putStatement 8 = .ok (.aload_n 0, 1) := by decide +kernel
theorem dX7_putStatement_9 : decode cX7_putStatement 9 = .ok (.getfield 15, 3) := by decide +kernel
theorem dX7_putStatement_12 : decode cX7_putStatement 12 = .ok (.bipush 13, 2) := by decide +kernel
theorem dX7_putStatement_14 : decode cX7_putStatement 14 = .ok (.iload_n 2, 1) := by decide +kernel
theorem dX7_putStatement_15 : decode cX7_putStatement 15 = .ok (.iconst (-1), 1) := by decide +kernel
theorem dX7_putStatement_16 : decode cX7_putStatement 16 = .ok (.invokevirtual 59, 3) := by decide +kernel
theorem dX7_putStatement_19 : decode cX7_putStatement 19 = .ok (.istore_n 3, 1) := by decide +kernel
theorem dX7_putStatement_20 : decode cX7_putStatement 20 = .ok (.aload_n 0, 1) := by decide +kernel
theorem dX7_putStatement_21 : decode cX7_putStatement 21 = .ok (.getfield 9, 3) := by decide +kernel
theorem dX7_putStatement_24 : decode cX7_putStatement 24 = .ok (.invokevirtual 49, 3) := by decide +kernel
theorem dX7_putStatement_27 : decode cX7_putStatement 27 = .ok (.aload_n 0, 1) := by decide +kernel
theorem dX7_putStatement_28 : decode cX7_putStatement 28 = .ok (.getfield 9, 3) := by decide +kernel
theorem dX7_putStatement_31 : decode cX7_putStatement 31 = .ok (.invokevirtual 42, 3) := by decide +kernel
theorem dX7_putStatement_34 : decode cX7_putStatement 34 = .ok (.bipush 91, 2) := by decide +kernel
theorem dX7_putStatement_36 : decode cX7_putStatement 36 = .ok (.if_icmp .ne 57, 3) := by decide +kernel
theorem dX7_putStatement_39 : decode cX7_putStatement 39 = .ok (.aload_n 0, 1) := by decide +kernel
theorem dX7_putStatement_40 : decode cX7_putStatement 40 = .ok (.getfield 9, 3) := by decide +kernel
theorem dX7_putStatement_43 : decode cX7_putStatement 43 = .ok (.invokevirtual 46, 3) := by decide +kernel
theorem dX7_putStatement_46 : decode cX7_putStatement 46 = .ok (.istore 4, 2) := by decide +kernel
theorem dX7_putStatement_48 : decode cX7_putStatement 48 = .ok (.aload_n 0, 1) := by decide +kernel
theorem dX7_putStatement_49 : decode cX7_putStatement 49 = .ok (.getfield 15, 3) := by decide +kernel
theorem dX7_putStatement_52 : decode cX7_putStatement 52 = .ok (.iload_n 3, 1) := by decide +kernel
theorem dX7_putStatement_53 : decode cX7_putStatement 53 = .ok (.bipush 14, 2) := by decide +kernel
theorem dX7_putStatement_55 : decode cX7_putStatement 55 = .ok (.invokevirtual 81, 3) := by decide +kernel
theorem dX7_putStatement_58 : decode cX7_putStatement 58 = .ok (.aload_n 0, 1) := by decide +kernel
theorem dX7_putStatement_59 : decode cX7_putStatement 59 = .ok (.getfield 9, 3) := by decide +kernel
theorem dX7_putStatement_62 : decode cX7_putStatement 62 = .ok (.invokevirtual 49, 3) := by decide +kernel
theorem dX7_putStatement_65 : decode cX7_putStatement 65 = .ok (.aload_n 0, 1) := by decide +kernel
theorem dX7_putStatement_66 : decode cX7_putStatement 66 = .ok (.iload_n 1, 1) := by decide +kernel
theorem dX7_putStatement_67 : decode cX7_putStatement 67 = .ok (.invokevirtual 85, 3) := by decide +kernel
theorem dX7_putStatement_70 : decode cX7_putStatement 70 = .ok (.aload_n 0, 1) := by decide +kernel
theorem dX7_putStatement_71 : decode cX7_putStatement 71 = .ok (.getfield 15, 3) := by decide +kernel
theorem dX7_putStatement_74 : decode cX7_putStatement 74 = .ok (.bipush 15, 2) := by decide +kernel
theorem dX7_putStatement_76 : decode cX7_putStatement 76 = .ok (.iload 4, 2) := by decide +kernel
theorem dX7_putStatement_78 : decode cX7_putStatement 78 = .ok (.iload_n 3, 1) := by decide +kernel
theorem dX7_putStatement_79 : decode cX7_putStatement 79 = .ok (.invokevirtual 59, 3) := by decide +kernel
theorem dX7_putStatement_82 : decode cX7_putStatement 82 = .ok (.pop, 1) := by decide +kernel
theorem dX7_putStatement_83 : decode cX7_putStatement 83 = .ok (.aload_n 0, 1) := by decide +kernel
theorem dX7_putStatement_84 : decode cX7_putStatement 84 = .ok (.bipush 93, 2) := by decide +kernel
theorem dX7_putStatement_86 : decode cX7_putStatement 86 = .ok (.invokevirtual 38, 3) := by decide +kernel
theorem dX7_putStatement_89 : decode cX7_putStatement 89 = .ok (.ifCond .ne 4, 3) := by decide +kernel
theorem dX7_putStatement_92 : decode cX7_putStatement 92 = .ok (.return_, 1) := by decide +kernel
theorem dX7_putStatement_93 : decode cX7_putStatement 93 = .ok (.aload_n 0, 1) := by decide +kernel
theorem dX7_putStatement_94 : decode cX7_putStatement 94 = .ok (.bipush 61, 2) := by decide +kernel
theorem dX7_putStatement_96 : decode cX7_putStatement 96 = .ok (.invokevirtual 38, 3) := by decide +kernel
theorem dX7_putStatement_99 : decode cX7_putStatement 99 = .ok (.ifCond .eq 27, 3) := by decide +kernel
theorem dX7_putStatement_102 : decode cX7_putStatement 102 = .ok (.aload_n 0, 1) := by decide +kernel
theorem dX7_putStatement_103 : decode cX7_putStatement 103 = .ok (.iload_n 1, 1) := by decide +kernel
theorem dX7_putStatement_104 : decode cX7_putStatement 104 = .ok (.invokevirtual 85, 3) := by decide +kernel
theorem dX7_putStatement_107 : decode cX7_putStatement 107 = .ok (.aload_n 0, 1) := by decide +kernel
theorem dX7_putStatement_108 : decode cX7_putStatement 108 = .ok (.getfield 15, 3) := by decide +kernel
theorem dX7_putStatement_111 : decode cX7_putStatement 111 = .ok (.bipush 16, 2) := by decide +kernel
theorem dX7_putStatement_113 : decode cX7_putStatement 113 = .ok (.iload_n 2, 1) := by decide +kernel
theorem dX7_putStatement_114 : decode cX7_putStatement 114 = .ok (.iload_n 3, 1) := by decide +kernel
theorem dX7_putStatement_115 : decode cX7_putStatement 115 = .ok (.invokevirtual 59, 3) := by decide +kernel
theorem dX7_putStatement_118 : decode cX7_putStatement 118 = .ok (.pop, 1) := by decide +kernel
theorem dX7_putStatement_119 : decode cX7_putStatement 119 = .ok (.aload_n 0, 1) := by decide +kernel
theorem dX7_putStatement_120 : decode cX7_putStatement 120 = .ok (.bipush 59, 2) := by decide +kernel
theorem dX7_putStatement_122 : decode cX7_putStatement 122 = .ok (.invokevirtual 38, 3) := by decide +kernel
theorem dX7_putStatement_125 : decode cX7_putStatement 125 = .ok (.pop, 1) := by decide +kernel
theorem dX7_putStatement_126 : decode cX7_putStatement 126 = .ok (.return_, 1) := by decide +kernel
theorem dX7_ifStatement_0 : decode cX7_ifStatement 0 = .ok (.aload_n 0, 1) := by decide +kernel
theorem dX7_ifStatement_1 : decode cX7_ifStatement 1 = .ok (.getfield 9, 3) := by decide +kernel
theorem dX7_ifStatement_4 : decode cX7_ifStatement 4 = .ok (.invokevirtual 46, 3) := by decide +kernel
theorem dX7_ifStatement_7 : decode cX7_ifStatement 7 = .ok (.istore_n 2, 1) := by decide +kernel
theorem dX7_ifStatement_8 : decode cX7_ifStatement 8 = .ok (.aload_n 0, 1) := by decide +kernel
theorem dX7_ifStatement_9 : decode cX7_ifStatement 9 = .ok (.getfield 15, 3) := by decide +kernel
theorem dX7_ifStatement_12 : decode cX7_ifStatement 12 = .ok (.bipush 17, 2) := by decide +kernel
theorem dX7_ifStatement_14 : decode cX7_ifStatement 14 = .ok (.iload_n 2, 1) := by decide +kernel
theorem dX7_ifStatement_15 : decode cX7_ifStatement 15 = .ok (.iconst (-1), 1) := by decide +kernel
theorem dX7_ifStatement_16 : decode cX7_ifStatement 16 = .ok (.invokevirtual 59, 3) := by decide +kernel
theorem dX7_ifStatement_19 : decode cX7_ifStatement 19 = .ok (.pop, 1) := by decide +kernel
theorem dX7_ifStatement_20 : decode cX7_ifStatement 20 = .ok (.aload_n 0, 1) := by decide +kernel
theorem dX7_ifStatement_21 : decode cX7_ifStatement 21 = .ok (.getfield 9, 3) := by decide +kernel
theorem dX7_ifStatement_24 : decode cX7_ifStatement 24 = .ok (.invokevirtual 49, 3) := by decide +kernel
theorem dX7_ifStatement_27 : decode cX7_ifStatement 27 = .ok (.aload_n 0, 1) := by decide +kernel
theorem dX7_ifStatement_28 : decode cX7_ifStatement 28 = .ok (.bipush 40, 2) := by decide +kernel
theorem dX7_ifStatement_30 : decode cX7_ifStatement 30 = .ok (.invokevirtual 38, 3) := by decide +kernel
theorem dX7_ifStatement_33 : decode cX7_ifStatement 33 = .ok (.ifCond .ne 4, 3) := by decide +kernel
theorem dX7_ifStatement_36 : decode cX7_ifStatement 36 = .ok (.return_, 1) := by decide +kernel
theorem dX7_ifStatement_37 : decode cX7_ifStatement 37 = .ok (.aload_n 0, 1) := by decide +kernel
theorem dX7_ifStatement_38 : decode cX7_ifStatement 38 = .ok (.iload_n 1, 1) := by decide +kernel
theorem dX7_ifStatement_39 : decode cX7_ifStatement 39 = .ok (.invokevirtual 85, 3) := by decide +kernel
theorem dX7_ifStatement_42 : decode cX7_ifStatement 42 = .ok (.aload_n 0, 1) := by decide +kernel
theorem dX7_ifStatement_43 : decode cX7_ifStatement 43 = .ok (.getfield 15, 3) := by decide +kernel
theorem dX7_ifStatement_46 : decode cX7_ifStatement 46 = .ok (.bipush 18, 2) := by decide +kernel
theorem dX7_ifStatement_48 : decode cX7_ifStatement 48 = .ok (.iload_n 2, 1) := by decide +kernel
theorem dX7_ifStatement_49 : decode cX7_ifStatement 49 = .ok (.iconst (-1), 1) := by decide +kernel
theorem dX7_ifStatement_50 : decode cX7_ifStatement 50 = .ok (.invokevirtual 59, 3) := by decide +kernel
theorem dX7_ifStatement_53 : decode cX7_ifStatement 53 = .ok (.istore_n 3, 1) := by decide +kernel
theorem dX7_ifStatement_54 : decode cX7_ifStatement 54 = .ok (.aload_n 0, 1) := by decide +kernel
theorem dX7_ifStatement_55 : decode cX7_ifStatement 55 = .ok (.bipush 41, 2) := by decide +kernel
theorem dX7_ifStatement_57 : decode cX7_ifStatement 57 = .ok (.invokevirtual 38, 3) := by decide +kernel
theorem dX7_ifStatement_60 : decode cX7_ifStatement 60 = .ok (.ifCond .ne 4, 3) := by decide +kernel
theorem dX7_ifStatement_63 : decode cX7_ifStatement 63 = .ok (.return_, 1) := by decide +kernel
theorem dX7_ifStatement_64 : decode cX7_ifStatement 64 = .ok (.aload_n 0, 1) := by decide +kernel
theorem dX7_ifStatement_65 : decode cX7_ifStatement 65 = .ok (.iload_n 1, 1) := by decide +kernel
theorem dX7_ifStatement_66 : decode cX7_ifStatement 66 = .ok (.invokevirtual 88, 3) := by decide +kernel
theorem dX7_ifStatement_69 : decode cX7_ifStatement 69 = .ok (.aload_n 0, 1) := by decide +kernel
theorem dX7_ifStatement_70 : decode cX7_ifStatement 70 = .ok (.getfield 19, 3) := by decide +kernel
theorem dX7_ifStatement_73 : decode cX7_ifStatement 73 = .ok (.iconst (-1), 1) := by decide +kernel
theorem dX7_ifStatement_74 : decode cX7_ifStatement 74 = .ok (.if_icmp .ne 52, 3) := by decide +kernel
theorem dX7_ifStatement_77 : decode cX7_ifStatement 77 = .ok (.aload_n 0, 1) := by decide +kernel
theorem dX7_ifStatement_78 : decode cX7_ifStatement 78 = .ok (.getfield 9, 3) := by decide +kernel
theorem dX7_ifStatement_81 : decode cX7_ifStatement 81 = .ok (.invokevirtual 42, 3) := by decide +kernel
theorem dX7_ifStatement_84 : decode cX7_ifStatement 84 = .ok (.bipush 9, 2) := by decide +kernel
theorem dX7_ifStatement_86 : decode cX7_ifStatement 86 = .ok (.if_icmp .ne 40, 3) := by decide +kernel
theorem dX7_ifStatement_89 : decode cX7_ifStatement 89 = .ok (.aload_n 0, 1) := by decide +kernel
theorem dX7_ifStatement_90 : decode cX7_ifStatement 90 = .ok (.getfield 15, 3) := by decide +kernel
theorem dX7_ifStatement_93 : decode cX7_ifStatement 93 = .ok (.iload_n 3, 1) := by decide +kernel
theorem dX7_ifStatement_94 : decode cX7_ifStatement 94 = .ok (.aload_n 0, 1) := by decide +kernel
theorem dX7_ifStatement_95 : decode cX7_ifStatement 95 = .ok (.getfield 15, 3) := by decide +kernel
theorem dX7_ifStatement_98 : decode cX7_ifStatement 98 = .ok (.bipush 19, 2) := by decide +kernel
theorem dX7_ifStatement_100 : decode cX7_ifStatement 100 = .ok (.aload_n 0, 1) := by decide +kernel
theorem dX7_ifStatement_101 : decode cX7_ifStatement 101 = .ok (.getfield 9, 3) := by decide +kernel
theorem dX7_ifStatement_104 : decode cX7_ifStatement 104 = .ok (.invokevirtual 46, 3) := by decide +kernel
theorem dX7_ifStatement_107 : decode cX7_ifStatement 107 = .ok (.iload_n 3, 1) := by decide +kernel
theorem dX7_ifStatement_108 : decode cX7_ifStatement 108 = .ok (.invokevirtual 59, 3) := by decide +kernel
theorem dX7_ifStatement_111 : decode cX7_ifStatement 111 = .ok (.invokevirtual 91, 3) := by decide +kernel
theorem dX7_ifStatement_114 : decode cX7_ifStatement 114 = .ok (.aload_n 0, 1) := by decide +kernel
theorem dX7_ifStatement_115 : decode cX7_ifStatement 115 = .ok (.getfield 9, 3) := by decide +kernel
theorem dX7_ifStatement_118 : decode cX7_ifStatement 118 = .ok (.invokevirtual 49, 3) := by decide +kernel
theorem dX7_ifStatement_121 : decode cX7_ifStatement 121 = .ok (.aload_n 0, 1) := by decide +kernel
theorem dX7_ifStatement_122 : decode cX7_ifStatement 122 = .ok (.iload_n 1, 1) := by decide +kernel
theorem dX7_ifStatement_123 : decode cX7_ifStatement 123 = .ok (.invokevirtual 88, 3) := by decide +kernel
theorem dX7_ifStatement_126 : decode cX7_ifStatement 126 = .ok (.aload_n 0, 1) := by decide +kernel
theorem dX7_ifStatement_127 : decode cX7_ifStatement 127 = .ok (.getfield 15, 3) := by decide +kernel
theorem dX7_ifStatement_130 : decode cX7_ifStatement 130 = .ok (.bipush 20, 2) := by decide +kernel
theorem dX7_ifStatement_132 : decode cX7_ifStatement 132 = .ok (.iload_n 2, 1) := by decide +kernel
theorem dX7_ifStatement_133 : decode cX7_ifStatement 133 = .ok (.iload_n 3, 1) := by decide +kernel
theorem dX7_ifStatement_134 : decode cX7_ifStatement 134 = .ok (.invokevirtual 59, 3) := by decide +kernel
theorem dX7_ifStatement_137 : decode cX7_ifStatement 137 = .ok (.pop, 1) := by decide +kernel
theorem dX7_ifStatement_138 : decode cX7_ifStatement 138 = .ok (.return_, 1) := by decide +kernel
theorem dX7_whileStatement_0 : decode cX7_whileStatement 0 = .ok (.aload_n 0, 1) := by decide +kernel
theorem dX7_whileStatement_1 : decode cX7_whileStatement 1 = .ok (.getfield 9, 3) := by decide +kernel
theorem dX7_whileStatement_4 : decode cX7_whileStatement 4 = .ok (.invokevirtual 46, 3) := by decide +kernel
theorem dX7_whileStatement_7 : decode cX7_whileStatement 7 = .ok (.istore_n 2, 1) := by decide +kernel
theorem dX7_whileStatement_8 : decode cX7_whileStatement 8 = .ok (.aload_n 0, 1) := by decide +kernel
theorem dX7_whileStatement_9 : decode cX7_whileStatement 9 = .ok (.getfield 15, 3) := by decide +kernel
theorem dX7_whileStatement_12 : decode cX7_whileStatement 12 = .ok (.bipush 21, 2) := by decide +kernel
theorem dX7_whileStatement_14 : decode cX7_whileStatement 14 = .ok (.iload_n 2, 1) := by decide +kernel
theorem dX7_whileStatement_15 : decode cX7_whileStatement 15 = .ok (.iconst (-1), 1) := by decide +kernel
theorem dX7_whileStatement_16 : decode cX7_whileStatement 16 = .ok (.invokevirtual 59, 3) := by decide +kernel
theorem dX7_whileStatement_19 : decode cX7_whileStatement 19 = .ok (.pop, 1) := by decide +kernel
theorem dX7_whileStatement_20 : decode cX7_whileStatement 20 = .ok (.aload_n 0, 1) := by decide +kernel
theorem dX7_whileStatement_21 : decode cX7_whileStatement 21 = .ok (.getfield 15, 3) := by decide +kernel
theorem dX7_whileStatement_24 : decode cX7_whileStatement 24 = .ok (.bipush 22, 2) := by decide +kernel
theorem dX7_whileStatement_26 : decode cX7_whileStatement 26 = .ok (.iload_n 2, 1) := by decide +kernel
theorem dX7_whileStatement_27 : decode cX7_whileStatement 27 = .ok (.iconst (-1), 1) := by decide +kernel
theorem dX7_whileStatement_28 : decode cX7_whileStatement 28 = .ok (.invokevirtual 59, 3) := by decide +kernel
theorem dX7_whileStatement_31 : decode cX7_whileStatement 31 = .ok (.istore_n 3, 1) := by decide +kernel
theorem dX7_whileStatement_32 : decode cX7_whileStatement 32 = .ok (.aload_n 0, 1) := by decide +kernel
theorem dX7_whileStatement_33 : decode cX7_whileStatement 33 = .ok (.getfield 9, 3) := by decide +kernel
theorem dX7_whileStatement_36 : decode cX7_whileStatement 36 = .ok (.invokevirtual 49, 3) := by decide +kernel
theorem dX7_whileStatement_39 : decode cX7_whileStatement 39 = .ok (.aload_n 0, 1) := by decide +kernel
theorem dX7_whileStatement_40 : decode cX7_whileStatement 40 = .ok (.bipush 40, 2) := by decide +kernel
theorem dX7_whileStatement_42 : decode cX7_whileStatement 42 = .ok (.invokevirtual 38, 3) := by decide +kernel
theorem dX7_whileStatement_45 : decode cX7_whileStatement 45 = .ok (.ifCond .ne 4, 3) := by decide +kernel
theorem dX7_whileStatement_48 : decode cX7_whileStatement 48 = .ok (.return_, 1) := by decide +kernel
theorem dX7_whileStatement_49 : decode cX7_whileStatement 49 = .ok (.aload_n 0, 1) := by decide +kernel
theorem dX7_whileStatement_50 : decode cX7_whileStatement 50 = .ok (.iload_n 1, 1) := by decide +kernel
theorem dX7_whileStatement_51 : decode cX7_whileStatement 51 = .ok (.invokevirtual 85, 3) := by decide +kernel
theorem dX7_whileStatement_54 : decode cX7_whileStatement 54 = .ok (.aload_n 0, 1) := by decide +kernel
theorem dX7_whileStatement_55 : decode cX7_whileStatement 55 = .ok (.getfield 15, 3) := by decide +kernel
theorem dX7_whileStatement_58 : decode cX7_whileStatement 58 = .ok (.bipush 23, 2) := by decide +kernel
theorem dX7_whileStatement_60 : decode cX7_whileStatement 60 = .ok (.iload_n 2, 1) := by decide +kernel
theorem dX7_whileStatement_61 : decode cX7_whileStatement 61 = .ok (.iload_n 3, 1) := by decide +kernel
theorem dX7_whileStatement_62 : decode cX7_whileStatement 62 = .ok (.invokevirtual 59, 3) := by decide +kernel
theorem dX7_whileStatement_65 : decode cX7_whileStatement 65 = .ok (.istore 4, 2) := by decide +kernel
theorem dX7_whileStatement_67 : decode cX7_whileStatement 67 = .ok (.aload_n 0, 1) := by decide +kernel
theorem dX7_whileStatement_68 : decode cX7_whileStatement 68 = .ok (.bipush 41, 2) := by decide +kernel
theorem dX7_whileStatement_70 : decode cX7_whileStatement 70 = .ok (.invokevirtual 38, 3) := by decide +kernel
theorem dX7_whileStatement_73 : decode cX7_whileStatement 73 = .ok (.ifCond .ne 4, 3) := by decide +kernel
theorem dX7_whileStatement_76 : decode cX7_whileStatement 76 = .ok (.return_, 1) := by decide +kernel
theorem dX7_whileStatement_77 : decode cX7_whileStatement 77 = .ok (.aload_n 0, 1) := by decide +kernel
theorem dX7_whileStatement_78 : decode cX7_whileStatement 78 = .ok (.iload_n 1, 1) := by decide +kernel
theorem dX7_whileStatement_79 : decode cX7_whileStatement 79 = .ok (.invokevirtual 88, 3) := by decide +kernel
theorem dX7_whileStatement_82 : decode cX7_whileStatement 82 = .ok (.aload_n 0, 1) := by decide +kernel
theorem dX7_whileStatement_83 : decode cX7_whileStatement 83 = .ok (.getfield 15, 3) := by decide +kernel
theorem dX7_whileStatement_86 : decode cX7_whileStatement 86 = .ok (.bipush 24, 2) := by decide +kernel
theorem dX7_whileStatement_88 : decode cX7_whileStatement 88 = .ok (.iload_n 2, 1) := by decide +kernel
theorem dX7_whileStatement_89 : decode cX7_whileStatement 89 = .ok (.iload 4, 2) := by decide +kernel
theorem dX7_whileStatement_91 : decode cX7_whileStatement 91 = .ok (.invokevirtual 59, 3) := by decide +kernel
theorem dX7_whileStatement_94 : decode cX7_whileStatement 94 = .ok (.pop, 1) := by decide +kernel
theorem dX7_whileStatement_95 : decode cX7_whileStatement 95 = .ok (.return_, 1) := by decide +kernel
theorem dX7_outStatement_0 : decode cX7_outStatement 0 = .ok (.aload_n 0, 1) := by decide +kernel
theorem dX7_outStatement_1 : decode cX7_outStatement 1 = .ok (.getfield 9, 3) := by decide +kernel
theorem dX7_outStatement_4 : decode cX7_outStatement 4 = .ok (.invokevirtual 46, 3) := by decide +kernel
theorem dX7_outStatement_7 : decode cX7_outStatement 7 = .ok (.istore_n 2, 1) := by decide +kernel
theorem dX7_outStatement_8 : decode cX7_outStatement 8 = .ok (.aload_n 0, 1) := by decide +kernel
theorem dX7_outStatement_9 : decode cX7_outStatement 9 = .ok (.getfield 15, 3) := by decide +kernel
theorem dX7_outStatement_12 : decode cX7_outStatement 12 = .ok (.bipush 25, 2) := by decide +kernel
theorem dX7_outStatement_14 : decode cX7_outStatement 14 = .ok (.iload_n 2, 1) := by decide +kernel
theorem dX7_outStatement_15 : decode cX7_outStatement 15 = .ok (.iconst (-1), 1) := by decide +kernel
theorem dX7_outStatement_16 : decode cX7_outStatement 16 = .ok (.invokevirtual 59, 3) := by decide +kernel
theorem dX7_outStatement_19 : decode cX7_outStatement 19 = .ok (.pop, 1) := by decide +kernel
theorem dX7_outStatement_20 : decode cX7_outStatement 20 = .ok (.aload_n 0, 1) := by decide +kernel
theorem dX7_outStatement_21 : decode cX7_outStatement 21 = .ok (.getfield 9, 3) := by decide +kernel
theorem dX7_outStatement_24 : decode cX7_outStatement 24 = .ok (.invokevirtual 49, 3) := by decide +kernel
theorem dX7_outStatement_27 : decode cX7_outStatement 27 = .ok (.aload_n 0, 1) := by decide +kernel
theorem dX7_outStatement_28 : decode cX7_outStatement 28 = .ok (.iload_n 1, 1) := by decide +kernel
theorem dX7_outStatement_29 : decode cX7_outStatement 29 = .ok (.invokevirtual 85, 3) := by decide +kernel
theorem dX7_outStatement_32 : decode cX7_outStatement 32 = .ok (.aload_n 0, 1) := by decide +kernel
theorem dX7_outStatement_33 : decode cX7_outStatement 33 = .ok (.getfield 15, 3) := by decide +kernel
theorem dX7_outStatement_36 : decode cX7_outStatement 36 = .ok (.bipush 26, 2) := by decide +kernel
theorem dX7_outStatement_38 : decode cX7_outStatement 38 = .ok (.iload_n 2, 1) := by decide +kernel
theorem dX7_outStatement_39 : decode cX7_outStatement 39 = .ok (.iconst (-1), 1) := by decide +kernel
theorem dX7_outStatement_40 : decode cX7_outStatement 40 = .ok (.invokevirtual 59, 3) := by decide +kernel
theorem dX7_outStatement_43 : decode cX7_outStatement 43 = .ok (.pop, 1) := by decide +kernel
theorem dX7_outStatement_44 : decode cX7_outStatement 44 = .ok (.aload_n 0, 1) := by decide +kernel
theorem dX7_outStatement_45 : decode cX7_outStatement 45 = .ok (.bipush 59, 2) := by decide +kernel
theorem dX7_outStatement_47 : decode cX7_outStatement 47 = .ok (.invokevirtual 38, 3) := by decide +kernel
theorem dX7_outStatement_50 : decode cX7_outStatement 50 = .ok (.pop, 1) := by decide +kernel
theorem dX7_outStatement_51 : decode cX7_outStatement 51 = .ok (.return_, 1) := by decide +kernel
theorem dX7_block_0 : decode cX7_block 0 = .ok (.iload_n 1, 1) := by decide +kernel
theorem dX7_block_1 : decode cX7_block 1 = .ok (.bipush 30, 2) := by decide +kernel
theorem dX7_block_3 : decode cX7_block 3 = .ok (.if_icmp .le 7, 3) := by decide +kernel
theorem dX7_block_6 : decode cX7_block 6 = .ok (.aload_n 0, 1) := by decide +kernel
theorem dX7_block_7 : decode cX7_block 7 = .ok (.invokevirtual 52, 3) := by decide +kernel
theorem dX7_block_10 : decode cX7_block 10 = .ok (.aload_n 0, 1) := by decide +kernel
theorem dX7_block_11 : decode cX7_block 11 = .ok (.bipush 123, 2) := by decide +kernel
theorem dX7_block_13 : decode cX7_block 13 = .ok (.invokevirtual 38, 3) := by decide +kernel
theorem dX7_block_16 : decode cX7_block 16 = .ok (.ifCond .eq 17, 3) := by decide +kernel
theorem dX7_block_19 : decode cX7_block 19 = .ok (.aload_n 0, 1) := by decide +kernel
theorem dX7_block_20 : decode cX7_block 20 = .ok (.iload_n 1, 1) := by decide +kernel
theorem dX7_block_21 : decode cX7_block 21 = .ok (.iconst 1, 1) := by decide +kernel
theorem dX7_block_22 : decode cX7_block 22 = .ok (.iadd, 1) := by decide +kernel
theorem dX7_block_23 : decode cX7_block 23 = .ok (.invokevirtual 32, 3) := by decide +kernel
theorem dX7_block_26 : decode cX7_block 26 = .ok (.aload_n 0, 1) := by decide +kernel
theorem dX7_block_27 : decode cX7_block 27 = .ok (.bipush 125, 2) := by decide +kernel
theorem dX7_block_29 : decode cX7_block 29 = .ok (.invokevirtual 38, 3) := by decide +kernel
theorem dX7_block_32 : decode cX7_block 32 = .ok (.pop, 1) := by decide +kernel
theorem dX7_block_33 : decode cX7_block 33 = .ok (.return_, 1) := by decide +kernel
theorem dX7_expression_0 : decode cX7_expression 0 = .ok (.iload_n 1, 1) := by decide +kernel
theorem dX7_expression_1 : decode cX7_expression 1 = .ok (.bipush 30, 2) := by decide +kernel
theorem dX7_expression_3 : decode cX7_expression 3 = .ok (.if_icmp .le 7, 3) := by decide +kernel
theorem dX7_expression_6 : decode cX7_expression 6 = .ok (.aload_n 0, 1) := by decide +kernel
theorem dX7_expression_7 : decode cX7_expression 7 = .ok (.invokevirtual 52, 3) := by decide +kernel
theorem dX7_expression_10 : decode cX7_expression 10 = .ok (.aload_n 0, 1) := by decide +kernel
theorem dX7_expression_11 : decode cX7_expression 11 = .ok (.iconst 0, 1) := by decide +kernel
theorem dX7_expression_12 : decode cX7_expression 12 = .ok (.iload_n 1, 1) := by decide +kernel
theorem dX7_expression_13 : decode cX7_expression 13 = .ok (.invokevirtual 94, 3) := by decide +kernel
theorem dX7_expression_16 : decode cX7_expression 16 = .ok (.return_, 1) := by decide +kernel
theorem dX7_parts_0 : decode cX7_parts 0 = .ok (.aload_n 0, 1) := by decide +kernel
theorem dX7_parts_1 : decode cX7_parts 1 = .ok (.iload_n 2, 1) := by decide +kernel
theorem dX7_parts_2 : decode cX7_parts 2 = .ok (.iconst 1, 1) := by decide +kernel
theorem dX7_parts_3 : decode cX7_parts 3 = .ok (.iadd, 1) := by decide +kernel
theorem dX7_parts_4 : decode cX7_parts 4 = .ok (.invokevirtual 97, 3) := by decide +kernel
theorem dX7_parts_7 : decode cX7_parts 7 = .ok (.iconst 0, 1) := by decide +kernel
theorem dX7_parts_8 : decode cX7_parts 8 = .ok (.istore_n 3, 1) := by decide +kernel
theorem dX7_parts_9 : decode cX7_parts 9 = .ok (.iload_n 3, 1) := by decide +kernel
theorem dX7_parts_10 : decode cX7_parts 10 = .ok (.sipush 3000, 3) := by decide +kernel
theorem dX7_parts_13 : decode cX7_parts 13 = .ok (.if_icmp .ge 76, 3) := by decide +kernel
theorem dX7_parts_16 : decode cX7_parts 16 = .ok (.aload_n 0, 1) := by decide +kernel
theorem dX7_parts_17 : decode cX7_parts 17 = .ok (.getfield 19, 3) := by decide +kernel
theorem dX7_parts_20 : decode cX7_parts 20 = .ok (.iconst (-1), 1) := by decide +kernel
theorem dX7_parts_21 : decode cX7_parts 21 = .ok (.if_icmp .ne 68, 3) := by decide +kernel
theorem dX7_parts_24 : decode cX7_parts 24 = .ok (.aload_n 0, 1) := by decide +kernel
theorem dX7_parts_25 : decode cX7_parts 25 = .ok (.getfield 9, 3) := by decide +kernel
theorem dX7_parts_28 : decode cX7_parts 28 = .ok (.invokevirtual 42, 3) := by decide +kernel
theorem dX7_parts_31 : decode cX7_parts 31 = .ok (.istore 4, 2) := by decide +kernel
theorem dX7_parts_33 : decode cX7_parts 33 = .ok (.aload_n 0, 1) := by decide +kernel
theorem dX7_parts_34 : decode cX7_parts 34 = .ok (.getfield 9, 3) := by decide +kernel
theorem dX7_parts_37 : decode cX7_parts 37 = .ok (.invokevirtual 46, 3) := by decide +kernel
theorem dX7_parts_40 : decode cX7_parts 40 = .ok (.istore 5, 2) := by decide +kernel
theorem dX7_parts_42 : decode cX7_parts 42 = .ok (.iload 4, 2) := by decide +kernel
theorem dX7_parts_44 : decode cX7_parts 44 = .ok (.invokestatic 100, 3) := by decide +kernel
theorem dX7_parts_47 : decode cX7_parts 47 = .ok (.istore 6, 2) := by decide +kernel
theorem dX7_parts_49 : decode cX7_parts 49 = .ok (.iload 6, 2) := by decide +kernel
theorem dX7_parts_51 : decode cX7_parts 51 = .ok (.iload_n 1, 1) := by decide +kernel
theorem dX7_parts_52 : decode cX7_parts 52 = .ok (.if_icmp .ge 4, 3) := by decide +kernel
theorem dX7_parts_55 : decode cX7_parts 55 = .ok (.return_, 1) := by decide +kernel
theorem dX7_parts_56 : decode cX7_parts 56 = .ok (.aload_n 0, 1) := by decide +kernel
theorem dX7_parts_57 : decode cX7_parts 57 = .ok (.getfield 9, 3) := by decide +kernel
theorem dX7_parts_60 : decode cX7_parts 60 = .ok (.invokevirtual 49, 3) := by decide +kernel
theorem dX7_parts_63 : decode cX7_parts 63 = .ok (.aload_n 0, 1) := by decide +kernel
theorem dX7_parts_64 : decode cX7_parts 64 = .ok (.iload 6, 2) := by decide +kernel
theorem dX7_parts_66 : decode cX7_parts 66 = .ok (.iconst 1, 1) := by decide +kernel
theorem dX7_parts_67 : decode cX7_parts 67 = .ok (.iadd, 1) := by decide +kernel
theorem dX7_parts_68 : decode cX7_parts 68 = .ok (.iload_n 2, 1) := by decide +kernel
theorem dX7_parts_69 : decode cX7_parts 69 = .ok (.invokevirtual 94, 3) := by decide +kernel
theorem dX7_parts_72 : decode cX7_parts 72 = .ok (.aload_n 0, 1) := by decide +kernel
theorem dX7_parts_73 : decode cX7_parts 73 = .ok (.getfield 15, 3) := by decide +kernel
theorem dX7_parts_76 : decode cX7_parts 76 = .ok (.iload 4, 2) := by decide +kernel
theorem dX7_parts_78 : decode cX7_parts 78 = .ok (.iload 5, 2) := by decide +kernel
theorem dX7_parts_80 : decode cX7_parts 80 = .ok (.invokevirtual 104, 3) := by decide +kernel
theorem dX7_parts_83 : decode cX7_parts 83 = .ok (.iinc 3 1, 3) := by decide +kernel
theorem dX7_parts_86 : decode cX7_parts 86 = .ok (.goto (-77), 3) := by decide +kernel
theorem dX7_parts_89 : decode cX7_parts 89 = .ok (.return_, 1) := by decide +kernel
theorem dX7_unary_0 : decode cX7_unary 0 = .ok (.iload_n 1, 1) := by decide +kernel
theorem dX7_unary_1 : decode cX7_unary 1 = .ok (.bipush 30, 2) := by decide +kernel
theorem dX7_unary_3 : decode cX7_unary 3 = .ok (.if_icmp .le 7, 3) := by decide +kernel
theorem dX7_unary_6 : decode cX7_unary 6 = .ok (.aload_n 0, 1) := by decide +kernel
theorem dX7_unary_7 : decode cX7_unary 7 = .ok (.invokevirtual 52, 3) := by decide +kernel
theorem dX7_unary_10 : decode cX7_unary 10 = .ok (.aload_n 0, 1) := by decide +kernel
theorem dX7_unary_11 : decode cX7_unary 11 = .ok (.getfield 19, 3) := by decide +kernel
theorem dX7_unary_14 : decode cX7_unary 14 = .ok (.iconst (-1), 1) := by decide +kernel
theorem dX7_unary_15 : decode cX7_unary 15 = .ok (.if_icmp .eq 4, 3) := by decide +kernel
theorem dX7_unary_18 : decode cX7_unary 18 = .ok (.return_, 1) := by decide +kernel
theorem dX7_unary_19 : decode cX7_unary 19 = .ok (.aload_n 0, 1) := by decide +kernel
theorem dX7_unary_20 : decode cX7_unary 20 = .ok (.getfield 9, 3) := by decide +kernel
theorem dX7_unary_23 : decode cX7_unary 23 = .ok (.invokevirtual 46, 3) := by decide +kernel
theorem dX7_unary_26 : decode cX7_unary 26 = .ok (.istore_n 2, 1) := by decide +kernel
theorem dX7_unary_27 : decode cX7_unary 27 = .ok (.aload_n 0, 1) := by decide +kernel
theorem dX7_unary_28 : decode cX7_unary 28 = .ok (.getfield 9, 3) := by decide +kernel
theorem dX7_unary_31 : decode cX7_unary 31 = .ok (.invokevirtual 42, 3) := by decide +kernel
theorem dX7_unary_34 : decode cX7_unary 34 = .ok (.istore_n 3, 1) := by decide +kernel
theorem dX7_unary_35 : decode cX7_unary 35 = .ok (.iload_n 3, 1) := by decide +kernel
theorem dX7_unary_36 : decode cX7_unary 36 = .ok (.lookupswitch 165 #[(2, 149), (3, 122), (33, 60), (40, 98), (45, 60), (126, 60)], 60) := by decide +kernel
theorem dX7_unary_96 : decode cX7_unary 96 = .ok (.aload_n 0, 1) := by decide +kernel
theorem dX7_unary_97 : decode cX7_unary 97 = .ok (.getfield 9, 3) := by decide +kernel
theorem dX7_unary_100 : decode cX7_unary 100 = .ok (.invokevirtual 49, 3) := by decide +kernel
theorem dX7_unary_103 : decode cX7_unary 103 = .ok (.aload_n 0, 1) := by decide +kernel
theorem dX7_unary_104 : decode cX7_unary 104 = .ok (.iload_n 1, 1) := by decide +kernel
theorem dX7_unary_105 : decode cX7_unary 105 = .ok (.iconst 1, 1) := by decide +kernel
theorem dX7_unary_106 : decode cX7_unary 106 = .ok (.iadd, 1) := by decide +kernel
theorem dX7_unary_107 : decode cX7_unary 107 = .ok (.invokevirtual 97, 3) := by decide +kernel
theorem dX7_unary_110 : decode cX7_unary 110 = .ok (.aload_n 0, 1) := by decide +kernel
theorem dX7_unary_111 : decode cX7_unary 111 = .ok (.getfield 15, 3) := by decide +kernel
theorem dX7_unary_114 : decode cX7_unary 114 = .ok (.iload_n 3, 1) := by decide +kernel
theorem dX7_unary_115 : decode cX7_unary 115 = .ok (.bipush 45, 2) := by decide +kernel
theorem dX7_unary_117 : decode cX7_unary 117 = .ok (.if_icmp .ne 8, 3) := by decide +kernel
theorem dX7_unary_120 : decode cX7_unary 120 = .ok (.bipush 29, 2) := by decide +kernel
theorem dX7_unary_122 : decode cX7_unary 122 = .ok (.goto 4, 3) := by decide +kernel
theorem dX7_unary_125 : decode cX7_unary 125 = .ok (.iload_n 3, 1) := by decide +kernel
theorem dX7_unary_126 : decode cX7_unary 126 = .ok (.iload_n 2, 1) := by decide +kernel
theorem dX7_unary_127 : decode cX7_unary 127 = .ok (.iconst (-1), 1) := by decide +kernel
theorem dX7_unary_128 : decode cX7_unary 128 = .ok (.invokevirtual 107, 3) := by decide +kernel
theorem dX7_unary_131 : decode cX7_unary 131 = .ok (.goto 74, 3) := by decide +kernel
theorem dX7_unary_134 : decode cX7_unary 134 = .ok (.aload_n 0, 1) := by decide +kernel
theorem dX7_unary_135 : decode cX7_unary 135 = .ok (.getfield 9, 3) := by decide +kernel
theorem dX7_unary_138 : decode cX7_unary 138 = .ok (.invokevirtual 49, 3) := by decide +kernel
theorem dX7_unary_141 : decode cX7_unary 141 = .ok (.aload_n 0, 1) := by decide +kernel
theorem dX7_unary_142 : decode cX7_unary 142 = .ok (.iload_n 1, 1) := by decide +kernel
theorem dX7_unary_143 : decode cX7_unary 143 = .ok (.iconst 1, 1) := by decide +kernel
theorem dX7_unary_144 : decode cX7_unary 144 = .ok (.iadd, 1) := by decide +kernel
theorem dX7_unary_145 : decode cX7_unary 145 = .ok (.invokevirtual 85, 3) := by decide +kernel
theorem dX7_unary_148 : decode cX7_unary 148 = .ok (.aload_n 0, 1) := by decide +kernel
theorem dX7_unary_149 : decode cX7_unary 149 = .ok (.bipush 41, 2) := by decide +kernel
theorem dX7_unary_151 : decode cX7_unary 151 = .ok (.invokevirtual 38, 3) := by decide +kernel
theorem dX7_unary_154 : decode cX7_unary 154 = .ok (.pop, 1) := by decide +kernel
theorem dX7_unary_155 : decode cX7_unary 155 = .ok (.goto 50, 3) := by decide +kernel
theorem dX7_unary_158 : decode cX7_unary 158 = .ok (.aload_n 0, 1) := by decide +kernel
theorem dX7_unary_159 : decode cX7_unary 159 = .ok (.getfield 15, 3) := by decide +kernel
theorem dX7_unary_162 : decode cX7_unary 162 = .ok (.iconst 3, 1) := by decide +kernel
theorem dX7_unary_163 : decode cX7_unary 163 = .ok (.iload_n 2, 1) := by decide +kernel
theorem dX7_unary_164 : decode cX7_unary 164 = .ok (.aload_n 0, 1) := by decide +kernel
theorem dX7_unary_165 : decode cX7_unary 165 = .ok (.getfield 9, 3) := by decide +kernel
theorem dX7_unary_168 : decode cX7_unary 168 = .ok (.invokevirtual 63, 3) := by decide +kernel
theorem dX7_unary_171 : decode cX7_unary 171 = .ok (.invokevirtual 59, 3) := by decide +kernel
theorem dX7_unary_174 : decode cX7_unary 174 = .ok (.pop, 1) := by decide +kernel
theorem dX7_unary_175 : decode cX7_unary 175 = .ok (.aload_n 0, 1) := by decide +kernel
theorem dX7_unary_176 : decode cX7_unary 176 = .ok (.getfield 9, 3) := by decide +kernel
theorem dX7_unary_179 : decode cX7_unary 179 = .ok (.invokevirtual 49, 3) := by decide +kernel
theorem dX7_unary_182 : decode cX7_unary 182 = .ok (.goto 23, 3) := by decide +kernel
theorem dX7_unary_185 : decode cX7_unary 185 = .ok (.aload_n 0, 1) := by decide +kernel
theorem dX7_unary_186 : decode cX7_unary 186 = .ok (.getfield 9, 3) := by decide +kernel
theorem dX7_unary_189 : decode cX7_unary 189 = .ok (.invokevirtual 49, 3) := by decide +kernel
theorem dX7_unary_192 : decode cX7_unary 192 = .ok (.aload_n 0, 1) := by decide +kernel
theorem dX7_unary_193 : decode cX7_unary 193 = .ok (.iload_n 2, 1) := by decide +kernel
theorem dX7_unary_194 : decode cX7_unary 194 = .ok (.iload_n 1, 1) := by decide +kernel
theorem dX7_unary_195 : decode cX7_unary 195 = .ok (.invokevirtual 111, 3) := by decide +kernel
theorem dX7_unary_198 : decode cX7_unary 198 = .ok (.goto 7, 3) := by decide +kernel
theorem dX7_unary_201 : decode cX7_unary 201 = .ok (.aload_n 0, 1) := by decide +kernel
theorem dX7_unary_202 : decode cX7_unary 202 = .ok (.invokevirtual 52, 3) := by decide +kernel
theorem dX7_unary_205 : decode cX7_unary 205 = .ok (.return_, 1) := by decide +kernel
theorem dX7_nameOrItem_0 : decode cX7_nameOrItem 0 = .ok (.aload_n 0, 1) := by decide +kernel
theorem dX7_nameOrItem_1 : decode cX7_nameOrItem 1 = .ok (.getfield 9, 3) := by decide +kernel
theorem dX7_nameOrItem_4 : decode cX7_nameOrItem 4 = .ok (.invokevirtual 42, 3) := by decide +kernel
theorem dX7_nameOrItem_7 : decode cX7_nameOrItem 7 = .ok (.bipush 91, 2) := by decide +kernel
theorem dX7_nameOrItem_9 : decode cX7_nameOrItem 9 = .ok (.if_icmp .eq 15, 3) := by decide +kernel
theorem dX7_nameOrItem_12 : decode cX7_nameOrItem 12 = .ok (.aload_n 0, 1) := by decide +kernel
theorem dX7_nameOrItem_13 : decode cX7_nameOrItem 13 = .ok (.getfield 15, 3) := by decide +kernel
theorem dX7_nameOrItem_16 : decode cX7_nameOrItem 16 = .ok (.iconst 2, 1) := by decide +kernel
theorem dX7_nameOrItem_17 : decode cX7_nameOrItem 17 = .ok (.iload_n 1, 1) := by decide +kernel
theorem dX7_nameOrItem_18 : decode cX7_nameOrItem 18 = .ok (.iconst (-1), 1) := by decide +kernel
theorem dX7_nameOrItem_19 : decode cX7_nameOrItem 19 = .ok (.invokevirtual 59, 3) := by decide +kernel
theorem dX7_nameOrItem_22 : decode cX7_nameOrItem 22 = .ok (.pop, 1) := by decide +kernel
theorem dX7_nameOrItem_23 : decode cX7_nameOrItem 23 = .ok (.return_, 1) := by decide +kernel
theorem dX7_nameOrItem_24 : decode cX7_nameOrItem 24 = .ok (.aload_n 0, 1) := by decide +kernel
theorem dX7_nameOrItem_25 : decode cX7_nameOrItem 25 = .ok (.getfield 9, 3) := by decide +kernel
theorem dX7_nameOrItem_28 : decode cX7_nameOrItem 28 = .ok (.invokevirtual 46, 3) := by decide +kernel
theorem dX7_nameOrItem_31 : decode cX7_nameOrItem 31 = .ok (.istore_n 3, 1) := by decide +kernel
theorem dX7_nameOrItem_32 : decode cX7_nameOrItem 32 = .ok (.aload_n 0, 1) := by decide +kernel
theorem dX7_nameOrItem_33 : decode cX7_nameOrItem 33 = .ok (.getfield 15, 3) := by decide +kernel
theorem dX7_nameOrItem_36 : decode cX7_nameOrItem 36 = .ok (.bipush 27, 2) := by decide +kernel
theorem dX7_nameOrItem_38 : decode cX7_nameOrItem 38 = .ok (.iload_n 1, 1) := by decide +kernel
theorem dX7_nameOrItem_39 : decode cX7_nameOrItem 39 = .ok (.iload_n 3, 1) := by decide +kernel
theorem dX7_nameOrItem_40 : decode cX7_nameOrItem 40 = .ok (.invokevirtual 59, 3) := by decide +kernel
theorem dX7_nameOrItem_43 : decode cX7_nameOrItem 43 = .ok (.istore 4, 2) := by decide +kernel
theorem dX7_nameOrItem_45 : decode cX7_nameOrItem 45 = .ok (.aload_n 0, 1) := by decide +kernel
theorem dX7_nameOrItem_46 : decode cX7_nameOrItem 46 = .ok (.getfield 9, 3) := by decide +kernel
theorem dX7_nameOrItem_49 : decode cX7_nameOrItem 49 = .ok (.invokevirtual 49, 3) := by decide +kernel
theorem dX7_nameOrItem_52 : decode cX7_nameOrItem 52 = .ok (.aload_n 0, 1) := by decide +kernel
theorem dX7_nameOrItem_53 : decode cX7_nameOrItem 53 = .ok (.iload_n 2, 1) := by decide +kernel
theorem dX7_nameOrItem_54 : decode cX7_nameOrItem 54 = .ok (.iconst 1, 1) := by decide +kernel
theorem dX7_nameOrItem_55 : decode cX7_nameOrItem 55 = .ok (.iadd, 1) := by decide +kernel
theorem dX7_nameOrItem_56 : decode cX7_nameOrItem 56 = .ok (.invokevirtual 85, 3) := by decide +kernel
theorem dX7_nameOrItem_59 : decode cX7_nameOrItem 59 = .ok (.aload_n 0, 1) := by decide +kernel
theorem dX7_nameOrItem_60 : decode cX7_nameOrItem 60 = .ok (.getfield 15, 3) := by decide +kernel
theorem dX7_nameOrItem_63 : decode cX7_nameOrItem 63 = .ok (.bipush 28, 2) := by decide +kernel
theorem dX7_nameOrItem_65 : decode cX7_nameOrItem 65 = .ok (.iload_n 3, 1) := by decide +kernel
theorem dX7_nameOrItem_66 : decode cX7_nameOrItem 66 = .ok (.iload 4, 2) := by decide +kernel
theorem dX7_nameOrItem_68 : decode cX7_nameOrItem 68 = .ok (.invokevirtual 107, 3) := by decide +kernel
theorem dX7_nameOrItem_71 : decode cX7_nameOrItem 71 = .ok (.aload_n 0, 1) := by decide +kernel
theorem dX7_nameOrItem_72 : decode cX7_nameOrItem 72 = .ok (.bipush 93, 2) := by decide +kernel
theorem dX7_nameOrItem_74 : decode cX7_nameOrItem 74 = .ok (.invokevirtual 38, 3) := by decide +kernel
theorem dX7_nameOrItem_77 : decode cX7_nameOrItem 77 = .ok (.pop, 1) := by decide +kernel
theorem dX7_nameOrItem_78 : decode cX7_nameOrItem 78 = .ok (.return_, 1) := by decide +kernel
abbrev MX7_atLevel : aw_M := (yX7_atLevel, cX7_atLevel, 1, (some .boolean))
theorem codX7_atLevel : Cond.code yX7_atLevel cX7_atLevel 1 (some .boolean) ∈ aw_T := aw_in 700 (by decide +kernel) rfl
theorem iniX7 : Cond.initialized RX7 ∈ aw_T := aw_in 119 (by decide +kernel) rfl
theorem insX7_atLevel : Cond.instanceMethod yX7_atLevel ∈ aw_T := aw_in 699 (by decide +kernel) rfl
theorem selX7_atLevel : Cond.selects RX7 yX7_atLevel yX7_atLevel ∈ aw_T := aw_in 4 (by decide +kernel) rfl
abbrev MX7_block : aw_M := (yX7_block, cX7_block, 2, none)
theorem codX7_block : Cond.code yX7_block cX7_block 2 none ∈ aw_T := aw_in 794 (by decide +kernel) rfl
theorem insX7_block : Cond.instanceMethod yX7_block ∈ aw_T := aw_in 793 (by decide +kernel) rfl
theorem selX7_block : Cond.selects RX7 yX7_block yX7_block ∈ aw_T := aw_in 16 (by decide +kernel) rfl
abbrev MX7_declaration : aw_M := (yX7_declaration, cX7_declaration, 2, none)
theorem codX7_declaration : Cond.code yX7_declaration cX7_declaration 2 none ∈ aw_T := aw_in 708 (by decide +kernel) rfl
theorem insX7_declaration : Cond.instanceMethod yX7_declaration ∈ aw_T := aw_in 707 (by decide +kernel) rfl
theorem selX7_declaration : Cond.selects RX7 yX7_declaration yX7_declaration ∈ aw_T := aw_in 5 (by decide +kernel) rfl
abbrev MX7_expression : aw_M := (yX7_expression, cX7_expression, 2, none)
theorem codX7_expression : Cond.code yX7_expression cX7_expression 2 none ∈ aw_T := aw_in 757 (by decide +kernel) rfl
theorem insX7_expression : Cond.instanceMethod yX7_expression ∈ aw_T := aw_in 756 (by decide +kernel) rfl
theorem selX7_expression : Cond.selects RX7 yX7_expression yX7_expression ∈ aw_T := aw_in 11 (by decide +kernel) rfl
abbrev MX7_fail : aw_M := (yX7_fail, cX7_fail, 1, none)
theorem codX7_fail : Cond.code yX7_fail cX7_fail 1 none ∈ aw_T := aw_in 729 (by decide +kernel) rfl
theorem insX7_fail : Cond.instanceMethod yX7_fail ∈ aw_T := aw_in 728 (by decide +kernel) rfl
theorem selX7_fail : Cond.selects RX7 yX7_fail yX7_fail ∈ aw_T := aw_in 7 (by decide +kernel) rfl
abbrev MX7_ifStatement : aw_M := (yX7_ifStatement, cX7_ifStatement, 4, none)
theorem codX7_ifStatement : Cond.code yX7_ifStatement cX7_ifStatement 4 none ∈ aw_T := aw_in 790 (by decide +kernel) rfl
theorem insX7_ifStatement : Cond.instanceMethod yX7_ifStatement ∈ aw_T := aw_in 789 (by decide +kernel) rfl
theorem selX7_ifStatement : Cond.selects RX7 yX7_ifStatement yX7_ifStatement ∈ aw_T := aw_in 15 (by decide +kernel) rfl
abbrev MX7_nameOrItem : aw_M := (yX7_nameOrItem, cX7_nameOrItem, 5, none)
theorem codX7_nameOrItem : Cond.code yX7_nameOrItem cX7_nameOrItem 5 none ∈ aw_T := aw_in 774 (by decide +kernel) rfl
theorem insX7_nameOrItem : Cond.instanceMethod yX7_nameOrItem ∈ aw_T := aw_in 773 (by decide +kernel) rfl
theorem selX7_nameOrItem : Cond.selects RX7 yX7_nameOrItem yX7_nameOrItem ∈ aw_T := aw_in 14 (by decide +kernel) rfl
abbrev MX7_outStatement : aw_M := (yX7_outStatement, cX7_outStatement, 3, none)
theorem codX7_outStatement : Cond.code yX7_outStatement cX7_outStatement 3 none ∈ aw_T := aw_in 806 (by decide +kernel) rfl
theorem insX7_outStatement : Cond.instanceMethod yX7_outStatement ∈ aw_T := aw_in 805 (by decide +kernel) rfl
theorem selX7_outStatement : Cond.selects RX7 yX7_outStatement yX7_outStatement ∈ aw_T := aw_in 18 (by decide +kernel) rfl
abbrev MX7_parts : aw_M := (yX7_parts, cX7_parts, 7, none)
theorem codX7_parts : Cond.code yX7_parts cX7_parts 7 none ∈ aw_T := aw_in 761 (by decide +kernel) rfl
theorem insX7_parts : Cond.instanceMethod yX7_parts ∈ aw_T := aw_in 760 (by decide +kernel) rfl
theorem selX7_parts : Cond.selects RX7 yX7_parts yX7_parts ∈ aw_T := aw_in 12 (by decide +kernel) rfl
abbrev MX7_putStatement : aw_M := (yX7_putStatement, cX7_putStatement, 5, none)
theorem codX7_putStatement : Cond.code yX7_putStatement cX7_putStatement 5 none ∈ aw_T := aw_in 745 (by decide +kernel) rfl
theorem insX7_putStatement : Cond.instanceMethod yX7_putStatement ∈ aw_T := aw_in 744 (by decide +kernel) rfl
theorem selX7_putStatement : Cond.selects RX7 yX7_putStatement yX7_putStatement ∈ aw_T := aw_in 10 (by decide +kernel) rfl
abbrev MX7_read : aw_M := (yX7_read, cX7_read, 2, (some .int))
theorem codX7_read : Cond.code yX7_read cX7_read 2 (some .int) ∈ aw_T := aw_in 696 (by decide +kernel) rfl
theorem insX7_read : Cond.instanceMethod yX7_read ∈ aw_T := aw_in 694 (by decide +kernel) rfl
theorem selX7_read : Cond.selects RX7 yX7_read yX7_read ∈ aw_T := aw_in 695 (by decide +kernel) rfl
abbrev MX7_statement : aw_M := (yX7_statement, cX7_statement, 2, none)
theorem codX7_statement : Cond.code yX7_statement cX7_statement 2 none ∈ aw_T := aw_in 741 (by decide +kernel) rfl
theorem insX7_statement : Cond.instanceMethod yX7_statement ∈ aw_T := aw_in 740 (by decide +kernel) rfl
theorem selX7_statement : Cond.selects RX7 yX7_statement yX7_statement ∈ aw_T := aw_in 9 (by decide +kernel) rfl
abbrev MX7_statements : aw_M := (yX7_statements, cX7_statements, 3, none)
theorem codX7_statements : Cond.code yX7_statements cX7_statements 3 none ∈ aw_T := aw_in 737 (by decide +kernel) rfl
theorem insX7_statements : Cond.instanceMethod yX7_statements ∈ aw_T := aw_in 736 (by decide +kernel) rfl
theorem selX7_statements : Cond.selects RX7 yX7_statements yX7_statements ∈ aw_T := aw_in 8 (by decide +kernel) rfl
abbrev MX7_take : aw_M := (yX7_take, cX7_take, 2, (some .boolean))
theorem codX7_take : Cond.code yX7_take cX7_take 2 (some .boolean) ∈ aw_T := aw_in 725 (by decide +kernel) rfl
theorem insX7_take : Cond.instanceMethod yX7_take ∈ aw_T := aw_in 724 (by decide +kernel) rfl
theorem selX7_take : Cond.selects RX7 yX7_take yX7_take ∈ aw_T := aw_in 6 (by decide +kernel) rfl
abbrev MX7_unary : aw_M := (yX7_unary, cX7_unary, 4, none)
theorem codX7_unary : Cond.code yX7_unary cX7_unary 4 none ∈ aw_T := aw_in 765 (by decide +kernel) rfl
theorem insX7_unary : Cond.instanceMethod yX7_unary ∈ aw_T := aw_in 764 (by decide +kernel) rfl
theorem selX7_unary : Cond.selects RX7 yX7_unary yX7_unary ∈ aw_T := aw_in 13 (by decide +kernel) rfl
abbrev MX7_whileStatement : aw_M := (yX7_whileStatement, cX7_whileStatement, 5, none)
theorem codX7_whileStatement : Cond.code yX7_whileStatement cX7_whileStatement 5 none ∈ aw_T := aw_in 802 (by decide +kernel) rfl
theorem insX7_whileStatement : Cond.instanceMethod yX7_whileStatement ∈ aw_T := aw_in 801 (by decide +kernel) rfl
theorem selX7_whileStatement : Cond.selects RX7 yX7_whileStatement yX7_whileStatement ∈ aw_T := aw_in 17 (by decide +kernel) rfl
theorem hX7_w : ∀ w ∈ u_ws RX7 TX7 3, w ∈ aw_T := by
  show ∀ w ∈ [u_lay RX7 TX7 0, u_lay RX7 TX7 1, u_lay RX7 TX7 2], w ∈ aw_T
  exact List.forall_mem_cons.mpr ⟨aw_in 308 (by decide +kernel) rfl, List.forall_mem_cons.mpr ⟨aw_in 310 (by decide +kernel) rfl, List.forall_mem_cons.mpr ⟨aw_in 312 (by decide +kernel) rfl, fun _ h => absurd h List.not_mem_nil⟩⟩⟩
theorem hX7 : aw_C 7 RX7 TX7 3 tyX7 := ⟨rfl, hX7_w, tyX7_ok, nmX7⟩
theorem fX7_15 : aw_F RX7 15 7 1 (.object "QuietDesk$Nodes") true := aw_F.of hX7 1 (by decide) (aw_in 306 (by decide +kernel) rfl) rfl rfl rfl
theorem fX7_19 : aw_F RX7 19 7 2 .int false := aw_F.of hX7 2 (by decide) (aw_in 307 (by decide +kernel) rfl) rfl rfl rfl
theorem fX7_9 : aw_F RX7 9 7 0 (.object "QuietDesk$Tokens") true := aw_F.of hX7 0 (by decide) (aw_in 305 (by decide +kernel) rfl) rfl rfl rfl
theorem lX7_100 : aw_L RX7 100 MX4_level 1 := ⟨aw_in 775 (by decide +kernel) rfl, iniX4, codX4_level, ⟨by decide, by decide, by decide +kernel⟩, by decide⟩
theorem lX7_104 : aw_L RX7 104 MX4_addPair 2 := ⟨aw_in 778 (by decide +kernel) rfl, iniX4, codX4_addPair, ⟨by decide, by decide, by decide +kernel⟩, by decide⟩
theorem lX7_107 : aw_L RX7 107 MX4_addAround 3 := ⟨aw_in 766 (by decide +kernel) rfl, iniX4, codX4_addAround, ⟨by decide, by decide, by decide +kernel⟩, by decide⟩
theorem lX7_111 : aw_L RX7 111 MX7_nameOrItem 2 := ⟨aw_in 771 (by decide +kernel) rfl, iniX7, codX7_nameOrItem, ⟨by decide, by decide, by decide +kernel⟩, by decide⟩
theorem lX7_25 : aw_L RX7 25 MX7_atLevel 0 := ⟨aw_in 697 (by decide +kernel) rfl, iniX7, codX7_atLevel, ⟨by decide, by decide, by decide +kernel⟩, by decide⟩
theorem lX7_29 : aw_L RX7 29 MX7_declaration 0 := ⟨aw_in 705 (by decide +kernel) rfl, iniX7, codX7_declaration, ⟨by decide, by decide, by decide +kernel⟩, by decide⟩
theorem lX7_32 : aw_L RX7 32 MX7_statements 1 := ⟨aw_in 734 (by decide +kernel) rfl, iniX7, codX7_statements, ⟨by decide, by decide, by decide +kernel⟩, by decide⟩
theorem lX7_38 : aw_L RX7 38 MX7_take 1 := ⟨aw_in 722 (by decide +kernel) rfl, iniX7, codX7_take, ⟨by decide, by decide, by decide +kernel⟩, by decide⟩
theorem lX7_42 : aw_L RX7 42 MX9_kind 0 := ⟨aw_in 701 (by decide +kernel) rfl, iniX9, codX9_kind, ⟨by decide, by decide, by decide +kernel⟩, by decide⟩
theorem lX7_46 : aw_L RX7 46 MX9_place 0 := ⟨aw_in 714 (by decide +kernel) rfl, iniX9, codX9_place, ⟨by decide, by decide, by decide +kernel⟩, by decide⟩
theorem lX7_49 : aw_L RX7 49 MX9_next 0 := ⟨aw_in 709 (by decide +kernel) rfl, iniX9, codX9_next, ⟨by decide, by decide, by decide +kernel⟩, by decide⟩
theorem lX7_52 : aw_L RX7 52 MX7_fail 0 := ⟨aw_in 726 (by decide +kernel) rfl, iniX7, codX7_fail, ⟨by decide, by decide, by decide +kernel⟩, by decide⟩
theorem lX7_59 : aw_L RX7 59 MX4_add 3 := ⟨aw_in 718 (by decide +kernel) rfl, iniX4, codX4_add, ⟨by decide, by decide, by decide +kernel⟩, by decide⟩
theorem lX7_63 : aw_L RX7 63 MX9_number 0 := ⟨aw_in 730 (by decide +kernel) rfl, iniX9, codX9_number, ⟨by decide, by decide, by decide +kernel⟩, by decide⟩
theorem lX7_66 : aw_L RX7 66 MX7_statement 1 := ⟨aw_in 738 (by decide +kernel) rfl, iniX7, codX7_statement, ⟨by decide, by decide, by decide +kernel⟩, by decide⟩
theorem lX7_69 : aw_L RX7 69 MX7_putStatement 1 := ⟨aw_in 742 (by decide +kernel) rfl, iniX7, codX7_putStatement, ⟨by decide, by decide, by decide +kernel⟩, by decide⟩
theorem lX7_72 : aw_L RX7 72 MX7_ifStatement 1 := ⟨aw_in 787 (by decide +kernel) rfl, iniX7, codX7_ifStatement, ⟨by decide, by decide, by decide +kernel⟩, by decide⟩
theorem lX7_75 : aw_L RX7 75 MX7_whileStatement 1 := ⟨aw_in 799 (by decide +kernel) rfl, iniX7, codX7_whileStatement, ⟨by decide, by decide, by decide +kernel⟩, by decide⟩
theorem lX7_78 : aw_L RX7 78 MX7_outStatement 1 := ⟨aw_in 803 (by decide +kernel) rfl, iniX7, codX7_outStatement, ⟨by decide, by decide, by decide +kernel⟩, by decide⟩
theorem lX7_81 : aw_L RX7 81 MX4_turnInto 2 := ⟨aw_in 746 (by decide +kernel) rfl, iniX4, codX4_turnInto, ⟨by decide, by decide, by decide +kernel⟩, by decide⟩
theorem lX7_85 : aw_L RX7 85 MX7_expression 1 := ⟨aw_in 754 (by decide +kernel) rfl, iniX7, codX7_expression, ⟨by decide, by decide, by decide +kernel⟩, by decide⟩
theorem lX7_88 : aw_L RX7 88 MX7_block 1 := ⟨aw_in 791 (by decide +kernel) rfl, iniX7, codX7_block, ⟨by decide, by decide, by decide +kernel⟩, by decide⟩
theorem lX7_91 : aw_L RX7 91 MX4_keepValue 2 := ⟨aw_in 795 (by decide +kernel) rfl, iniX4, codX4_keepValue, ⟨by decide, by decide, by decide +kernel⟩, by decide⟩
theorem lX7_94 : aw_L RX7 94 MX7_parts 2 := ⟨aw_in 758 (by decide +kernel) rfl, iniX7, codX7_parts, ⟨by decide, by decide, by decide +kernel⟩, by decide⟩
theorem lX7_97 : aw_L RX7 97 MX7_unary 1 := ⟨aw_in 762 (by decide +kernel) rfl, iniX7, codX7_unary, ⟨by decide, by decide, by decide +kernel⟩, by decide⟩
