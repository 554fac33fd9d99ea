theorem dX8_hasRoom_0 : decode cX8_hasRoom 0 = .ok (.aload_n 0, 1) := by decide +kernel
theorem dX8_hasRoom_1 : decode cX8_hasRoom 1 = .ok (.getfield 15, 3) := by decide +kernel
theorem dX8_hasRoom_4 : decode cX8_hasRoom 4 = .ok (.sipush 2980, 3) := by decide +kernel
theorem dX8_hasRoom_7 : decode cX8_hasRoom 7 = .ok (.if_icmp .gt 7, 3) := by decide +kernel
theorem dX8_hasRoom_10 : decode cX8_hasRoom 10 = .ok (.iconst 1, 1) := by decide +kernel
theorem dX8_hasRoom_11 : decode cX8_hasRoom 11 = .ok (.goto 4, 3) := by decide +kernel
theorem dX8_hasRoom_14 : decode cX8_hasRoom 14 = .ok (.iconst 0, 1) := by decide +kernel
theorem dX8_hasRoom_15 : decode cX8_hasRoom 15 = .ok (.ireturn, 1) := by decide +kernel
theorem dX8_add_0 : decode cX8_add 0 = .ok (.bipush 24, 2) := by decide +kernel
theorem dX8_add_2 : decode cX8_add 2 = .ok (.istore_n 2, 1) := by decide +kernel
theorem dX8_add_3 : decode cX8_add 3 = .ok (.iload_n 2, 1) := by decide +kernel
theorem dX8_add_4 : decode cX8_add 4 = .ok (.ifCond .lt 49, 3) := by decide +kernel
theorem dX8_add_7 : decode cX8_add 7 = .ok (.aload_n 0, 1) := by decide +kernel
theorem dX8_add_8 : decode cX8_add 8 = .ok (.getfield 15, 3) := by decide +kernel
theorem dX8_add_11 : decode cX8_add 11 = .ok (.ifCond .lt 36, 3) := by decide +kernel
theorem dX8_add_14 : decode cX8_add 14 = .ok (.aload_n 0, 1) := by decide +kernel
theorem dX8_add_15 : decode cX8_add 15 = .ok (.getfield 15, 3) := by decide +kernel
theorem dX8_add_18 : decode cX8_add 18 = .ok (.sipush 3000, 3) := by decide +kernel
theorem dX8_add_21 : decode cX8_add 21 = .ok (.if_icmp .ge 26, 3) := by decide +kernel
theorem dX8_add_24 : decode cX8_add 24 = .ok (.aload_n 0, 1) := by decide +kernel
theorem dX8_add_25 : decode cX8_add 25 = .ok (.getfield 11, 3) := by decide +kernel
theorem dX8_add_28 : decode cX8_add 28 = .ok (.aload_n 0, 1) := by decide +kernel
theorem dX8_add_29 : decode cX8_add 29 = .ok (.getfield 15, 3) := by decide +kernel
theorem dX8_add_32 : decode cX8_add 32 = .ok (.iload_n 1, 1) := by decide +kernel
theorem dX8_add_33 : decode cX8_add 33 = .ok (.iload_n 2, 1) := by decide +kernel
theorem dX8_add_34 : decode cX8_add 34 = .ok (.ishr, 1) := by decide +kernel
theorem dX8_add_35 : decode cX8_add 35 = .ok (.i2b, 1) := by decide +kernel
theorem dX8_add_36 : decode cX8_add 36 = .ok (.bastore, 1) := by decide +kernel
theorem dX8_add_37 : decode cX8_add 37 = .ok (.aload_n 0, 1) := by decide +kernel
theorem dX8_add_38 : decode cX8_add 38 = .ok (.dup, 1) := by decide +kernel
theorem dX8_add_39 : decode cX8_add 39 = .ok (.getfield 15, 3) := by decide +kernel
theorem dX8_add_42 : decode cX8_add 42 = .ok (.iconst 1, 1) := by decide +kernel
theorem dX8_add_43 : decode cX8_add 43 = .ok (.iadd, 1) := by decide +kernel
theorem dX8_add_44 : decode cX8_add 44 = .ok (.putfield 15, 3) := by decide +kernel
theorem dX8_add_47 : decode cX8_add 47 = .ok (.iinc 2 (-8), 3) := by decide +kernel
theorem dX8_add_50 : decode cX8_add 50 = .ok (.goto (-47), 3) := by decide +kernel
theorem dX8_add_53 : decode cX8_add 53 = .ok (.return_, 1) := by decide +kernel
theorem dX8_fed_0 : decode cX8_fed 0 = .ok (.aload_n 0, 1) := by decide +kernel
theorem dX8_fed_1 : decode cX8_fed 1 = .ok (.getfield 15, 3) := by decide +kernel
theorem dX8_fed_4 : decode cX8_fed 4 = .ok (.ireturn, 1) := by decide +kernel
theorem dX8_cut_0 : decode cX8_cut 0 = .ok (.aload_n 0, 1) := by decide +kernel
theorem dX8_cut_1 : decode cX8_cut 1 = .ok (.iconst 0, 1) := by decide +kernel
theorem dX8_cut_2 : decode cX8_cut 2 = .ok (.iload_n 1, 1) := by decide +kernel
theorem dX8_cut_3 : decode cX8_cut 3 = .ok (.aload_n 0, 1) := by decide +kernel
theorem dX8_cut_4 : decode cX8_cut 4 = .ok (.getfield 15, 3) := by decide +kernel
theorem dX8_cut_7 : decode cX8_cut 7 = .ok (.invokestatic 19, 3) := by decide +kernel
theorem dX8_cut_10 : decode cX8_cut 10 = .ok (.invokestatic 25, 3) := by decide +kernel
theorem dX8_cut_13 : decode cX8_cut 13 = .ok (.putfield 15, 3) := by decide +kernel
theorem dX8_cut_16 : decode cX8_cut 16 = .ok (.return_, 1) := by decide +kernel
theorem dX8_empty_0 : decode cX8_empty 0 = .ok (.aload_n 0, 1) := by decide +kernel
theorem dX8_empty_1 : decode cX8_empty 1 = .ok (.iconst 0, 1) := by decide +kernel
theorem dX8_empty_2 : decode cX8_empty 2 = .ok (.putfield 15, 3) := by decide +kernel
theorem dX8_empty_5 : decode cX8_empty 5 = .ok (.return_, 1) := by decide +kernel
theorem dX8_at_0 : decode cX8_at 0 = .ok (.iload_n 1, 1) := by decide +kernel
theorem dX8_at_1 : decode cX8_at 1 = .ok (.ifCond .lt 18, 3) := by decide +kernel
theorem dX8_at_4 : decode cX8_at 4 = .ok (.iload_n 1, 1) := by decide +kernel
theorem dX8_at_5 : decode cX8_at 5 = .ok (.aload_n 0, 1) := by decide +kernel
theorem dX8_at_6 : decode cX8_at 6 = .ok (.getfield 15, 3) := by decide +kernel
theorem dX8_at_9 : decode cX8_at 9 = .ok (.if_icmp .ge 10, 3) := by decide +kernel
theorem dX8_at_12 : decode cX8_at 12 = .ok (.iload_n 1, 1) := by decide +kernel
theorem dX8_at_13 : decode cX8_at 13 = .ok (.sipush 3000, 3) := by decide +kernel
theorem dX8_at_16 : decode cX8_at 16 = .ok (.if_icmp .lt 7, 3) := by decide +kernel
theorem dX8_at_19 : decode cX8_at 19 = .ok (.iconst (-1), 1) := by decide +kernel
theorem dX8_at_20 : decode cX8_at 20 = .ok (.goto 13, 3) := by decide +kernel
theorem dX8_at_23 : decode cX8_at 23 = .ok (.aload_n 0, 1) := by decide +kernel
theorem dX8_at_24 : decode cX8_at 24 = .ok (.getfield 11, 3) := by decide +kernel
theorem dX8_at_27 : decode cX8_at 27 = .ok (.iload_n 1, 1) := by decide +kernel
theorem dX8_at_28 : decode cX8_at 28 = .ok (.baload, 1) := by decide +kernel
theorem dX8_at_29 : decode cX8_at 29 = .ok (.sipush 255, 3) := by decide +kernel
theorem dX8_at_32 : decode cX8_at 32 = .ok (.iand, 1) := by decide +kernel
theorem dX8_at_33 : decode cX8_at 33 = .ok (.ireturn, 1) := by decide +kernel
theorem dX8_afterBlanks_0 : decode cX8_afterBlanks 0 = .ok (.iload_n 1, 1) := by decide +kernel
theorem dX8_afterBlanks_1 : decode cX8_afterBlanks 1 = .ok (.istore_n 2, 1) := by decide +kernel
theorem dX8_afterBlanks_2 : decode cX8_afterBlanks 2 = .ok (.iload_n 2, 1) := by decide +kernel
theorem dX8_afterBlanks_3 : decode cX8_afterBlanks 3 = .ok (.aload_n 0, 1) := by decide +kernel
theorem dX8_afterBlanks_4 : decode cX8_afterBlanks 4 = .ok (.getfield 15, 3) := by decide +kernel
theorem dX8_afterBlanks_7 : decode cX8_afterBlanks 7 = .ok (.if_icmp .ge 20, 3) := by decide +kernel
theorem dX8_afterBlanks_10 : decode cX8_afterBlanks 10 = .ok (.aload_n 0, 1) := by decide +kernel
theorem dX8_afterBlanks_11 : decode cX8_afterBlanks 11 = .ok (.iload_n 2, 1) := by decide +kernel
theorem dX8_afterBlanks_12 : decode cX8_afterBlanks 12 = .ok (.invokevirtual 28, 3) := by decide +kernel
theorem dX8_afterBlanks_15 : decode cX8_afterBlanks 15 = .ok (.invokestatic 32, 3) := by decide +kernel
theorem dX8_afterBlanks_18 : decode cX8_afterBlanks 18 = .ok (.ifCond .eq 9, 3) := by decide +kernel
theorem dX8_afterBlanks_21 : decode cX8_afterBlanks 21 = .ok (.iinc 2 1, 3) := by decide +kernel
theorem dX8_afterBlanks_24 : decode cX8_afterBlanks 24 = .ok (.goto (-22), 3) := by decide +kernel
theorem dX8_afterBlanks_27 : decode cX8_afterBlanks 27 = .ok (.iload_n 2, 1) := by decide +kernel
theorem dX8_afterBlanks_28 : decode cX8_afterBlanks 28 = .ok (.ireturn, 1) := by decide +kernel
theorem dX8_afterDigits_0 : decode cX8_afterDigits 0 = .ok (.iload_n 1, 1) := by decide +kernel
theorem dX8_afterDigits_1 : decode cX8_afterDigits 1 = .ok (.istore_n 2, 1) := by decide +kernel
theorem dX8_afterDigits_2 : decode cX8_afterDigits 2 = .ok (.iload_n 2, 1) := by decide +kernel
theorem dX8_afterDigits_3 : decode cX8_afterDigits 3 = .ok (.aload_n 0, 1) := by decide +kernel
theorem dX8_afterDigits_4 : decode cX8_afterDigits 4 = .ok (.getfield 15, 3) := by decide +kernel
theorem dX8_afterDigits_7 : decode cX8_afterDigits 7 = .ok (.if_icmp .ge 20, 3) := by decide +kernel
theorem dX8_afterDigits_10 : decode cX8_afterDigits 10 = .ok (.aload_n 0, 1) := by decide +kernel
theorem dX8_afterDigits_11 : decode cX8_afterDigits 11 = .ok (.iload_n 2, 1) := by decide +kernel
theorem dX8_afterDigits_12 : decode cX8_afterDigits 12 = .ok (.invokevirtual 28, 3) := by decide +kernel
theorem dX8_afterDigits_15 : decode cX8_afterDigits 15 = .ok (.invokestatic 36, 3) := by decide +kernel
theorem dX8_afterDigits_18 : decode cX8_afterDigits 18 = .ok (.ifCond .eq 9, 3) := by decide +kernel
theorem dX8_afterDigits_21 : decode cX8_afterDigits 21 = .ok (.iinc 2 1, 3) := by decide +kernel
theorem dX8_afterDigits_24 : decode cX8_afterDigits 24 = .ok (.goto (-22), 3) := by decide +kernel
theorem dX8_afterDigits_27 : decode cX8_afterDigits 27 = .ok (.iload_n 2, 1) := by decide +kernel
theorem dX8_afterDigits_28 : decode cX8_afterDigits 28 = .ok (.ireturn, 1) := by decide +kernel
theorem dX8_afterName_0 : decode cX8_afterName 0 = .ok (.iload_n 1, 1) := by decide +kernel
theorem dX8_afterName_1 : decode cX8_afterName 1 = .ok (.istore_n 2, 1) := by decide +kernel
theorem dX8_afterName_2 : decode cX8_afterName 2 = .ok (.iload_n 2, 1) := by decide +kernel
theorem dX8_afterName_3 : decode cX8_afterName 3 = .ok (.aload_n 0, 1) := by decide +kernel
theorem dX8_afterName_4 : decode cX8_afterName 4 = .ok (.getfield 15, 3) := by decide +kernel
theorem dX8_afterName_7 : decode cX8_afterName 7 = .ok (.if_icmp .ge 20, 3) := by decide +kernel
theorem dX8_afterName_10 : decode cX8_afterName 10 = .ok (.aload_n 0, 1) := by decide +kernel
theorem dX8_afterName_11 : decode cX8_afterName 11 = .ok (.iload_n 2, 1) := by decide +kernel
theorem dX8_afterName_12 : decode cX8_afterName 12 = .ok (.invokevirtual 28, 3) := by decide +kernel
theorem dX8_afterName_15 : decode cX8_afterName 15 = .ok (.invokestatic 39, 3) := by decide +kernel
theorem dX8_afterName_18 : decode cX8_afterName 18 = .ok (.ifCond .eq 9, 3) := by decide +kernel
theorem dX8_afterName_21 : decode cX8_afterName 21 = .ok (.iinc 2 1, 3) := by decide +kernel
theorem dX8_afterName_24 : decode cX8_afterName 24 = .ok (.goto (-22), 3) := by decide +kernel
theorem dX8_afterName_27 : decode cX8_afterName 27 = .ok (.iload_n 2, 1) := by decide +kernel
theorem dX8_afterName_28 : decode cX8_afterName 28 = .ok (.ireturn, 1) := by decide +kernel
theorem dX8_sameName_0 : decode cX8_sameName 0 = .ok (.iconst 0, 1) := by decide +kernel
theorem dX8_sameName_1 : decode cX8_sameName 1 = .ok (.istore_n 3, 1) := by decide +kernel
theorem dX8_sameName_2 : decode cX8_sameName 2 = .ok (.iload_n 3, 1) := by decide +kernel
theorem dX8_sameName_3 : decode cX8_sameName 3 = .ok (.aload_n 0, 1) := by decide +kernel
theorem dX8_sameName_4 : decode cX8_sameName 4 = .ok (.getfield 15, 3) := by decide +kernel
theorem dX8_sameName_7 : decode cX8_sameName 7 = .ok (.if_icmp .ge 71, 3) := by decide +kernel
theorem dX8_sameName_10 : decode cX8_sameName 10 = .ok (.aload_n 0, 1) := by decide +kernel
theorem dX8_sameName_11 : decode cX8_sameName 11 = .ok (.iload_n 1, 1) := by decide +kernel
theorem dX8_sameName_12 : decode cX8_sameName 12 = .ok (.iload_n 3, 1) := by decide +kernel
theorem dX8_sameName_13 : decode cX8_sameName 13 = .ok (.iadd, 1) := by decide +kernel
theorem dX8_sameName_14 : decode cX8_sameName 14 = .ok (.invokevirtual 28, 3) := by decide +kernel
theorem dX8_sameName_17 : decode cX8_sameName 17 = .ok (.istore 4, 2) := by decide +kernel
theorem dX8_sameName_19 : decode cX8_sameName 19 = .ok (.aload_n 0, 1) := by decide +kernel
theorem dX8_sameName_20 : decode cX8_sameName 20 = .ok (.iload_n 2, 1) := by decide +kernel
theorem dX8_sameName_21 : decode cX8_sameName 21 = .ok (.iload_n 3, 1) := by decide +kernel
theorem dX8_sameName_22 : decode cX8_sameName 22 = .ok (.iadd, 1) := by decide +kernel
theorem dX8_sameName_23 : decode cX8_sameName 23 = .ok (.invokevirtual 28, 3) := by decide +kernel
theorem dX8_sameName_26 : decode cX8_sameName 26 = .ok (.istore 5, 2) := by decide +kernel
theorem dX8_sameName_28 : decode cX8_sameName 28 = .ok (.iload 4, 2) := by decide +kernel
theorem dX8_sameName_30 : decode cX8_sameName 30 = .ok (.invokestatic 39, 3) := by decide +kernel
theorem dX8_sameName_33 : decode cX8_sameName 33 = .ok (.ifCond .eq 11, 3) := by decide +kernel
theorem dX8_sameName_36 : decode cX8_sameName 36 = .ok (.iload 5, 2) := by decide +kernel
theorem dX8_sameName_38 : decode cX8_sameName 38 = .ok (.invokestatic 39, 3) := by decide +kernel
theorem dX8_sameName_41 : decode cX8_sameName 41 = .ok (.ifCond .ne 22, 3) := by decide +kernel
theorem dX8_sameName_44 : decode cX8_sameName 44 = .ok (.iload 4, 2) := by decide +kernel
theorem dX8_sameName_46 : decode cX8_sameName 46 = .ok (.invokestatic 39, 3) := by decide +kernel
theorem dX8_sameName_49 : decode cX8_sameName 49 = .ok (.iload 5, 2) := by decide +kernel
theorem dX8_sameName_51 : decode cX8_sameName 51 = .ok (.invokestatic 39, 3) := by decide +kernel
theorem dX8_sameName_54 : decode cX8_sameName 54 = .ok (.if_icmp .ne 7, 3) := by decide +kernel
theorem dX8_sameName_57 : decode cX8_sameName 57 = .ok (.iconst 1, 1) := by decide +kernel
theorem dX8_sameName_58 : decode cX8_sameName 58 = .ok (.goto 4, 3) := by decide +kernel
theorem dX8_sameName_61 : decode cX8_sameName 61 = .ok (.iconst 0, 1) := by decide +kernel
theorem dX8_sameName_62 : decode cX8_sameName 62 = .ok (.ireturn, 1) := by decide +kernel
theorem dX8_sameName_63 : decode cX8_sameName 63 = .ok (.iload 4, 2) := by decide +kernel
theorem dX8_sameName_65 : decode cX8_sameName 65 = .ok (.iload 5, 2) := by decide +kernel
theorem dX8_sameName_67 : decode cX8_sameName 67 = .ok (.if_icmp .eq 5, 3) := by decide +kernel
theorem dX8_sameName_70 : decode cX8_sameName 70 = .ok (.iconst 0, 1) := by decide +kernel
theorem dX8_sameName_71 : decode cX8_sameName 71 = .ok (.ireturn, 1) := by decide +kernel
theorem dX8_sameName_72 : decode cX8_sameName 72 = .ok (.iinc 3 1, 3) := by decide +kernel
theorem dX8_sameName_75 : decode cX8_sameName 75 = .ok (.goto (-73), 3) := by decide +kernel
theorem dX8_sameName_78 : decode cX8_sameName 78 = .ok (.iconst 1, 1) := by decide +kernel
theorem dX8_sameName_79 : decode cX8_sameName 79 = .ok (.ireturn, 1) := by decide +kernel
theorem dX8_isText_0 : decode cX8_isText 0 = .ok (.iload_n 2, 1) := by decide +kernel
theorem dX8_isText_1 : decode cX8_isText 1 = .ok (.iload_n 1, 1) := by decide +kernel
theorem dX8_isText_2 : decode cX8_isText 2 = .ok (.isub, 1) := by decide +kernel
theorem dX8_isText_3 : decode cX8_isText 3 = .ok (.aload_n 3, 1) := by decide +kernel
theorem dX8_isText_4 : decode cX8_isText 4 = .ok (.invokevirtual 42, 3) := by decide +kernel
theorem dX8_isText_7 : decode cX8_isText 7 = .ok (.if_icmp .eq 5, 3) := by decide +kernel
theorem dX8_isText_10 : decode cX8_isText 10 = .ok (.iconst 0, 1) := by decide +kernel
theorem dX8_isText_11 : decode cX8_isText 11 = .ok (.ireturn, 1) := by decide +kernel
theorem dX8_isText_12 : decode cX8_isText 12 = .ok (.iconst 0, 1) := by decide +kernel
theorem dX8_isText_13 : decode cX8_isText 13 = .ok (.istore 4, 2) := by decide +kernel
theorem dX8_isText_15 : decode cX8_isText 15 = .ok (.iload 4, 2) := by decide +kernel
theorem dX8_isText_17 : decode cX8_isText 17 = .ok (.aload_n 3, 1) := by decide +kernel
theorem dX8_isText_18 : decode cX8_isText 18 = .ok (.invokevirtual 42, 3) := by decide +kernel
theorem dX8_isText_21 : decode cX8_isText 21 = .ok (.if_icmp .ge 28, 3) := by decide +kernel
theorem dX8_isText_24 : decode cX8_isText 24 = .ok (.aload_n 0, 1) := by decide +kernel
theorem dX8_isText_25 : decode cX8_isText 25 = .ok (.iload_n 1, 1) := by decide +kernel
theorem dX8_isText_26 : decode cX8_isText 26 = .ok (.iload 4, 2) := by decide +kernel
theorem dX8_isText_28 : decode cX8_isText 28 = .ok (.iadd, 1) := by decide +kernel
theorem dX8_isText_29 : decode cX8_isText 29 = .ok (.invokevirtual 28, 3) := by decide +kernel
theorem dX8_isText_32 : decode cX8_isText 32 = .ok (.aload_n 3, 1) := by decide +kernel
theorem dX8_isText_33 : decode cX8_isText 33 = .ok (.iload 4, 2) := by decide +kernel
theorem dX8_isText_35 : decode cX8_isText 35 = .ok (.invokevirtual 48, 3) := by decide +kernel
theorem dX8_isText_38 : decode cX8_isText 38 = .ok (.if_icmp .eq 5, 3) := by decide +kernel
theorem dX8_isText_41 : decode cX8_isText 41 = .ok (.iconst 0, 1) := by decide +kernel
theorem dX8_isText_42 : decode cX8_isText 42 = .ok (.ireturn, 1) := by decide +kernel
theorem dX8_isText_43 : decode cX8_isText 43 = .ok (.iinc 4 1, 3) := by decide +kernel
theorem dX8_isText_46 : decode cX8_isText 46 = .ok (.goto (-31), 3) := by decide +kernel
theorem dX8_isText_49 : decode cX8_isText 49 = .ok (.iconst 1, 1) := by decide +kernel
theorem dX8_isText_50 : decode cX8_isText 50 = .ok (.ireturn, 1) := by decide +kernel
theorem dX8_isBlank_0 : decode cX8_isBlank 0 = .ok (.iload_n 0, 1) := by decide +kernel
theorem dX8_isBlank_1 : decode cX8_isBlank 1 = .ok (.bipush 9, 2) := by decide +kernel
theorem dX8_isBlank_3 : decode cX8_isBlank 3 = .ok (.if_icmp .eq 21, 3) := by decide +kernel
theorem dX8_isBlank_6 : decode cX8_isBlank 6 = .ok (.iload_n 0, 1) := by decide +kernel
theorem dX8_isBlank_7 : decode cX8_isBlank 7 = .ok (.bipush 10, 2) := by decide +kernel
theorem dX8_isBlank_9 : decode cX8_isBlank 9 = .ok (.if_icmp .eq 15, 3) := by decide +kernel
theorem dX8_isBlank_12 : decode cX8_isBlank 12 = .ok (.iload_n 0, 1) := by decide +kernel
theorem dX8_isBlank_13 : decode cX8_isBlank 13 = .ok (.bipush 13, 2) := by decide +kernel
theorem dX8_isBlank_15 : decode cX8_isBlank 15 = .ok (.if_icmp .eq 9, 3) := by decide +kernel
theorem dX8_isBlank_18 : decode cX8_isBlank 18 = .ok (.iload_n 0, 1) := by decide +kernel
theorem dX8_isBlank_19 : decode cX8_isBlank 19 = .ok (.bipush 32, 2) := by decide +kernel
theorem dX8_isBlank_21 : decode cX8_isBlank 21 = .ok (.if_icmp .ne 7, 3) := by decide +kernel
theorem dX8_isBlank_24 : decode cX8_isBlank 24 = .ok (.iconst 1, 1) := by decide +kernel
theorem dX8_isBlank_25 : decode cX8_isBlank 25 = .ok (.goto 4, 3) := by decide +kernel
theorem dX8_isBlank_28 : decode cX8_isBlank 28 = .ok (.iconst 0, 1) := by decide +kernel
theorem dX8_isBlank_29 : decode cX8_isBlank 29 = .ok (.ireturn, 1) := by decide +kernel
theorem dX8_isLetter_0 : decode cX8_isLetter 0 = .ok (.iload_n 0, 1) := by decide +kernel
theorem dX8_isLetter_1 : decode cX8_isLetter 1 = .ok (.bipush 97, 2) := by decide +kernel
theorem dX8_isLetter_3 : decode cX8_isLetter 3 = .ok (.if_icmp .lt 9, 3) := by decide +kernel
theorem dX8_isLetter_6 : decode cX8_isLetter 6 = .ok (.iload_n 0, 1) := by decide +kernel
theorem dX8_isLetter_7 : decode cX8_isLetter 7 = .ok (.bipush 122, 2) := by decide +kernel
theorem dX8_isLetter_9 : decode cX8_isLetter 9 = .ok (.if_icmp .le 15, 3) := by decide +kernel
theorem dX8_isLetter_12 : decode cX8_isLetter 12 = .ok (.iload_n 0, 1) := by decide +kernel
theorem dX8_isLetter_13 : decode cX8_isLetter 13 = .ok (.bipush 65, 2) := by decide +kernel
theorem dX8_isLetter_15 : decode cX8_isLetter 15 = .ok (.if_icmp .lt 13, 3) := by decide +kernel
theorem dX8_isLetter_18 : decode cX8_isLetter 18 = .ok (.iload_n 0, 1) := by decide +kernel
theorem dX8_isLetter_19 : decode cX8_isLetter 19 = .ok (.bipush 90, 2) := by decide +kernel
theorem dX8_isLetter_21 : decode cX8_isLetter 21 = .ok (.if_icmp .gt 7, 3) := by decide +kernel
theorem dX8_isLetter_24 : decode cX8_isLetter 24 = .ok (.iconst 1, 1) := by decide +kernel
theorem dX8_isLetter_25 : decode cX8_isLetter 25 = .ok (.goto 4, 3) := by decide +kernel
theorem dX8_isLetter_28 : decode cX8_isLetter 28 = .ok (.iconst 0, 1) := by decide +kernel
theorem dX8_isLetter_29 : decode cX8_isLetter 29 = .ok (.ireturn, 1) := by decide +kernel
theorem dX8_isDigit_0 : decode cX8_isDigit 0 = .ok (.iload_n 0, 1) := by decide +kernel
theorem dX8_isDigit_1 : decode cX8_isDigit 1 = .ok (.bipush 48, 2) := by decide +kernel
theorem dX8_isDigit_3 : decode cX8_isDigit 3 = .ok (.if_icmp .lt 13, 3) := by decide +kernel
theorem dX8_isDigit_6 : decode cX8_isDigit 6 = .ok (.iload_n 0, 1) := by decide +kernel
theorem dX8_isDigit_7 : decode cX8_isDigit 7 = .ok (.bipush 57, 2) := by decide +kernel
theorem dX8_isDigit_9 : decode cX8_isDigit 9 = .ok (.if_icmp .gt 7, 3) := by decide +kernel
theorem dX8_isDigit_12 : decode cX8_isDigit 12 = .ok (.iconst 1, 1) := by decide +kernel
theorem dX8_isDigit_13 : decode cX8_isDigit 13 = .ok (.goto 4, 3) := by decide +kernel
theorem dX8_isDigit_16 : decode cX8_isDigit 16 = .ok (.iconst 0, 1) := by decide +kernel
theorem dX8_isDigit_17 : decode cX8_isDigit 17 = .ok (.ireturn, 1) := by decide +kernel
theorem dX8_isNamePart_0 : decode cX8_isNamePart 0 = .ok (.iload_n 0, 1) := by decide +kernel
theorem dX8_isNamePart_1 : decode cX8_isNamePart 1 = .ok (.invokestatic 52, 3) := by decide +kernel
theorem dX8_isNamePart_4 : decode cX8_isNamePart 4 = .ok (.ifCond .ne 10, 3) := by decide +kernel
theorem dX8_isNamePart_7 : decode cX8_isNamePart 7 = .ok (.iload_n 0, 1) := by decide +kernel
theorem dX8_isNamePart_8 : decode cX8_isNamePart 8 = .ok (.invokestatic 36, 3) := by decide +kernel
theorem dX8_isNamePart_11 : decode cX8_isNamePart 11 = .ok (.ifCond .eq 7, 3) := by decide +kernel
theorem dX8_isNamePart_14 : decode cX8_isNamePart 14 = .ok (.iconst 1, 1) := by decide +kernel
theorem dX8_isNamePart_15 : decode cX8_isNamePart 15 = .ok (.goto 4, 3) := by decide +kernel
theorem dX8_isNamePart_18 : decode cX8_isNamePart 18 = .ok (.iconst 0, 1) := by decide +kernel
theorem dX8_isNamePart_19 : decode cX8_isNamePart 19 = .ok (.ireturn, 1) := by decide +kernel
abbrev MX8_add : aw_M := (yX8_add, cX8_add, 3, none)
theorem codX8_add : Cond.code yX8_add cX8_add 3 none ∈ aw_T := aw_in 484 (by decide +kernel) rfl
theorem iniX8 : Cond.initialized RX8 ∈ aw_T := aw_in 114 (by decide +kernel) rfl
theorem insX8_add : Cond.instanceMethod yX8_add ∈ aw_T := aw_in 482 (by decide +kernel) rfl
theorem selX8_add : Cond.selects RX8 yX8_add yX8_add ∈ aw_T := aw_in 483 (by decide +kernel) rfl
abbrev MX8_afterBlanks : aw_M := (yX8_afterBlanks, cX8_afterBlanks, 3, (some .int))
theorem codX8_afterBlanks : Cond.code yX8_afterBlanks cX8_afterBlanks 3 (some .int) ∈ aw_T := aw_in 525 (by decide +kernel) rfl
theorem insX8_afterBlanks : Cond.instanceMethod yX8_afterBlanks ∈ aw_T := aw_in 523 (by decide +kernel) rfl
theorem selX8_afterBlanks : Cond.selects RX8 yX8_afterBlanks yX8_afterBlanks ∈ aw_T := aw_in 524 (by decide +kernel) rfl
abbrev MX8_afterDigits : aw_M := (yX8_afterDigits, cX8_afterDigits, 3, (some .int))
theorem codX8_afterDigits : Cond.code yX8_afterDigits cX8_afterDigits 3 (some .int) ∈ aw_T := aw_in 623 (by decide +kernel) rfl
theorem insX8_afterDigits : Cond.instanceMethod yX8_afterDigits ∈ aw_T := aw_in 621 (by decide +kernel) rfl
theorem selX8_afterDigits : Cond.selects RX8 yX8_afterDigits yX8_afterDigits ∈ aw_T := aw_in 622 (by decide +kernel) rfl
abbrev MX8_afterName : aw_M := (yX8_afterName, cX8_afterName, 3, (some .int))
theorem codX8_afterName : Cond.code yX8_afterName cX8_afterName 3 (some .int) ∈ aw_T := aw_in 544 (by decide +kernel) rfl
theorem insX8_afterName : Cond.instanceMethod yX8_afterName ∈ aw_T := aw_in 542 (by decide +kernel) rfl
theorem selX8_afterName : Cond.selects RX8 yX8_afterName yX8_afterName ∈ aw_T := aw_in 543 (by decide +kernel) rfl
abbrev MX8_at : aw_M := (yX8_at, cX8_at, 2, (some .int))
theorem codX8_at : Cond.code yX8_at cX8_at 2 (some .int) ∈ aw_T := aw_in 529 (by decide +kernel) rfl
theorem insX8_at : Cond.instanceMethod yX8_at ∈ aw_T := aw_in 527 (by decide +kernel) rfl
theorem selX8_at : Cond.selects RX8 yX8_at yX8_at ∈ aw_T := aw_in 528 (by decide +kernel) rfl
abbrev MX8_cut : aw_M := (yX8_cut, cX8_cut, 2, none)
theorem codX8_cut : Cond.code yX8_cut cX8_cut 2 none ∈ aw_T := aw_in 496 (by decide +kernel) rfl
theorem insX8_cut : Cond.instanceMethod yX8_cut ∈ aw_T := aw_in 494 (by decide +kernel) rfl
theorem selX8_cut : Cond.selects RX8 yX8_cut yX8_cut ∈ aw_T := aw_in 495 (by decide +kernel) rfl
abbrev MX8_empty : aw_M := (yX8_empty, cX8_empty, 1, none)
theorem codX8_empty : Cond.code yX8_empty cX8_empty 1 none ∈ aw_T := aw_in 910 (by decide +kernel) rfl
theorem insX8_empty : Cond.instanceMethod yX8_empty ∈ aw_T := aw_in 908 (by decide +kernel) rfl
theorem selX8_empty : Cond.selects RX8 yX8_empty yX8_empty ∈ aw_T := aw_in 909 (by decide +kernel) rfl
abbrev MX8_fed : aw_M := (yX8_fed, cX8_fed, 1, (some .int))
theorem codX8_fed : Cond.code yX8_fed cX8_fed 1 (some .int) ∈ aw_T := aw_in 488 (by decide +kernel) rfl
theorem insX8_fed : Cond.instanceMethod yX8_fed ∈ aw_T := aw_in 486 (by decide +kernel) rfl
theorem selX8_fed : Cond.selects RX8 yX8_fed yX8_fed ∈ aw_T := aw_in 487 (by decide +kernel) rfl
abbrev MX8_hasRoom : aw_M := (yX8_hasRoom, cX8_hasRoom, 1, (some .boolean))
theorem codX8_hasRoom : Cond.code yX8_hasRoom cX8_hasRoom 1 (some .boolean) ∈ aw_T := aw_in 480 (by decide +kernel) rfl
theorem insX8_hasRoom : Cond.instanceMethod yX8_hasRoom ∈ aw_T := aw_in 478 (by decide +kernel) rfl
theorem selX8_hasRoom : Cond.selects RX8 yX8_hasRoom yX8_hasRoom ∈ aw_T := aw_in 479 (by decide +kernel) rfl
abbrev MX8_isBlank : aw_M := (yX8_isBlank, cX8_isBlank, 1, (some .boolean))
theorem codX8_isBlank : Cond.code yX8_isBlank cX8_isBlank 1 (some .boolean) ∈ aw_T := aw_in 532 (by decide +kernel) rfl
theorem sttX8_isBlank : Cond.static yX8_isBlank ∈ aw_T := aw_in 531 (by decide +kernel) rfl
abbrev MX8_isDigit : aw_M := (yX8_isDigit, cX8_isDigit, 1, (some .boolean))
theorem codX8_isDigit : Cond.code yX8_isDigit cX8_isDigit 1 (some .boolean) ∈ aw_T := aw_in 551 (by decide +kernel) rfl
theorem sttX8_isDigit : Cond.static yX8_isDigit ∈ aw_T := aw_in 550 (by decide +kernel) rfl
abbrev MX8_isLetter : aw_M := (yX8_isLetter, cX8_isLetter, 1, (some .boolean))
theorem codX8_isLetter : Cond.code yX8_isLetter cX8_isLetter 1 (some .boolean) ∈ aw_T := aw_in 540 (by decide +kernel) rfl
theorem sttX8_isLetter : Cond.static yX8_isLetter ∈ aw_T := aw_in 539 (by decide +kernel) rfl
abbrev MX8_isNamePart : aw_M := (yX8_isNamePart, cX8_isNamePart, 1, (some .boolean))
theorem codX8_isNamePart : Cond.code yX8_isNamePart cX8_isNamePart 1 (some .boolean) ∈ aw_T := aw_in 547 (by decide +kernel) rfl
theorem sttX8_isNamePart : Cond.static yX8_isNamePart ∈ aw_T := aw_in 546 (by decide +kernel) rfl
abbrev MX8_isText : aw_M := (yX8_isText, cX8_isText, 5, (some .boolean))
theorem codX8_isText : Cond.code yX8_isText cX8_isText 5 (some .boolean) ∈ aw_T := aw_in 564 (by decide +kernel) rfl
theorem insX8_isText : Cond.instanceMethod yX8_isText ∈ aw_T := aw_in 562 (by decide +kernel) rfl
theorem selX8_isText : Cond.selects RX8 yX8_isText yX8_isText ∈ aw_T := aw_in 563 (by decide +kernel) rfl
abbrev MX8_sameName : aw_M := (yX8_sameName, cX8_sameName, 6, (some .boolean))
theorem codX8_sameName : Cond.code yX8_sameName cX8_sameName 6 (some .boolean) ∈ aw_T := aw_in 838 (by decide +kernel) rfl
theorem insX8_sameName : Cond.instanceMethod yX8_sameName ∈ aw_T := aw_in 836 (by decide +kernel) rfl
theorem selX8_sameName : Cond.selects RX8 yX8_sameName yX8_sameName ∈ aw_T := aw_in 837 (by decide +kernel) rfl
theorem hX8_w : ∀ w ∈ u_ws RX8 TX8 2, w ∈ aw_T := by
  show ∀ w ∈ [u_lay RX8 TX8 0, u_lay RX8 TX8 1], w ∈ aw_T
  exact List.forall_mem_cons.mpr ⟨aw_in 149 (by decide +kernel) rfl, List.forall_mem_cons.mpr ⟨aw_in 151 (by decide +kernel) rfl, fun _ h => absurd h List.not_mem_nil⟩⟩
theorem hX8 : aw_C 8 RX8 TX8 2 tyX8 := ⟨rfl, hX8_w, tyX8_ok, nmX8⟩
theorem fX8_11 : aw_F RX8 11 8 0 (.array .byte) true := aw_F.of hX8 0 (by decide) (aw_in 147 (by decide +kernel) rfl) rfl rfl rfl
theorem fX8_15 : aw_F RX8 15 8 1 .int false := aw_F.of hX8 1 (by decide) (aw_in 148 (by decide +kernel) rfl) rfl rfl rfl
theorem qX8_19 : Cond.methodLink RX8 19 Lib.Math.min.name ∈ aw_T := aw_in 497 (by decide +kernel) rfl
theorem qX8_25 : Cond.methodLink RX8 25 Lib.Math.max.name ∈ aw_T := aw_in 500 (by decide +kernel) rfl
theorem lX8_28 : aw_L RX8 28 MX8_at 1 := ⟨aw_in 526 (by decide +kernel) rfl, iniX8, codX8_at, ⟨by decide, by decide, by decide +kernel⟩, by decide⟩
theorem lX8_32 : aw_L RX8 32 MX8_isBlank 1 := ⟨aw_in 530 (by decide +kernel) rfl, iniX8, codX8_isBlank, ⟨by decide, by decide, by decide +kernel⟩, by decide⟩
theorem lX8_36 : aw_L RX8 36 MX8_isDigit 1 := ⟨aw_in 549 (by decide +kernel) rfl, iniX8, codX8_isDigit, ⟨by decide, by decide, by decide +kernel⟩, by decide⟩
theorem lX8_39 : aw_L RX8 39 MX8_isNamePart 1 := ⟨aw_in 545 (by decide +kernel) rfl, iniX8, codX8_isNamePart, ⟨by decide, by decide, by decide +kernel⟩, by decide⟩
theorem lX8_42 : aw_L RX8 42 MJ0_length_8abf5 0 := ⟨aw_in 565 (by decide +kernel) rfl, iniJ0, codJ0_length_8abf5, ⟨by decide, by decide, by decide +kernel⟩, by decide⟩
theorem lX8_48 : aw_L RX8 48 MJ0_charAt_5068e 1 := ⟨aw_in 575 (by decide +kernel) rfl, iniJ0, codJ0_charAt_5068e, ⟨by decide, by decide, by decide +kernel⟩, by decide⟩
theorem lX8_52 : aw_L RX8 52 MX8_isLetter 1 := ⟨aw_in 548 (by decide +kernel) rfl, iniX8, codX8_isLetter, ⟨by decide, by decide, by decide +kernel⟩, by decide⟩
