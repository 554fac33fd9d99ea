theorem dX12_feed_0 : decode cX12_feed 0 = .ok (.aload_n 0, 1) := by decide +kernel
theorem dX12_feed_1 : decode cX12_feed 1 = .ok (.getfield 90, 3) := by decide +kernel
theorem dX12_feed_4 : decode cX12_feed 4 = .ok (.bipush 20, 2) := by decide +kernel
theorem dX12_feed_6 : decode cX12_feed 6 = .ok (.iadd, 1) := by decide +kernel
theorem dX12_feed_7 : decode cX12_feed 7 = .ok (.sipush 3000, 3) := by decide +kernel
theorem dX12_feed_10 : decode cX12_feed 10 = .ok (.if_icmp .le 5, 3) := by decide +kernel
theorem dX12_feed_13 : decode cX12_feed 13 = .ok (.iconst (-1), 1) := by decide +kernel
theorem dX12_feed_14 : decode cX12_feed 14 = .ok (.ireturn, 1) := by decide +kernel
theorem dX12_feed_15 : decode cX12_feed 15 = .ok (.iconst 0, 1) := by decide +kernel
theorem dX12_feed_16 : decode cX12_feed 16 = .ok (.istore 6, 2) := by decide +kernel
theorem dX12_feed_18 : decode cX12_feed 18 = .ok (.iload 6, 2) := by decide +kernel
theorem dX12_feed_20 : decode cX12_feed 20 = .ok (.bipush 20, 2) := by decide +kernel
theorem dX12_feed_22 : decode cX12_feed 22 = .ok (.if_icmp .ge 93, 3) := by decide +kernel
theorem dX12_feed_25 : decode cX12_feed 25 = .ok (.iload 6, 2) := by decide +kernel
theorem dX12_feed_27 : decode cX12_feed 27 = .ok (.iconst 4, 1) := by decide +kernel
theorem dX12_feed_28 : decode cX12_feed 28 = .ok (.if_icmp .ge 7, 3) := by decide +kernel
theorem dX12_feed_31 : decode cX12_feed 31 = .ok (.iload_n 1, 1) := by decide +kernel
theorem dX12_feed_32 : decode cX12_feed 32 = .ok (.goto 39, 3) := by decide +kernel
theorem dX12_feed_35 : decode cX12_feed 35 = .ok (.iload 6, 2) := by decide +kernel
theorem dX12_feed_37 : decode cX12_feed 37 = .ok (.bipush 8, 2) := by decide +kernel
theorem dX12_feed_39 : decode cX12_feed 39 = .ok (.if_icmp .ge 7, 3) := by decide +kernel
theorem dX12_feed_42 : decode cX12_feed 42 = .ok (.iload_n 2, 1) := by decide +kernel
theorem dX12_feed_43 : decode cX12_feed 43 = .ok (.goto 28, 3) := by decide +kernel
theorem dX12_feed_46 : decode cX12_feed 46 = .ok (.iload 6, 2) := by decide +kernel
theorem dX12_feed_48 : decode cX12_feed 48 = .ok (.bipush 12, 2) := by decide +kernel
theorem dX12_feed_50 : decode cX12_feed 50 = .ok (.if_icmp .ge 7, 3) := by decide +kernel
theorem dX12_feed_53 : decode cX12_feed 53 = .ok (.iload_n 3, 1) := by decide +kernel
theorem dX12_feed_54 : decode cX12_feed 54 = .ok (.goto 17, 3) := by decide +kernel
theorem dX12_feed_57 : decode cX12_feed 57 = .ok (.iload 6, 2) := by decide +kernel
theorem dX12_feed_59 : decode cX12_feed 59 = .ok (.bipush 16, 2) := by decide +kernel
theorem dX12_feed_61 : decode cX12_feed 61 = .ok (.if_icmp .ge 8, 3) := by decide +kernel
theorem dX12_feed_64 : decode cX12_feed 64 = .ok (.iload 4, 2) := by decide +kernel
theorem dX12_feed_66 : decode cX12_feed 66 = .ok (.goto 5, 3) := by decide +kernel
theorem dX12_feed_69 : decode cX12_feed 69 = .ok (.iload 5, 2) := by decide +kernel
theorem dX12_feed_71 : decode cX12_feed 71 = .ok (.istore 7, 2) := by decide +kernel
theorem dX12_feed_73 : decode cX12_feed 73 = .ok (.aload_n 0, 1) := by decide +kernel
theorem dX12_feed_74 : decode cX12_feed 74 = .ok (.getfield 7, 3) := by decide +kernel
theorem dX12_feed_77 : decode cX12_feed 77 = .ok (.aload_n 0, 1) := by decide +kernel
theorem dX12_feed_78 : decode cX12_feed 78 = .ok (.getfield 90, 3) := by decide +kernel
theorem dX12_feed_81 : decode cX12_feed 81 = .ok (.iload 7, 2) := by decide +kernel
theorem dX12_feed_83 : decode cX12_feed 83 = .ok (.bipush 24, 2) := by decide +kernel
theorem dX12_feed_85 : decode cX12_feed 85 = .ok (.bipush 8, 2) := by decide +kernel
theorem dX12_feed_87 : decode cX12_feed 87 = .ok (.iload 6, 2) := by decide +kernel
theorem dX12_feed_89 : decode cX12_feed 89 = .ok (.iconst 4, 1) := by decide +kernel
theorem dX12_feed_90 : decode cX12_feed 90 = .ok (.irem, 1) := by decide +kernel
theorem dX12_feed_91 : decode cX12_feed 91 = .ok (.imul, 1) := by decide +kernel
theorem dX12_feed_92 : decode cX12_feed 92 = .ok (.isub, 1) := by decide +kernel
theorem dX12_feed_93 : decode cX12_feed 93 = .ok (.ishr, 1) := by decide +kernel
theorem dX12_feed_94 : decode cX12_feed 94 = .ok (.sipush 255, 3) := by decide +kernel
theorem dX12_feed_97 : decode cX12_feed 97 = .ok (.iand, 1) := by decide +kernel
theorem dX12_feed_98 : decode cX12_feed 98 = .ok (.iastore, 1) := by decide +kernel
theorem dX12_feed_99 : decode cX12_feed 99 = .ok (.aload_n 0, 1) := by decide +kernel
theorem dX12_feed_100 : decode cX12_feed 100 = .ok (.dup, 1) := by decide +kernel
theorem dX12_feed_101 : decode cX12_feed 101 = .ok (.getfield 90, 3) := by decide +kernel
theorem dX12_feed_104 : decode cX12_feed 104 = .ok (.iconst 1, 1) := by decide +kernel
theorem dX12_feed_105 : decode cX12_feed 105 = .ok (.iadd, 1) := by decide +kernel
theorem dX12_feed_106 : decode cX12_feed 106 = .ok (.putfield 90, 3) := by decide +kernel
theorem dX12_feed_109 : decode cX12_feed 109 = .ok (.iinc 6 1, 3) := by decide +kernel
theorem dX12_feed_112 : decode cX12_feed 112 = .ok (.goto (-94), 3) := by decide +kernel
theorem dX12_feed_115 : decode cX12_feed 115 = .ok (.aload_n 0, 1) := by decide +kernel
theorem dX12_feed_116 : decode cX12_feed 116 = .ok (.getfield 90, 3) := by decide +kernel
theorem dX12_feed_119 : decode cX12_feed 119 = .ok (.ireturn, 1) := by decide +kernel
theorem dX12_byteAt_0 : decode cX12_byteAt 0 = .ok (.iload_n 1, 1) := by decide +kernel
theorem dX12_byteAt_1 : decode cX12_byteAt 1 = .ok (.aload_n 0, 1) := by decide +kernel
theorem dX12_byteAt_2 : decode cX12_byteAt 2 = .ok (.getfield 93, 3) := by decide +kernel
theorem dX12_byteAt_5 : decode cX12_byteAt 5 = .ok (.if_icmp .ge 12, 3) := by decide +kernel
theorem dX12_byteAt_8 : decode cX12_byteAt 8 = .ok (.aload_n 0, 1) := by decide +kernel
theorem dX12_byteAt_9 : decode cX12_byteAt 9 = .ok (.getfield 75, 3) := by decide +kernel
theorem dX12_byteAt_12 : decode cX12_byteAt 12 = .ok (.iload_n 1, 1) := by decide +kernel
theorem dX12_byteAt_13 : decode cX12_byteAt 13 = .ok (.iaload, 1) := by decide +kernel
theorem dX12_byteAt_14 : decode cX12_byteAt 14 = .ok (.goto 4, 3) := by decide +kernel
theorem dX12_byteAt_17 : decode cX12_byteAt 17 = .ok (.iconst 0, 1) := by decide +kernel
theorem dX12_byteAt_18 : decode cX12_byteAt 18 = .ok (.ireturn, 1) := by decide +kernel
theorem dX12_isLetter_0 : decode cX12_isLetter 0 = .ok (.iload_n 0, 1) := by decide +kernel
theorem dX12_isLetter_1 : decode cX12_isLetter 1 = .ok (.bipush 97, 2) := by decide +kernel
theorem dX12_isLetter_3 : decode cX12_isLetter 3 = .ok (.if_icmp .lt 9, 3) := by decide +kernel
theorem dX12_isLetter_6 : decode cX12_isLetter 6 = .ok (.iload_n 0, 1) := by decide +kernel
theorem dX12_isLetter_7 : decode cX12_isLetter 7 = .ok (.bipush 122, 2) := by decide +kernel
theorem dX12_isLetter_9 : decode cX12_isLetter 9 = .ok (.if_icmp .le 15, 3) := by decide +kernel
theorem dX12_isLetter_12 : decode cX12_isLetter 12 = .ok (.iload_n 0, 1) := by decide +kernel
theorem dX12_isLetter_13 : decode cX12_isLetter 13 = .ok (.bipush 65, 2) := by decide +kernel
theorem dX12_isLetter_15 : decode cX12_isLetter 15 = .ok (.if_icmp .lt 13, 3) := by decide +kernel
theorem dX12_isLetter_18 : decode cX12_isLetter 18 = .ok (.iload_n 0, 1) := by decide +kernel
theorem dX12_isLetter_19 : decode cX12_isLetter 19 = .ok (.bipush 90, 2) := by decide +kernel
theorem dX12_isLetter_21 : decode cX12_isLetter 21 = .ok (.if_icmp .gt 7, 3) := by decide +kernel
theorem dX12_isLetter_24 : decode cX12_isLetter 24 = .ok (.iconst 1, 1) := by decide +kernel
theorem dX12_isLetter_25 : decode cX12_isLetter 25 = .ok (.goto 4, 3) := by decide +kernel
theorem dX12_isLetter_28 : decode cX12_isLetter 28 = .ok (.iconst 0, 1) := by decide +kernel
theorem dX12_isLetter_29 : decode cX12_isLetter 29 = .ok (.ireturn, 1) := by decide +kernel
theorem dX12_isDigit_0 : decode cX12_isDigit 0 = .ok (.iload_n 0, 1) := by decide +kernel
theorem dX12_isDigit_1 : decode cX12_isDigit 1 = .ok (.bipush 48, 2) := by decide +kernel
theorem dX12_isDigit_3 : decode cX12_isDigit 3 = .ok (.if_icmp .lt 13, 3) := by decide +kernel
theorem dX12_isDigit_6 : decode cX12_isDigit 6 = .ok (.iload_n 0, 1) := by decide +kernel
theorem dX12_isDigit_7 : decode cX12_isDigit 7 = .ok (.bipush 57, 2) := by decide +kernel
theorem dX12_isDigit_9 : decode cX12_isDigit 9 = .ok (.if_icmp .gt 7, 3) := by decide +kernel
theorem dX12_isDigit_12 : decode cX12_isDigit 12 = .ok (.iconst 1, 1) := by decide +kernel
theorem dX12_isDigit_13 : decode cX12_isDigit 13 = .ok (.goto 4, 3) := by decide +kernel
theorem dX12_isDigit_16 : decode cX12_isDigit 16 = .ok (.iconst 0, 1) := by decide +kernel
theorem dX12_isDigit_17 : decode cX12_isDigit 17 = .ok (.ireturn, 1) := by decide +kernel
theorem dX12_is_0 : decode cX12_is 0 = .ok (.iload_n 2, 1) := by decide +kernel
theorem dX12_is_1 : decode cX12_is 1 = .ok (.aload_n 3, 1) := by decide +kernel
theorem dX12_is_2 : decode cX12_is 2 = .ok (.invokevirtual 96, 3) := by decide +kernel
theorem dX12_is_5 : decode cX12_is 5 = .ok (.if_icmp .ne 7, 3) := by decide +kernel
theorem dX12_is_8 : decode cX12_is 8 = .ok (.iconst 1, 1) := by decide +kernel
theorem dX12_is_9 : decode cX12_is 9 = .ok (.goto 4, 3) := by decide +kernel
theorem dX12_is_12 : decode cX12_is 12 = .ok (.iconst 0, 1) := by decide +kernel
theorem dX12_is_13 : decode cX12_is 13 = .ok (.istore 4, 2) := by decide +kernel
theorem dX12_is_15 : decode cX12_is 15 = .ok (.iconst 0, 1) := by decide +kernel
theorem dX12_is_16 : decode cX12_is 16 = .ok (.istore 5, 2) := by decide +kernel
theorem dX12_is_18 : decode cX12_is 18 = .ok (.iload 5, 2) := by decide +kernel
theorem dX12_is_20 : decode cX12_is 20 = .ok (.iload_n 2, 1) := by decide +kernel
theorem dX12_is_21 : decode cX12_is 21 = .ok (.if_icmp .ge 38, 3) := by decide +kernel
theorem dX12_is_24 : decode cX12_is 24 = .ok (.iload 4, 2) := by decide +kernel
theorem dX12_is_26 : decode cX12_is 26 = .ok (.ifCond .eq 33, 3) := by decide +kernel
theorem dX12_is_29 : decode cX12_is 29 = .ok (.aload_n 0, 1) := by decide +kernel
theorem dX12_is_30 : decode cX12_is 30 = .ok (.iload_n 1, 1) := by decide +kernel
theorem dX12_is_31 : decode cX12_is 31 = .ok (.iload 5, 2) := by decide +kernel
theorem dX12_is_33 : decode cX12_is 33 = .ok (.iadd, 1) := by decide +kernel
theorem dX12_is_34 : decode cX12_is 34 = .ok (.invokevirtual 101, 3) := by decide +kernel
theorem dX12_is_37 : decode cX12_is 37 = .ok (.aload_n 3, 1) := by decide +kernel
theorem dX12_is_38 : decode cX12_is 38 = .ok (.iload 5, 2) := by decide +kernel
theorem dX12_is_40 : decode cX12_is 40 = .ok (.invokevirtual 105, 3) := by decide +kernel
theorem dX12_is_43 : decode cX12_is 43 = .ok (.if_icmp .ne 7, 3) := by decide +kernel
theorem dX12_is_46 : decode cX12_is 46 = .ok (.iconst 1, 1) := by decide +kernel
theorem dX12_is_47 : decode cX12_is 47 = .ok (.goto 4, 3) := by decide +kernel
theorem dX12_is_50 : decode cX12_is 50 = .ok (.iconst 0, 1) := by decide +kernel
theorem dX12_is_51 : decode cX12_is 51 = .ok (.istore 4, 2) := by decide +kernel
theorem dX12_is_53 : decode cX12_is 53 = .ok (.iinc 5 1, 3) := by decide +kernel
theorem dX12_is_56 : decode cX12_is 56 = .ok (.goto (-38), 3) := by decide +kernel
theorem dX12_is_59 : decode cX12_is 59 = .ok (.iload 4, 2) := by decide +kernel
theorem dX12_is_61 : decode cX12_is 61 = .ok (.ireturn, 1) := by decide +kernel
theorem dX12_wordOf_0 : decode cX12_wordOf 0 = .ok (.aload_n 0, 1) := by decide +kernel
theorem dX12_wordOf_1 : decode cX12_wordOf 1 = .ok (.iload_n 1, 1) := by decide +kernel
theorem dX12_wordOf_2 : decode cX12_wordOf 2 = .ok (.iload_n 2, 1) := by decide +kernel
theorem dX12_wordOf_3 : decode cX12_wordOf 3 = .ok (.ldc 109, 2) := by decide +kernel
theorem dX12_wordOf_5 : decode cX12_wordOf 5 = .ok (.invokevirtual 111, 3) := by decide +kernel
theorem dX12_wordOf_8 : decode cX12_wordOf 8 = .ok (.ifCond .eq 7, 3) := by decide +kernel
theorem dX12_wordOf_11 : decode cX12_wordOf 11 = .ok (.iconst 3, 1) := by decide +kernel
theorem dX12_wordOf_12 : decode cX12_wordOf 12 = .ok (.goto 98, 3) := by decide +kernel
theorem dX12_wordOf_15 : decode cX12_wordOf 15 = .ok (.aload_n 0, 1) := by decide +kernel
theorem dX12_wordOf_16 : decode cX12_wordOf 16 = .ok (.iload_n 1, 1) := by decide +kernel
theorem dX12_wordOf_17 : decode cX12_wordOf 17 = .ok (.iload_n 2, 1) := by decide +kernel
theorem dX12_wordOf_18 : decode cX12_wordOf 18 = .ok (.ldc 115, 2) := by decide +kernel
theorem dX12_wordOf_20 : decode cX12_wordOf 20 = .ok (.invokevirtual 111, 3) := by decide +kernel
theorem dX12_wordOf_23 : decode cX12_wordOf 23 = .ok (.ifCond .eq 7, 3) := by decide +kernel
theorem dX12_wordOf_26 : decode cX12_wordOf 26 = .ok (.iconst 4, 1) := by decide +kernel
theorem dX12_wordOf_27 : decode cX12_wordOf 27 = .ok (.goto 83, 3) := by decide +kernel
theorem dX12_wordOf_30 : decode cX12_wordOf 30 = .ok (.aload_n 0, 1) := by decide +kernel
theorem dX12_wordOf_31 : decode cX12_wordOf 31 = .ok (.iload_n 1, 1) := by decide +kernel
theorem dX12_wordOf_32 : decode cX12_wordOf 32 = .ok (.iload_n 2, 1) := by decide +kernel
theorem dX12_wordOf_33 : decode cX12_wordOf 33 = .ok (.ldc 117, 2) := by decide +kernel
theorem dX12_wordOf_35 : decode cX12_wordOf 35 = .ok (.invokevirtual 111, 3) := by decide +kernel
theorem dX12_wordOf_38 : decode cX12_wordOf 38 = .ok (.ifCond .eq 7, 3) := by decide +kernel
theorem dX12_wordOf_41 : decode cX12_wordOf 41 = .ok (.iconst 5, 1) := by decide +kernel
theorem dX12_wordOf_42 : decode cX12_wordOf 42 = .ok (.goto 68, 3) := by decide +kernel
theorem dX12_wordOf_45 : decode cX12_wordOf 45 = .ok (.aload_n 0, 1) := by decide +kernel
theorem dX12_wordOf_46 : decode cX12_wordOf 46 = .ok (.iload_n 1, 1) := by decide +kernel
theorem dX12_wordOf_47 : decode cX12_wordOf 47 = .ok (.iload_n 2, 1) := by decide +kernel
theorem dX12_wordOf_48 : decode cX12_wordOf 48 = .ok (.ldc 119, 2) := by decide +kernel
theorem dX12_wordOf_50 : decode cX12_wordOf 50 = .ok (.invokevirtual 111, 3) := by decide +kernel
theorem dX12_wordOf_53 : decode cX12_wordOf 53 = .ok (.ifCond .eq 8, 3) := by decide +kernel
theorem dX12_wordOf_56 : decode cX12_wordOf 56 = .ok (.bipush 6, 2) := by decide +kernel
theorem dX12_wordOf_58 : decode cX12_wordOf 58 = .ok (.goto 52, 3) := by decide +kernel
theorem dX12_wordOf_61 : decode cX12_wordOf 61 = .ok (.aload_n 0, 1) := by decide +kernel
theorem dX12_wordOf_62 : decode cX12_wordOf 62 = .ok (.iload_n 1, 1) := by decide +kernel
theorem dX12_wordOf_63 : decode cX12_wordOf 63 = .ok (.iload_n 2, 1) := by decide +kernel
theorem dX12_wordOf_64 : decode cX12_wordOf 64 = .ok (.ldc 121, 2) := by decide +kernel
theorem dX12_wordOf_66 : decode cX12_wordOf 66 = .ok (.invokevirtual 111, 3) := by decide +kernel
theorem dX12_wordOf_69 : decode cX12_wordOf 69 = .ok (.ifCond .eq 8, 3) := by decide +kernel
theorem dX12_wordOf_72 : decode cX12_wordOf 72 = .ok (.bipush 7, 2) := by decide +kernel
theorem dX12_wordOf_74 : decode cX12_wordOf 74 = .ok (.goto 36, 3) := by decide +kernel
theorem dX12_wordOf_77 : decode cX12_wordOf 77 = .ok (.aload_n 0, 1) := by decide +kernel
theorem dX12_wordOf_78 : decode cX12_wordOf 78 = .ok (.iload_n 1, 1) := by decide +kernel
theorem dX12_wordOf_79 : decode cX12_wordOf 79 = .ok (.iload_n 2, 1) := by decide +kernel
theorem dX12_wordOf_80 : decode cX12_wordOf 80 = .ok (.ldc 123, 2) := by decide +kernel
theorem dX12_wordOf_82 : decode cX12_wordOf 82 = .ok (.invokevirtual 111, 3) := by decide +kernel
theorem dX12_wordOf_85 : decode cX12_wordOf 85 = .ok (.ifCond .eq 8, 3) := by decide +kernel
theorem dX12_wordOf_88 : decode cX12_wordOf 88 = .ok (.bipush 8, 2) := by decide +kernel
theorem dX12_wordOf_90 : decode cX12_wordOf 90 = .ok (.goto 20, 3) := by decide +kernel
theorem dX12_wordOf_93 : decode cX12_wordOf 93 = .ok (.aload_n 0, 1) := by decide +kernel
theorem dX12_wordOf_94 : decode cX12_wordOf 94 = .ok (.iload_n 1, 1) := by decide +kernel
theorem dX12_wordOf_95 : decode cX12_wordOf 95 = .ok (.iload_n 2, 1) := by decide +kernel
theorem dX12_wordOf_96 : decode cX12_wordOf 96 = .ok (.ldc 125, 2) := by decide +kernel
theorem dX12_wordOf_98 : decode cX12_wordOf 98 = .ok (.invokevirtual 111, 3) := by decide +kernel
theorem dX12_wordOf_101 : decode cX12_wordOf 101 = .ok (.ifCond .eq 8, 3) := by decide +kernel
theorem dX12_wordOf_104 : decode cX12_wordOf 104 = .ok (.bipush 9, 2) := by decide +kernel
theorem dX12_wordOf_106 : decode cX12_wordOf 106 = .ok (.goto 4, 3) := by decide +kernel
theorem dX12_wordOf_109 : decode cX12_wordOf 109 = .ok (.iconst 1, 1) := by decide +kernel
theorem dX12_wordOf_110 : decode cX12_wordOf 110 = .ok (.ireturn, 1) := by decide +kernel
theorem dX12_tokenAt_0 : decode cX12_tokenAt 0 = .ok (.aload_n 0, 1) := by decide +kernel
theorem dX12_tokenAt_1 : decode cX12_tokenAt 1 = .ok (.iload_n 2, 1) := by decide +kernel
theorem dX12_tokenAt_2 : decode cX12_tokenAt 2 = .ok (.invokevirtual 101, 3) := by decide +kernel
theorem dX12_tokenAt_5 : decode cX12_tokenAt 5 = .ok (.istore_n 3, 1) := by decide +kernel
theorem dX12_tokenAt_6 : decode cX12_tokenAt 6 = .ok (.aload_n 0, 1) := by decide +kernel
theorem dX12_tokenAt_7 : decode cX12_tokenAt 7 = .ok (.iload_n 2, 1) := by decide +kernel
theorem dX12_tokenAt_8 : decode cX12_tokenAt 8 = .ok (.iconst 1, 1) := by decide +kernel
theorem dX12_tokenAt_9 : decode cX12_tokenAt 9 = .ok (.iadd, 1) := by decide +kernel
theorem dX12_tokenAt_10 : decode cX12_tokenAt 10 = .ok (.invokevirtual 101, 3) := by decide +kernel
theorem dX12_tokenAt_13 : decode cX12_tokenAt 13 = .ok (.istore 4, 2) := by decide +kernel
theorem dX12_tokenAt_15 : decode cX12_tokenAt 15 = .ok (.aload_n 0, 1) := by decide +kernel
theorem dX12_tokenAt_16 : decode cX12_tokenAt 16 = .ok (.getfield 19, 3) := by decide +kernel
theorem dX12_tokenAt_19 : decode cX12_tokenAt 19 = .ok (.iload_n 1, 1) := by decide +kernel
theorem dX12_tokenAt_20 : decode cX12_tokenAt 20 = .ok (.iconst 0, 1) := by decide +kernel
theorem dX12_tokenAt_21 : decode cX12_tokenAt 21 = .ok (.iastore, 1) := by decide +kernel
theorem dX12_tokenAt_22 : decode cX12_tokenAt 22 = .ok (.iload_n 2, 1) := by decide +kernel
theorem dX12_tokenAt_23 : decode cX12_tokenAt 23 = .ok (.aload_n 0, 1) := by decide +kernel
theorem dX12_tokenAt_24 : decode cX12_tokenAt 24 = .ok (.getfield 93, 3) := by decide +kernel
theorem dX12_tokenAt_27 : decode cX12_tokenAt 27 = .ok (.if_icmp .lt 6, 3) := by decide +kernel
theorem dX12_tokenAt_30 : decode cX12_tokenAt 30 = .ok (.bipush 10, 2) := by decide +kernel
theorem dX12_tokenAt_32 : decode cX12_tokenAt 32 = .ok (.ireturn, 1) := by decide +kernel
theorem dX12_tokenAt_33 : decode cX12_tokenAt 33 = .ok (.iconst 1, 1) := by decide +kernel
theorem dX12_tokenAt_34 : decode cX12_tokenAt 34 = .ok (.istore 5, 2) := by decide +kernel
theorem dX12_tokenAt_36 : decode cX12_tokenAt 36 = .ok (.iload_n 3, 1) := by decide +kernel
theorem dX12_tokenAt_37 : decode cX12_tokenAt 37 = .ok (.invokestatic 127, 3) := by decide +kernel
theorem dX12_tokenAt_40 : decode cX12_tokenAt 40 = .ok (.ifCond .eq 65, 3) := by decide +kernel
theorem dX12_tokenAt_43 : decode cX12_tokenAt 43 = .ok (.aload_n 0, 1) := by decide +kernel
theorem dX12_tokenAt_44 : decode cX12_tokenAt 44 = .ok (.iload_n 2, 1) := by decide +kernel
theorem dX12_tokenAt_45 : decode cX12_tokenAt 45 = .ok (.iload 5, 2) := by decide +kernel
theorem dX12_tokenAt_47 : decode cX12_tokenAt 47 = .ok (.iadd, 1) := by decide +kernel
theorem dX12_tokenAt_48 : decode cX12_tokenAt 48 = .ok (.invokevirtual 101, 3) := by decide +kernel
theorem dX12_tokenAt_51 : decode cX12_tokenAt 51 = .ok (.invokestatic 127, 3) := by decide +kernel
theorem dX12_tokenAt_54 : decode cX12_tokenAt 54 = .ok (.ifCond .ne 17, 3) := by decide +kernel
theorem dX12_tokenAt_57 : decode cX12_tokenAt 57 = .ok (.aload_n 0, 1) := by decide +kernel
theorem dX12_tokenAt_58 : decode cX12_tokenAt 58 = .ok (.iload_n 2, 1) := by decide +kernel
theorem dX12_tokenAt_59 : decode cX12_tokenAt 59 = .ok (.iload 5, 2) := by decide +kernel
theorem dX12_tokenAt_61 : decode cX12_tokenAt 61 = .ok (.iadd, 1) := by decide +kernel
theorem dX12_tokenAt_62 : decode cX12_tokenAt 62 = .ok (.invokevirtual 101, 3) := by decide +kernel
theorem dX12_tokenAt_65 : decode cX12_tokenAt 65 = .ok (.invokestatic 131, 3) := by decide +kernel
theorem dX12_tokenAt_68 : decode cX12_tokenAt 68 = .ok (.ifCond .eq 9, 3) := by decide +kernel
theorem dX12_tokenAt_71 : decode cX12_tokenAt 71 = .ok (.iinc 5 1, 3) := by decide +kernel
theorem dX12_tokenAt_74 : decode cX12_tokenAt 74 = .ok (.goto (-31), 3) := by decide +kernel
theorem dX12_tokenAt_77 : decode cX12_tokenAt 77 = .ok (.aload_n 0, 1) := by decide +kernel
theorem dX12_tokenAt_78 : decode cX12_tokenAt 78 = .ok (.getfield 19, 3) := by decide +kernel
theorem dX12_tokenAt_81 : decode cX12_tokenAt 81 = .ok (.iload_n 1, 1) := by decide +kernel
theorem dX12_tokenAt_82 : decode cX12_tokenAt 82 = .ok (.iload 5, 2) := by decide +kernel
theorem dX12_tokenAt_84 : decode cX12_tokenAt 84 = .ok (.iastore, 1) := by decide +kernel
theorem dX12_tokenAt_85 : decode cX12_tokenAt 85 = .ok (.iload 5, 2) := by decide +kernel
theorem dX12_tokenAt_87 : decode cX12_tokenAt 87 = .ok (.bipush 10, 2) := by decide +kernel
theorem dX12_tokenAt_89 : decode cX12_tokenAt 89 = .ok (.if_icmp .le 8, 3) := by decide +kernel
theorem dX12_tokenAt_92 : decode cX12_tokenAt 92 = .ok (.bipush 11, 2) := by decide +kernel
theorem dX12_tokenAt_94 : decode cX12_tokenAt 94 = .ok (.goto 10, 3) := by decide +kernel
theorem dX12_tokenAt_97 : decode cX12_tokenAt 97 = .ok (.aload_n 0, 1) := by decide +kernel
theorem dX12_tokenAt_98 : decode cX12_tokenAt 98 = .ok (.iload_n 2, 1) := by decide +kernel
theorem dX12_tokenAt_99 : decode cX12_tokenAt 99 = .ok (.iload 5, 2) := by decide +kernel
theorem dX12_tokenAt_101 : decode cX12_tokenAt 101 = .ok (.invokevirtual 134, 3) := by decide +kernel
theorem dX12_tokenAt_104 : decode cX12_tokenAt 104 = .ok (.ireturn, 1) := by decide +kernel
theorem dX12_tokenAt_105 : decode cX12_tokenAt 105 = .ok (.iload_n 3, 1) := by decide +kernel
theorem dX12_tokenAt_106 : decode cX12_tokenAt 106 = .ok (.invokestatic 131, 3) := by decide +kernel
theorem dX12_tokenAt_109 : decode cX12_tokenAt 109 = .ok (.ifCond .eq 116, 3) := by decide +kernel
theorem dX12_tokenAt_112 : decode cX12_tokenAt 112 = .ok (.iload_n 3, 1) := by decide +kernel
theorem dX12_tokenAt_113 : decode cX12_tokenAt 113 = .ok (.bipush 48, 2) := by decide +kernel
theorem dX12_tokenAt_115 : decode cX12_tokenAt 115 = .ok (.isub, 1) := by decide +kernel
theorem dX12_tokenAt_116 : decode cX12_tokenAt 116 = .ok (.i2l, 1) := by decide +kernel
theorem dX12_tokenAt_117 : decode cX12_tokenAt 117 = .ok (.lstore 6, 2) := by decide +kernel
theorem dX12_tokenAt_119 : decode cX12_tokenAt 119 = .ok (.aload_n 0, 1) := by decide +kernel
theorem dX12_tokenAt_120 : decode cX12_tokenAt 120 = .ok (.iload_n 2, 1) := by decide +kernel
theorem dX12_tokenAt_121 : decode cX12_tokenAt 121 = .ok (.iload 5, 2) := by decide +kernel
theorem dX12_tokenAt_123 : decode cX12_tokenAt 123 = .ok (.iadd, 1) := by decide +kernel
theorem dX12_tokenAt_124 : decode cX12_tokenAt 124 = .ok (.invokevirtual 101, 3) := by decide +kernel
theorem dX12_tokenAt_127 : decode cX12_tokenAt 127 = .ok (.invokestatic 131, 3) := by decide +kernel
theorem dX12_tokenAt_130 : decode cX12_tokenAt 130 = .ok (.ifCond .eq 45, 3) := by decide +kernel
theorem dX12_tokenAt_133 : decode cX12_tokenAt 133 = .ok (.lload 6, 2) := by decide +kernel
theorem dX12_tokenAt_135 : decode cX12_tokenAt 135 = .ok (.ldc2_w 138, 3) := by decide +kernel
theorem dX12_tokenAt_138 : decode cX12_tokenAt 138 = .ok (.lcmp, 1) := by decide +kernel
theorem dX12_tokenAt_139 : decode cX12_tokenAt 139 = .ok (.ifCond .le 8, 3) := by decide +kernel
theorem dX12_tokenAt_142 : decode cX12_tokenAt 142 = .ok (.lload 6, 2) := by decide +kernel
theorem dX12_tokenAt_144 : decode cX12_tokenAt 144 = .ok (.goto 23, 3) := by decide +kernel
theorem dX12_tokenAt_147 : decode cX12_tokenAt 147 = .ok (.ldc2_w 140, 3) := by decide +kernel
theorem dX12_tokenAt_150 : decode cX12_tokenAt 150 = .ok (.lload 6, 2) := by decide +kernel
theorem dX12_tokenAt_152 : decode cX12_tokenAt 152 = .ok (.lmul, 1) := by decide +kernel
theorem dX12_tokenAt_153 : decode cX12_tokenAt 153 = .ok (.aload_n 0, 1) := by decide +kernel
theorem dX12_tokenAt_154 : decode cX12_tokenAt 154 = .ok (.iload_n 2, 1) := by decide +kernel
theorem dX12_tokenAt_155 : decode cX12_tokenAt 155 = .ok (.iload 5, 2) := by decide +kernel
theorem dX12_tokenAt_157 : decode cX12_tokenAt 157 = .ok (.iadd, 1) := by decide +kernel
theorem dX12_tokenAt_158 : decode cX12_tokenAt 158 = .ok (.invokevirtual 101, 3) := by decide +kernel
theorem dX12_tokenAt_161 : decode cX12_tokenAt 161 = .ok (.i2l, 1) := by decide +kernel
theorem dX12_tokenAt_162 : decode cX12_tokenAt 162 = .ok (.ladd, 1) := by decide +kernel
theorem dX12_tokenAt_163 : decode cX12_tokenAt 163 = .ok (.ldc2_w 142, 3) := by decide +kernel
theorem dX12_tokenAt_166 : decode cX12_tokenAt 166 = .ok (.lsub, 1) := by decide +kernel
theorem dX12_tokenAt_167 : decode cX12_tokenAt 167 = .ok (.lstore 6, 2) := by decide +kernel
theorem dX12_tokenAt_169 : decode cX12_tokenAt 169 = .ok (.iinc 5 1, 3) := by decide +kernel
theorem dX12_tokenAt_172 : decode cX12_tokenAt 172 = .ok (.goto (-53), 3) := by decide +kernel
theorem dX12_tokenAt_175 : decode cX12_tokenAt 175 = .ok (.aload_n 0, 1) := by decide +kernel
theorem dX12_tokenAt_176 : decode cX12_tokenAt 176 = .ok (.getfield 19, 3) := by decide +kernel
theorem dX12_tokenAt_179 : decode cX12_tokenAt 179 = .ok (.iload_n 1, 1) := by decide +kernel
theorem dX12_tokenAt_180 : decode cX12_tokenAt 180 = .ok (.iload 5, 2) := by decide +kernel
theorem dX12_tokenAt_182 : decode cX12_tokenAt 182 = .ok (.iastore, 1) := by decide +kernel
theorem dX12_tokenAt_183 : decode cX12_tokenAt 183 = .ok (.aload_n 0, 1) := by decide +kernel
theorem dX12_tokenAt_184 : decode cX12_tokenAt 184 = .ok (.iload_n 2, 1) := by decide +kernel
theorem dX12_tokenAt_185 : decode cX12_tokenAt 185 = .ok (.iload 5, 2) := by decide +kernel
theorem dX12_tokenAt_187 : decode cX12_tokenAt 187 = .ok (.iadd, 1) := by decide +kernel
theorem dX12_tokenAt_188 : decode cX12_tokenAt 188 = .ok (.invokevirtual 101, 3) := by decide +kernel
theorem dX12_tokenAt_191 : decode cX12_tokenAt 191 = .ok (.invokestatic 127, 3) := by decide +kernel
theorem dX12_tokenAt_194 : decode cX12_tokenAt 194 = .ok (.ifCond .ne 24, 3) := by decide +kernel
theorem dX12_tokenAt_197 : decode cX12_tokenAt 197 = .ok (.iload_n 3, 1) := by decide +kernel
theorem dX12_tokenAt_198 : decode cX12_tokenAt 198 = .ok (.bipush 48, 2) := by decide +kernel
theorem dX12_tokenAt_200 : decode cX12_tokenAt 200 = .ok (.if_icmp .ne 9, 3) := by decide +kernel
theorem dX12_tokenAt_203 : decode cX12_tokenAt 203 = .ok (.iload 5, 2) := by decide +kernel
theorem dX12_tokenAt_205 : decode cX12_tokenAt 205 = .ok (.iconst 1, 1) := by decide +kernel
theorem dX12_tokenAt_206 : decode cX12_tokenAt 206 = .ok (.if_icmp .gt 12, 3) := by decide +kernel
theorem dX12_tokenAt_209 : decode cX12_tokenAt 209 = .ok (.lload 6, 2) := by decide +kernel
theorem dX12_tokenAt_211 : decode cX12_tokenAt 211 = .ok (.ldc2_w 144, 3) := by decide +kernel
theorem dX12_tokenAt_214 : decode cX12_tokenAt 214 = .ok (.lcmp, 1) := by decide +kernel
theorem dX12_tokenAt_215 : decode cX12_tokenAt 215 = .ok (.ifCond .le 8, 3) := by decide +kernel
theorem dX12_tokenAt_218 : decode cX12_tokenAt 218 = .ok (.bipush 11, 2) := by decide +kernel
theorem dX12_tokenAt_220 : decode cX12_tokenAt 220 = .ok (.goto 4, 3) := by decide +kernel
theorem dX12_tokenAt_223 : decode cX12_tokenAt 223 = .ok (.iconst 2, 1) := by decide +kernel
theorem dX12_tokenAt_224 : decode cX12_tokenAt 224 = .ok (.ireturn, 1) := by decide +kernel
theorem dX12_tokenAt_225 : decode cX12_tokenAt 225 = .ok (.aload_n 0, 1) := by decide +kernel
theorem dX12_tokenAt_226 : decode cX12_tokenAt 226 = .ok (.getfield 19, 3) := by decide +kernel
theorem dX12_tokenAt_229 : decode cX12_tokenAt 229 = .ok (.iload_n 1, 1) := by decide +kernel
theorem dX12_tokenAt_230 : decode cX12_tokenAt 230 = .ok (.iconst 2, 1) := by decide +kernel
theorem dX12_tokenAt_231 : decode cX12_tokenAt 231 = .ok (.iastore, 1) := by decide +kernel
theorem dX12_tokenAt_232 : decode cX12_tokenAt 232 = .ok (.iload_n 3, 1) := by decide +kernel
theorem dX12_tokenAt_233 : decode cX12_tokenAt 233 = .ok (.bipush 60, 2) := by decide +kernel
theorem dX12_tokenAt_235 : decode cX12_tokenAt 235 = .ok (.if_icmp .ne 14, 3) := by decide +kernel
theorem dX12_tokenAt_238 : decode cX12_tokenAt 238 = .ok (.iload 4, 2) := by decide +kernel
theorem dX12_tokenAt_240 : decode cX12_tokenAt 240 = .ok (.bipush 61, 2) := by decide +kernel
theorem dX12_tokenAt_242 : decode cX12_tokenAt 242 = .ok (.if_icmp .ne 7, 3) := by decide +kernel
theorem dX12_tokenAt_245 : decode cX12_tokenAt 245 = .ok (.sipush 200, 3) := by decide +kernel
theorem dX12_tokenAt_248 : decode cX12_tokenAt 248 = .ok (.ireturn, 1) := by decide +kernel
theorem dX12_tokenAt_249 : decode cX12_tokenAt 249 = .ok (.iload_n 3, 1) := by decide +kernel
theorem dX12_tokenAt_250 : decode cX12_tokenAt 250 = .ok (.bipush 61, 2) := by decide +kernel
theorem dX12_tokenAt_252 : decode cX12_tokenAt 252 = .ok (.if_icmp .ne 14, 3) := by decide +kernel
theorem dX12_tokenAt_255 : decode cX12_tokenAt 255 = .ok (.iload 4, 2) := by decide +kernel
theorem dX12_tokenAt_257 : decode cX12_tokenAt 257 = .ok (.bipush 61, 2) := by decide +kernel
theorem dX12_tokenAt_259 : decode cX12_tokenAt 259 = .ok (.if_icmp .ne 7, 3) := by decide +kernel
theorem dX12_tokenAt_262 : decode cX12_tokenAt 262 = .ok (.sipush 201, 3) := by decide +kernel
theorem dX12_tokenAt_265 : decode cX12_tokenAt 265 = .ok (.ireturn, 1) := by decide +kernel
theorem dX12_tokenAt_266 : decode cX12_tokenAt 266 = .ok (.iload_n 3, 1) := by decide +kernel
theorem dX12_tokenAt_267 : decode cX12_tokenAt 267 = .ok (.bipush 60, 2) := by decide +kernel
theorem dX12_tokenAt_269 : decode cX12_tokenAt 269 = .ok (.if_icmp .ne 14, 3) := by decide +kernel
theorem dX12_tokenAt_272 : decode cX12_tokenAt 272 = .ok (.iload 4, 2) := by decide +kernel
theorem dX12_tokenAt_274 : decode cX12_tokenAt 274 = .ok (.bipush 60, 2) := by decide +kernel
theorem dX12_tokenAt_276 : decode cX12_tokenAt 276 = .ok (.if_icmp .ne 7, 3) := by decide +kernel
theorem dX12_tokenAt_279 : decode cX12_tokenAt 279 = .ok (.sipush 202, 3) := by decide +kernel
theorem dX12_tokenAt_282 : decode cX12_tokenAt 282 = .ok (.ireturn, 1) := by decide +kernel
theorem dX12_tokenAt_283 : decode cX12_tokenAt 283 = .ok (.iload_n 3, 1) := by decide +kernel
theorem dX12_tokenAt_284 : decode cX12_tokenAt 284 = .ok (.bipush 62, 2) := by decide +kernel
theorem dX12_tokenAt_286 : decode cX12_tokenAt 286 = .ok (.if_icmp .ne 14, 3) := by decide +kernel
theorem dX12_tokenAt_289 : decode cX12_tokenAt 289 = .ok (.iload 4, 2) := by decide +kernel
theorem dX12_tokenAt_291 : decode cX12_tokenAt 291 = .ok (.bipush 62, 2) := by decide +kernel
theorem dX12_tokenAt_293 : decode cX12_tokenAt 293 = .ok (.if_icmp .ne 7, 3) := by decide +kernel
theorem dX12_tokenAt_296 : decode cX12_tokenAt 296 = .ok (.sipush 203, 3) := by decide +kernel
theorem dX12_tokenAt_299 : decode cX12_tokenAt 299 = .ok (.ireturn, 1) := by decide +kernel
theorem dX12_tokenAt_300 : decode cX12_tokenAt 300 = .ok (.aload_n 0, 1) := by decide +kernel
theorem dX12_tokenAt_301 : decode cX12_tokenAt 301 = .ok (.getfield 19, 3) := by decide +kernel
theorem dX12_tokenAt_304 : decode cX12_tokenAt 304 = .ok (.iload_n 1, 1) := by decide +kernel
theorem dX12_tokenAt_305 : decode cX12_tokenAt 305 = .ok (.iconst 1, 1) := by decide +kernel
theorem dX12_tokenAt_306 : decode cX12_tokenAt 306 = .ok (.iastore, 1) := by decide +kernel
theorem dX12_tokenAt_307 : decode cX12_tokenAt 307 = .ok (.ldc 146, 2) := by decide +kernel
theorem dX12_tokenAt_309 : decode cX12_tokenAt 309 = .ok (.astore 6, 2) := by decide +kernel
theorem dX12_tokenAt_311 : decode cX12_tokenAt 311 = .ok (.iconst 0, 1) := by decide +kernel
theorem dX12_tokenAt_312 : decode cX12_tokenAt 312 = .ok (.istore 7, 2) := by decide +kernel
theorem dX12_tokenAt_314 : decode cX12_tokenAt 314 = .ok (.iload 7, 2) := by decide +kernel
theorem dX12_tokenAt_316 : decode cX12_tokenAt 316 = .ok (.aload 6, 2) := by decide +kernel
theorem dX12_tokenAt_318 : decode cX12_tokenAt 318 = .ok (.invokevirtual 96, 3) := by decide +kernel
theorem dX12_tokenAt_321 : decode cX12_tokenAt 321 = .ok (.if_icmp .ge 22, 3) := by decide +kernel
theorem dX12_tokenAt_324 : decode cX12_tokenAt 324 = .ok (.aload 6, 2) := by decide +kernel
theorem dX12_tokenAt_326 : decode cX12_tokenAt 326 = .ok (.iload 7, 2) := by decide +kernel
theorem dX12_tokenAt_328 : decode cX12_tokenAt 328 = .ok (.invokevirtual 105, 3) := by decide +kernel
theorem dX12_tokenAt_331 : decode cX12_tokenAt 331 = .ok (.iload_n 3, 1) := by decide +kernel
theorem dX12_tokenAt_332 : decode cX12_tokenAt 332 = .ok (.if_icmp .ne 5, 3) := by decide +kernel
theorem dX12_tokenAt_335 : decode cX12_tokenAt 335 = .ok (.iload_n 3, 1) := by decide +kernel
theorem dX12_tokenAt_336 : decode cX12_tokenAt 336 = .ok (.ireturn, 1) := by decide +kernel
theorem dX12_tokenAt_337 : decode cX12_tokenAt 337 = .ok (.iinc 7 1, 3) := by decide +kernel
theorem dX12_tokenAt_340 : decode cX12_tokenAt 340 = .ok (.goto (-26), 3) := by decide +kernel
theorem dX12_tokenAt_343 : decode cX12_tokenAt 343 = .ok (.bipush 11, 2) := by decide +kernel
theorem dX12_tokenAt_345 : decode cX12_tokenAt 345 = .ok (.ireturn, 1) := by decide +kernel
theorem dX12_cut_0 : decode cX12_cut 0 = .ok (.iconst 0, 1) := by decide +kernel
theorem dX12_cut_1 : decode cX12_cut 1 = .ok (.istore_n 1, 1) := by decide +kernel
theorem dX12_cut_2 : decode cX12_cut 2 = .ok (.iconst 0, 1) := by decide +kernel
theorem dX12_cut_3 : decode cX12_cut 3 = .ok (.istore_n 2, 1) := by decide +kernel
theorem dX12_cut_4 : decode cX12_cut 4 = .ok (.iconst 1, 1) := by decide +kernel
theorem dX12_cut_5 : decode cX12_cut 5 = .ok (.istore_n 3, 1) := by decide +kernel
theorem dX12_cut_6 : decode cX12_cut 6 = .ok (.iload_n 3, 1) := by decide +kernel
theorem dX12_cut_7 : decode cX12_cut 7 = .ok (.ifCond .eq 119, 3) := by decide +kernel
theorem dX12_cut_10 : decode cX12_cut 10 = .ok (.iload_n 1, 1) := by decide +kernel
theorem dX12_cut_11 : decode cX12_cut 11 = .ok (.aload_n 0, 1) := by decide +kernel
theorem dX12_cut_12 : decode cX12_cut 12 = .ok (.getfield 93, 3) := by decide +kernel
theorem dX12_cut_15 : decode cX12_cut 15 = .ok (.if_icmp .ge 49, 3) := by decide +kernel
theorem dX12_cut_18 : decode cX12_cut 18 = .ok (.aload_n 0, 1) := by decide +kernel
theorem dX12_cut_19 : decode cX12_cut 19 = .ok (.iload_n 1, 1) := by decide +kernel
theorem dX12_cut_20 : decode cX12_cut 20 = .ok (.invokevirtual 101, 3) := by decide +kernel
theorem dX12_cut_23 : decode cX12_cut 23 = .ok (.bipush 32, 2) := by decide +kernel
theorem dX12_cut_25 : decode cX12_cut 25 = .ok (.if_icmp .eq 33, 3) := by decide +kernel
theorem dX12_cut_28 : decode cX12_cut 28 = .ok (.aload_n 0, 1) := by decide +kernel
theorem dX12_cut_29 : decode cX12_cut 29 = .ok (.iload_n 1, 1) := by decide +kernel
theorem dX12_cut_30 : decode cX12_cut 30 = .ok (.invokevirtual 101, 3) := by decide +kernel
theorem dX12_cut_33 : decode cX12_cut 33 = .ok (.bipush 9, 2) := by decide +kernel
theorem dX12_cut_35 : decode cX12_cut 35 = .ok (.if_icmp .eq 23, 3) := by decide +kernel
theorem dX12_cut_38 : decode cX12_cut 38 = .ok (.aload_n 0, 1) := by decide +kernel
theorem dX12_cut_39 : decode cX12_cut 39 = .ok (.iload_n 1, 1) := by decide +kernel
theorem dX12_cut_40 : decode cX12_cut 40 = .ok (.invokevirtual 101, 3) := by decide +kernel
theorem dX12_cut_43 : decode cX12_cut 43 = .ok (.bipush 10, 2) := by decide +kernel
theorem dX12_cut_45 : decode cX12_cut 45 = .ok (.if_icmp .eq 13, 3) := by decide +kernel
theorem dX12_cut_48 : decode cX12_cut 48 = .ok (.aload_n 0, 1) := by decide +kernel
theorem dX12_cut_49 : decode cX12_cut 49 = .ok (.iload_n 1, 1) := by decide +kernel
theorem dX12_cut_50 : decode cX12_cut 50 = .ok (.invokevirtual 101, 3) := by decide +kernel
theorem dX12_cut_53 : decode cX12_cut 53 = .ok (.bipush 13, 2) := by decide +kernel
theorem dX12_cut_55 : decode cX12_cut 55 = .ok (.if_icmp .ne 9, 3) := by decide +kernel
theorem dX12_cut_58 : decode cX12_cut 58 = .ok (.iinc 1 1, 3) := by decide +kernel
theorem dX12_cut_61 : decode cX12_cut 61 = .ok (.goto (-51), 3) := by decide +kernel
theorem dX12_cut_64 : decode cX12_cut 64 = .ok (.aload_n 0, 1) := by decide +kernel
theorem dX12_cut_65 : decode cX12_cut 65 = .ok (.getfield 16, 3) := by decide +kernel
theorem dX12_cut_68 : decode cX12_cut 68 = .ok (.iload_n 2, 1) := by decide +kernel
theorem dX12_cut_69 : decode cX12_cut 69 = .ok (.iload_n 1, 1) := by decide +kernel
theorem dX12_cut_70 : decode cX12_cut 70 = .ok (.iastore, 1) := by decide +kernel
theorem dX12_cut_71 : decode cX12_cut 71 = .ok (.aload_n 0, 1) := by decide +kernel
theorem dX12_cut_72 : decode cX12_cut 72 = .ok (.getfield 13, 3) := by decide +kernel
theorem dX12_cut_75 : decode cX12_cut 75 = .ok (.iload_n 2, 1) := by decide +kernel
theorem dX12_cut_76 : decode cX12_cut 76 = .ok (.aload_n 0, 1) := by decide +kernel
theorem dX12_cut_77 : decode cX12_cut 77 = .ok (.iload_n 2, 1) := by decide +kernel
theorem dX12_cut_78 : decode cX12_cut 78 = .ok (.iload_n 1, 1) := by decide +kernel
theorem dX12_cut_79 : decode cX12_cut 79 = .ok (.invokevirtual 148, 3) := by decide +kernel
theorem dX12_cut_82 : decode cX12_cut 82 = .ok (.iastore, 1) := by decide +kernel
theorem dX12_cut_83 : decode cX12_cut 83 = .ok (.iload_n 1, 1) := by decide +kernel
theorem dX12_cut_84 : decode cX12_cut 84 = .ok (.aload_n 0, 1) := by decide +kernel
theorem dX12_cut_85 : decode cX12_cut 85 = .ok (.getfield 19, 3) := by decide +kernel
theorem dX12_cut_88 : decode cX12_cut 88 = .ok (.iload_n 2, 1) := by decide +kernel
theorem dX12_cut_89 : decode cX12_cut 89 = .ok (.iaload, 1) := by decide +kernel
theorem dX12_cut_90 : decode cX12_cut 90 = .ok (.iadd, 1) := by decide +kernel
theorem dX12_cut_91 : decode cX12_cut 91 = .ok (.istore_n 1, 1) := by decide +kernel
theorem dX12_cut_92 : decode cX12_cut 92 = .ok (.aload_n 0, 1) := by decide +kernel
theorem dX12_cut_93 : decode cX12_cut 93 = .ok (.getfield 13, 3) := by decide +kernel
theorem dX12_cut_96 : decode cX12_cut 96 = .ok (.iload_n 2, 1) := by decide +kernel
theorem dX12_cut_97 : decode cX12_cut 97 = .ok (.iaload, 1) := by decide +kernel
theorem dX12_cut_98 : decode cX12_cut 98 = .ok (.bipush 10, 2) := by decide +kernel
theorem dX12_cut_100 : decode cX12_cut 100 = .ok (.if_icmp .eq 18, 3) := by decide +kernel
theorem dX12_cut_103 : decode cX12_cut 103 = .ok (.aload_n 0, 1) := by decide +kernel
theorem dX12_cut_104 : decode cX12_cut 104 = .ok (.getfield 13, 3) := by decide +kernel
theorem dX12_cut_107 : decode cX12_cut 107 = .ok (.iload_n 2, 1) := by decide +kernel
theorem dX12_cut_108 : decode cX12_cut 108 = .ok (.iaload, 1) := by decide +kernel
theorem dX12_cut_109 : decode cX12_cut 109 = .ok (.bipush 11, 2) := by decide +kernel
theorem dX12_cut_111 : decode cX12_cut 111 = .ok (.if_icmp .eq 7, 3) := by decide +kernel
theorem dX12_cut_114 : decode cX12_cut 114 = .ok (.iconst 1, 1) := by decide +kernel
theorem dX12_cut_115 : decode cX12_cut 115 = .ok (.goto 4, 3) := by decide +kernel
theorem dX12_cut_118 : decode cX12_cut 118 = .ok (.iconst 0, 1) := by decide +kernel
theorem dX12_cut_119 : decode cX12_cut 119 = .ok (.istore_n 3, 1) := by decide +kernel
theorem dX12_cut_120 : decode cX12_cut 120 = .ok (.iinc 2 1, 3) := by decide +kernel
theorem dX12_cut_123 : decode cX12_cut 123 = .ok (.goto (-117), 3) := by decide +kernel
theorem dX12_cut_126 : decode cX12_cut 126 = .ok (.aload_n 0, 1) := by decide +kernel
theorem dX12_cut_127 : decode cX12_cut 127 = .ok (.iconst 0, 1) := by decide +kernel
theorem dX12_cut_128 : decode cX12_cut 128 = .ok (.putfield 151, 3) := by decide +kernel
theorem dX12_cut_131 : decode cX12_cut 131 = .ok (.aload_n 0, 1) := by decide +kernel
theorem dX12_cut_132 : decode cX12_cut 132 = .ok (.iconst 0, 1) := by decide +kernel
theorem dX12_cut_133 : decode cX12_cut 133 = .ok (.putfield 154, 3) := by decide +kernel
theorem dX12_cut_136 : decode cX12_cut 136 = .ok (.return_, 1) := by decide +kernel
theorem dX12_node_0 : decode cX12_node 0 = .ok (.aload_n 0, 1) := by decide +kernel
theorem dX12_node_1 : decode cX12_node 1 = .ok (.getfield 22, 3) := by decide +kernel
theorem dX12_node_4 : decode cX12_node 4 = .ok (.aload_n 0, 1) := by decide +kernel
theorem dX12_node_5 : decode cX12_node 5 = .ok (.getfield 158, 3) := by decide +kernel
theorem dX12_node_8 : decode cX12_node 8 = .ok (.iload_n 1, 1) := by decide +kernel
theorem dX12_node_9 : decode cX12_node 9 = .ok (.iastore, 1) := by decide +kernel
theorem dX12_node_10 : decode cX12_node 10 = .ok (.aload_n 0, 1) := by decide +kernel
theorem dX12_node_11 : decode cX12_node 11 = .ok (.getfield 25, 3) := by decide +kernel
theorem dX12_node_14 : decode cX12_node 14 = .ok (.aload_n 0, 1) := by decide +kernel
theorem dX12_node_15 : decode cX12_node 15 = .ok (.getfield 158, 3) := by decide +kernel
theorem dX12_node_18 : decode cX12_node 18 = .ok (.iload_n 2, 1) := by decide +kernel
theorem dX12_node_19 : decode cX12_node 19 = .ok (.iastore, 1) := by decide +kernel
theorem dX12_node_20 : decode cX12_node 20 = .ok (.aload_n 0, 1) := by decide +kernel
theorem dX12_node_21 : decode cX12_node 21 = .ok (.getfield 28, 3) := by decide +kernel
theorem dX12_node_24 : decode cX12_node 24 = .ok (.aload_n 0, 1) := by decide +kernel
theorem dX12_node_25 : decode cX12_node 25 = .ok (.getfield 158, 3) := by decide +kernel
theorem dX12_node_28 : decode cX12_node 28 = .ok (.iconst (-1), 1) := by decide +kernel
theorem dX12_node_29 : decode cX12_node 29 = .ok (.iastore, 1) := by decide +kernel
theorem dX12_node_30 : decode cX12_node 30 = .ok (.aload_n 0, 1) := by decide +kernel
theorem dX12_node_31 : decode cX12_node 31 = .ok (.getfield 31, 3) := by decide +kernel
theorem dX12_node_34 : decode cX12_node 34 = .ok (.aload_n 0, 1) := by decide +kernel
theorem dX12_node_35 : decode cX12_node 35 = .ok (.getfield 158, 3) := by decide +kernel
theorem dX12_node_38 : decode cX12_node 38 = .ok (.iconst (-1), 1) := by decide +kernel
theorem dX12_node_39 : decode cX12_node 39 = .ok (.iastore, 1) := by decide +kernel
theorem dX12_node_40 : decode cX12_node 40 = .ok (.aload_n 0, 1) := by decide +kernel
theorem dX12_node_41 : decode cX12_node 41 = .ok (.getfield 34, 3) := by decide +kernel
theorem dX12_node_44 : decode cX12_node 44 = .ok (.aload_n 0, 1) := by decide +kernel
theorem dX12_node_45 : decode cX12_node 45 = .ok (.getfield 158, 3) := by decide +kernel
theorem dX12_node_48 : decode cX12_node 48 = .ok (.iconst 0, 1) := by decide +kernel
theorem dX12_node_49 : decode cX12_node 49 = .ok (.bastore, 1) := by decide +kernel
theorem dX12_node_50 : decode cX12_node 50 = .ok (.aload_n 0, 1) := by decide +kernel
theorem dX12_node_51 : decode cX12_node 51 = .ok (.dup, 1) := by decide +kernel
theorem dX12_node_52 : decode cX12_node 52 = .ok (.getfield 158, 3) := by decide +kernel
theorem dX12_node_55 : decode cX12_node 55 = .ok (.iconst 1, 1) := by decide +kernel
theorem dX12_node_56 : decode cX12_node 56 = .ok (.iadd, 1) := by decide +kernel
theorem dX12_node_57 : decode cX12_node 57 = .ok (.putfield 158, 3) := by decide +kernel
theorem dX12_node_60 : decode cX12_node 60 = .ok (.aload_n 0, 1) := by decide +kernel
theorem dX12_node_61 : decode cX12_node 61 = .ok (.getfield 158, 3) := by decide +kernel
theorem dX12_node_64 : decode cX12_node 64 = .ok (.iconst 1, 1) := by decide +kernel
theorem dX12_node_65 : decode cX12_node 65 = .ok (.isub, 1) := by decide +kernel
theorem dX12_node_66 : decode cX12_node 66 = .ok (.ireturn, 1) := by decide +kernel
theorem dX12_add_0 : decode cX12_add 0 = .ok (.aload_n 0, 1) := by decide +kernel
theorem dX12_add_1 : decode cX12_add 1 = .ok (.getfield 28, 3) := by decide +kernel
theorem dX12_add_4 : decode cX12_add 4 = .ok (.iload_n 1, 1) := by decide +kernel
theorem dX12_add_5 : decode cX12_add 5 = .ok (.iaload, 1) := by decide +kernel
theorem dX12_add_6 : decode cX12_add 6 = .ok (.iconst (-1), 1) := by decide +kernel
theorem dX12_add_7 : decode cX12_add 7 = .ok (.if_icmp .ne 11, 3) := by decide +kernel
theorem dX12_add_10 : decode cX12_add 10 = .ok (.aload_n 0, 1) := by decide +kernel
theorem dX12_add_11 : decode cX12_add 11 = .ok (.getfield 28, 3) := by decide +kernel
theorem dX12_add_14 : decode cX12_add 14 = .ok (.iload_n 1, 1) := by decide +kernel
theorem dX12_add_15 : decode cX12_add 15 = .ok (.iload_n 2, 1) := by decide +kernel
theorem dX12_add_16 : decode cX12_add 16 = .ok (.iastore, 1) := by decide +kernel
theorem dX12_add_17 : decode cX12_add 17 = .ok (.return_, 1) := by decide +kernel
theorem dX12_add_18 : decode cX12_add 18 = .ok (.aload_n 0, 1) := by decide +kernel
theorem dX12_add_19 : decode cX12_add 19 = .ok (.getfield 28, 3) := by decide +kernel
theorem dX12_add_22 : decode cX12_add 22 = .ok (.iload_n 1, 1) := by decide +kernel
theorem dX12_add_23 : decode cX12_add 23 = .ok (.iaload, 1) := by decide +kernel
theorem dX12_add_24 : decode cX12_add 24 = .ok (.istore_n 3, 1) := by decide +kernel
theorem dX12_add_25 : decode cX12_add 25 = .ok (.aload_n 0, 1) := by decide +kernel
theorem dX12_add_26 : decode cX12_add 26 = .ok (.getfield 31, 3) := by decide +kernel
theorem dX12_add_29 : decode cX12_add 29 = .ok (.iload_n 3, 1) := by decide +kernel
theorem dX12_add_30 : decode cX12_add 30 = .ok (.iaload, 1) := by decide +kernel
theorem dX12_add_31 : decode cX12_add 31 = .ok (.iconst (-1), 1) := by decide +kernel
theorem dX12_add_32 : decode cX12_add 32 = .ok (.if_icmp .eq 13, 3) := by decide +kernel
theorem dX12_add_35 : decode cX12_add 35 = .ok (.aload_n 0, 1) := by decide +kernel
theorem dX12_add_36 : decode cX12_add 36 = .ok (.getfield 31, 3) := by decide +kernel
theorem dX12_add_39 : decode cX12_add 39 = .ok (.iload_n 3, 1) := by decide +kernel
theorem dX12_add_40 : decode cX12_add 40 = .ok (.iaload, 1) := by decide +kernel
theorem dX12_add_41 : decode cX12_add 41 = .ok (.istore_n 3, 1) := by decide +kernel
theorem dX12_add_42 : decode cX12_add 42 = .ok (.goto (-17), 3) := by decide +kernel
theorem dX12_add_45 : decode cX12_add 45 = .ok (.aload_n 0, 1) := by decide +kernel
theorem dX12_add_46 : decode cX12_add 46 = .ok (.getfield 31, 3) := by decide +kernel
theorem dX12_add_49 : decode cX12_add 49 = .ok (.iload_n 3, 1) := by decide +kernel
theorem dX12_add_50 : decode cX12_add 50 = .ok (.iload_n 2, 1) := by decide +kernel
theorem dX12_add_51 : decode cX12_add 51 = .ok (.iastore, 1) := by decide +kernel
theorem dX12_add_52 : decode cX12_add 52 = .ok (.return_, 1) := by decide +kernel
theorem dX12_take_0 : decode cX12_take 0 = .ok (.aload_n 0, 1) := by decide +kernel
theorem dX12_take_1 : decode cX12_take 1 = .ok (.getfield 154, 3) := by decide +kernel
theorem dX12_take_4 : decode cX12_take 4 = .ok (.ifCond .ne 16, 3) := by decide +kernel
theorem dX12_take_7 : decode cX12_take 7 = .ok (.aload_n 0, 1) := by decide +kernel
theorem dX12_take_8 : decode cX12_take 8 = .ok (.getfield 13, 3) := by decide +kernel
theorem dX12_take_11 : decode cX12_take 11 = .ok (.aload_n 0, 1) := by decide +kernel
theorem dX12_take_12 : decode cX12_take 12 = .ok (.getfield 151, 3) := by decide +kernel
theorem dX12_take_15 : decode cX12_take 15 = .ok (.iaload, 1) := by decide +kernel
theorem dX12_take_16 : decode cX12_take 16 = .ok (.iload_n 1, 1) := by decide +kernel
theorem dX12_take_17 : decode cX12_take 17 = .ok (.if_icmp .eq 13, 3) := by decide +kernel
theorem dX12_take_20 : decode cX12_take 20 = .ok (.aload_n 0, 1) := by decide +kernel
theorem dX12_take_21 : decode cX12_take 21 = .ok (.iconst 1, 1) := by decide +kernel
theorem dX12_take_22 : decode cX12_take 22 = .ok (.putfield 154, 3) := by decide +kernel
theorem dX12_take_25 : decode cX12_take 25 = .ok (.aload_n 0, 1) := by decide +kernel
theorem dX12_take_26 : decode cX12_take 26 = .ok (.getfield 151, 3) := by decide +kernel
theorem dX12_take_29 : decode cX12_take 29 = .ok (.ireturn, 1) := by decide +kernel
theorem dX12_take_30 : decode cX12_take 30 = .ok (.aload_n 0, 1) := by decide +kernel
theorem dX12_take_31 : decode cX12_take 31 = .ok (.dup, 1) := by decide +kernel
theorem dX12_take_32 : decode cX12_take 32 = .ok (.getfield 151, 3) := by decide +kernel
theorem dX12_take_35 : decode cX12_take 35 = .ok (.iconst 1, 1) := by decide +kernel
theorem dX12_take_36 : decode cX12_take 36 = .ok (.iadd, 1) := by decide +kernel
theorem dX12_take_37 : decode cX12_take 37 = .ok (.putfield 151, 3) := by decide +kernel
theorem dX12_take_40 : decode cX12_take 40 = .ok (.aload_n 0, 1) := by decide +kernel
theorem dX12_take_41 : decode cX12_take 41 = .ok (.getfield 151, 3) := by decide +kernel
theorem dX12_take_44 : decode cX12_take 44 = .ok (.iconst 1, 1) := by decide +kernel
theorem dX12_take_45 : decode cX12_take 45 = .ok (.isub, 1) := by decide +kernel
theorem dX12_take_46 : decode cX12_take 46 = .ok (.ireturn, 1) := by decide +kernel
theorem dX12_program_0 : decode cX12_program 0 = .ok (.aload_n 0, 1) := by decide +kernel
theorem dX12_program_1 : decode cX12_program 1 = .ok (.sipush 302, 3) := by decide +kernel
theorem dX12_program_4 : decode cX12_program 4 = .ok (.iconst 0, 1) := by decide +kernel
theorem dX12_program_5 : decode cX12_program 5 = .ok (.invokevirtual 161, 3) := by decide +kernel
theorem dX12_program_8 : decode cX12_program 8 = .ok (.istore_n 1, 1) := by decide +kernel
theorem dX12_program_9 : decode cX12_program 9 = .ok (.aload_n 0, 1) := by decide +kernel
theorem dX12_program_10 : decode cX12_program 10 = .ok (.getfield 154, 3) := by decide +kernel
theorem dX12_program_13 : decode cX12_program 13 = .ok (.ifCond .ne 180, 3) := by decide +kernel
theorem dX12_program_16 : decode cX12_program 16 = .ok (.aload_n 0, 1) := by decide +kernel
theorem dX12_program_17 : decode cX12_program 17 = .ok (.getfield 13, 3) := by decide +kernel
theorem dX12_program_20 : decode cX12_program 20 = .ok (.aload_n 0, 1) := by decide +kernel
theorem dX12_program_21 : decode cX12_program 21 = .ok (.getfield 151, 3) := by decide +kernel
theorem dX12_program_24 : decode cX12_program 24 = .ok (.iaload, 1) := by decide +kernel
theorem dX12_program_25 : decode cX12_program 25 = .ok (.iconst 3, 1) := by decide +kernel
theorem dX12_program_26 : decode cX12_program 26 = .ok (.if_icmp .eq 16, 3) := by decide +kernel
theorem dX12_program_29 : decode cX12_program 29 = .ok (.aload_n 0, 1) := by decide +kernel
theorem dX12_program_30 : decode cX12_program 30 = .ok (.getfield 13, 3) := by decide +kernel
theorem dX12_program_33 : decode cX12_program 33 = .ok (.aload_n 0, 1) := by decide +kernel
theorem dX12_program_34 : decode cX12_program 34 = .ok (.getfield 151, 3) := by decide +kernel
theorem dX12_program_37 : decode cX12_program 37 = .ok (.iaload, 1) := by decide +kernel
theorem dX12_program_38 : decode cX12_program 38 = .ok (.iconst 4, 1) := by decide +kernel
theorem dX12_program_39 : decode cX12_program 39 = .ok (.if_icmp .ne 154, 3) := by decide +kernel
theorem dX12_program_42 : decode cX12_program 42 = .ok (.aload_n 0, 1) := by decide +kernel
theorem dX12_program_43 : decode cX12_program 43 = .ok (.aload_n 0, 1) := by decide +kernel
theorem dX12_program_44 : decode cX12_program 44 = .ok (.getfield 13, 3) := by decide +kernel
theorem dX12_program_47 : decode cX12_program 47 = .ok (.aload_n 0, 1) := by decide +kernel
theorem dX12_program_48 : decode cX12_program 48 = .ok (.getfield 151, 3) := by decide +kernel
theorem dX12_program_51 : decode cX12_program 51 = .ok (.iaload, 1) := by decide +kernel
theorem dX12_program_52 : decode cX12_program 52 = .ok (.aload_n 0, 1) := by decide +kernel
theorem dX12_program_53 : decode cX12_program 53 = .ok (.getfield 151, 3) := by decide +kernel
theorem dX12_program_56 : decode cX12_program 56 = .ok (.invokevirtual 161, 3) := by decide +kernel
theorem dX12_program_59 : decode cX12_program 59 = .ok (.istore_n 2, 1) := by decide +kernel
theorem dX12_program_60 : decode cX12_program 60 = .ok (.aload_n 0, 1) := by decide +kernel
theorem dX12_program_61 : decode cX12_program 61 = .ok (.dup, 1) := by decide +kernel
theorem dX12_program_62 : decode cX12_program 62 = .ok (.getfield 151, 3) := by decide +kernel
theorem dX12_program_65 : decode cX12_program 65 = .ok (.iconst 1, 1) := by decide +kernel
theorem dX12_program_66 : decode cX12_program 66 = .ok (.iadd, 1) := by decide +kernel
theorem dX12_program_67 : decode cX12_program 67 = .ok (.putfield 151, 3) := by decide +kernel
theorem dX12_program_70 : decode cX12_program 70 = .ok (.aload_n 0, 1) := by decide +kernel
theorem dX12_program_71 : decode cX12_program 71 = .ok (.getfield 13, 3) := by decide +kernel
theorem dX12_program_74 : decode cX12_program 74 = .ok (.aload_n 0, 1) := by decide +kernel
theorem dX12_program_75 : decode cX12_program 75 = .ok (.getfield 151, 3) := by decide +kernel
theorem dX12_program_78 : decode cX12_program 78 = .ok (.iaload, 1) := by decide +kernel
theorem dX12_program_79 : decode cX12_program 79 = .ok (.iconst 5, 1) := by decide +kernel
theorem dX12_program_80 : decode cX12_program 80 = .ok (.if_icmp .ne 27, 3) := by decide +kernel
theorem dX12_program_83 : decode cX12_program 83 = .ok (.aload_n 0, 1) := by decide +kernel
theorem dX12_program_84 : decode cX12_program 84 = .ok (.iload_n 2, 1) := by decide +kernel
theorem dX12_program_85 : decode cX12_program 85 = .ok (.aload_n 0, 1) := by decide +kernel
theorem dX12_program_86 : decode cX12_program 86 = .ok (.iconst 5, 1) := by decide +kernel
theorem dX12_program_87 : decode cX12_program 87 = .ok (.aload_n 0, 1) := by decide +kernel
theorem dX12_program_88 : decode cX12_program 88 = .ok (.getfield 151, 3) := by decide +kernel
theorem dX12_program_91 : decode cX12_program 91 = .ok (.invokevirtual 161, 3) := by decide +kernel
theorem dX12_program_94 : decode cX12_program 94 = .ok (.invokevirtual 164, 3) := by decide +kernel
theorem dX12_program_97 : decode cX12_program 97 = .ok (.aload_n 0, 1) := by decide +kernel
theorem dX12_program_98 : decode cX12_program 98 = .ok (.dup, 1) := by decide +kernel
theorem dX12_program_99 : decode cX12_program 99 = .ok (.getfield 151, 3) := by decide +kernel
theorem dX12_program_102 : decode cX12_program 102 = .ok (.iconst 1, 1) := by decide +kernel
theorem dX12_program_103 : decode cX12_program 103 = .ok (.iadd, 1) := by decide +kernel
theorem dX12_program_104 : decode cX12_program 104 = .ok (.putfield 151, 3) := by decide +kernel
theorem dX12_program_107 : decode cX12_program 107 = .ok (.aload_n 0, 1) := by decide +kernel
theorem dX12_program_108 : decode cX12_program 108 = .ok (.iconst 1, 1) := by decide +kernel
theorem dX12_program_109 : decode cX12_program 109 = .ok (.aload_n 0, 1) := by decide +kernel
theorem dX12_program_110 : decode cX12_program 110 = .ok (.iconst 1, 1) := by decide +kernel
theorem dX12_program_111 : decode cX12_program 111 = .ok (.invokevirtual 168, 3) := by decide +kernel
theorem dX12_program_114 : decode cX12_program 114 = .ok (.invokevirtual 161, 3) := by decide +kernel
theorem dX12_program_117 : decode cX12_program 117 = .ok (.istore_n 3, 1) := by decide +kernel
theorem dX12_program_118 : decode cX12_program 118 = .ok (.aload_n 0, 1) := by decide +kernel
theorem dX12_program_119 : decode cX12_program 119 = .ok (.iload_n 2, 1) := by decide +kernel
theorem dX12_program_120 : decode cX12_program 120 = .ok (.iload_n 3, 1) := by decide +kernel
theorem dX12_program_121 : decode cX12_program 121 = .ok (.invokevirtual 164, 3) := by decide +kernel
theorem dX12_program_124 : decode cX12_program 124 = .ok (.aload_n 0, 1) := by decide +kernel
theorem dX12_program_125 : decode cX12_program 125 = .ok (.getfield 154, 3) := by decide +kernel
theorem dX12_program_128 : decode cX12_program 128 = .ok (.ifCond .ne 49, 3) := by decide +kernel
theorem dX12_program_131 : decode cX12_program 131 = .ok (.aload_n 0, 1) := by decide +kernel
theorem dX12_program_132 : decode cX12_program 132 = .ok (.getfield 13, 3) := by decide +kernel
theorem dX12_program_135 : decode cX12_program 135 = .ok (.aload_n 0, 1) := by decide +kernel
theorem dX12_program_136 : decode cX12_program 136 = .ok (.getfield 151, 3) := by decide +kernel
theorem dX12_program_139 : decode cX12_program 139 = .ok (.iaload, 1) := by decide +kernel
theorem dX12_program_140 : decode cX12_program 140 = .ok (.bipush 91, 2) := by decide +kernel
theorem dX12_program_142 : decode cX12_program 142 = .ok (.if_icmp .ne 35, 3) := by decide +kernel
theorem dX12_program_145 : decode cX12_program 145 = .ok (.aload_n 0, 1) := by decide +kernel
theorem dX12_program_146 : decode cX12_program 146 = .ok (.dup, 1) := by decide +kernel
theorem dX12_program_147 : decode cX12_program 147 = .ok (.getfield 151, 3) := by decide +kernel
theorem dX12_program_150 : decode cX12_program 150 = .ok (.iconst 1, 1) := by decide +kernel
theorem dX12_program_151 : decode cX12_program 151 = .ok (.iadd, 1) := by decide +kernel
theorem dX12_program_152 : decode cX12_program 152 = .ok (.putfield 151, 3) := by decide +kernel
theorem dX12_program_155 : decode cX12_program 155 = .ok (.aload_n 0, 1) := by decide +kernel
theorem dX12_program_156 : decode cX12_program 156 = .ok (.iload_n 3, 1) := by decide +kernel
theorem dX12_program_157 : decode cX12_program 157 = .ok (.aload_n 0, 1) := by decide +kernel
theorem dX12_program_158 : decode cX12_program 158 = .ok (.iconst 2, 1) := by decide +kernel
theorem dX12_program_159 : decode cX12_program 159 = .ok (.aload_n 0, 1) := by decide +kernel
theorem dX12_program_160 : decode cX12_program 160 = .ok (.iconst 2, 1) := by decide +kernel
theorem dX12_program_161 : decode cX12_program 161 = .ok (.invokevirtual 168, 3) := by decide +kernel
theorem dX12_program_164 : decode cX12_program 164 = .ok (.invokevirtual 161, 3) := by decide +kernel
theorem dX12_program_167 : decode cX12_program 167 = .ok (.invokevirtual 164, 3) := by decide +kernel
theorem dX12_program_170 : decode cX12_program 170 = .ok (.aload_n 0, 1) := by decide +kernel
theorem dX12_program_171 : decode cX12_program 171 = .ok (.bipush 93, 2) := by decide +kernel
theorem dX12_program_173 : decode cX12_program 173 = .ok (.invokevirtual 168, 3) := by decide +kernel
theorem dX12_program_176 : decode cX12_program 176 = .ok (.pop, 1) := by decide +kernel
theorem dX12_program_177 : decode cX12_program 177 = .ok (.aload_n 0, 1) := by decide +kernel
theorem dX12_program_178 : decode cX12_program 178 = .ok (.bipush 59, 2) := by decide +kernel
theorem dX12_program_180 : decode cX12_program 180 = .ok (.invokevirtual 168, 3) := by decide +kernel
theorem dX12_program_183 : decode cX12_program 183 = .ok (.pop, 1) := by decide +kernel
theorem dX12_program_184 : decode cX12_program 184 = .ok (.aload_n 0, 1) := by decide +kernel
theorem dX12_program_185 : decode cX12_program 185 = .ok (.iload_n 1, 1) := by decide +kernel
theorem dX12_program_186 : decode cX12_program 186 = .ok (.iload_n 2, 1) := by decide +kernel
theorem dX12_program_187 : decode cX12_program 187 = .ok (.invokevirtual 164, 3) := by decide +kernel
theorem dX12_program_190 : decode cX12_program 190 = .ok (.goto (-181), 3) := by decide +kernel
theorem dX12_program_193 : decode cX12_program 193 = .ok (.aload_n 0, 1) := by decide +kernel
theorem dX12_program_194 : decode cX12_program 194 = .ok (.getfield 154, 3) := by decide +kernel
theorem dX12_program_197 : decode cX12_program 197 = .ok (.ifCond .ne 30, 3) := by decide +kernel
theorem dX12_program_200 : decode cX12_program 200 = .ok (.aload_n 0, 1) := by decide +kernel
theorem dX12_program_201 : decode cX12_program 201 = .ok (.getfield 13, 3) := by decide +kernel
theorem dX12_program_204 : decode cX12_program 204 = .ok (.aload_n 0, 1) := by decide +kernel
theorem dX12_program_205 : decode cX12_program 205 = .ok (.getfield 151, 3) := by decide +kernel
theorem dX12_program_208 : decode cX12_program 208 = .ok (.iaload, 1) := by decide +kernel
theorem dX12_program_209 : decode cX12_program 209 = .ok (.bipush 10, 2) := by decide +kernel
theorem dX12_program_211 : decode cX12_program 211 = .ok (.if_icmp .eq 16, 3) := by decide +kernel
theorem dX12_program_214 : decode cX12_program 214 = .ok (.aload_n 0, 1) := by decide +kernel
theorem dX12_program_215 : decode cX12_program 215 = .ok (.iload_n 1, 1) := by decide +kernel
theorem dX12_program_216 : decode cX12_program 216 = .ok (.aload_n 0, 1) := by decide +kernel
theorem dX12_program_217 : decode cX12_program 217 = .ok (.iconst 0, 1) := by decide +kernel
theorem dX12_program_218 : decode cX12_program 218 = .ok (.invokevirtual 171, 3) := by decide +kernel
theorem dX12_program_221 : decode cX12_program 221 = .ok (.invokevirtual 164, 3) := by decide +kernel
theorem dX12_program_224 : decode cX12_program 224 = .ok (.goto (-31), 3) := by decide +kernel
theorem dX12_program_227 : decode cX12_program 227 = .ok (.iload_n 1, 1) := by decide +kernel
theorem dX12_program_228 : decode cX12_program 228 = .ok (.ireturn, 1) := by decide +kernel
theorem dX12_block_0 : decode cX12_block 0 = .ok (.aload_n 0, 1) := by decide +kernel
theorem dX12_block_1 : decode cX12_block 1 = .ok (.aload_n 0, 1) := by decide +kernel
theorem dX12_block_2 : decode cX12_block 2 = .ok (.getfield 154, 3) := by decide +kernel
theorem dX12_block_5 : decode cX12_block 5 = .ok (.ifCond .ne 9, 3) := by decide +kernel
theorem dX12_block_8 : decode cX12_block 8 = .ok (.iload_n 1, 1) := by decide +kernel
theorem dX12_block_9 : decode cX12_block 9 = .ok (.bipush 30, 2) := by decide +kernel
theorem dX12_block_11 : decode cX12_block 11 = .ok (.if_icmp .le 7, 3) := by decide +kernel
theorem dX12_block_14 : decode cX12_block 14 = .ok (.iconst 1, 1) := by decide +kernel
theorem dX12_block_15 : decode cX12_block 15 = .ok (.goto 4, 3) := by decide +kernel
theorem dX12_block_18 : decode cX12_block 18 = .ok (.iconst 0, 1) := by decide +kernel
theorem dX12_block_19 : decode cX12_block 19 = .ok (.putfield 154, 3) := by decide +kernel
theorem dX12_block_22 : decode cX12_block 22 = .ok (.aload_n 0, 1) := by decide +kernel
theorem dX12_block_23 : decode cX12_block 23 = .ok (.sipush 302, 3) := by decide +kernel
theorem dX12_block_26 : decode cX12_block 26 = .ok (.aload_n 0, 1) := by decide +kernel
theorem dX12_block_27 : decode cX12_block 27 = .ok (.bipush 123, 2) := by decide +kernel
theorem dX12_block_29 : decode cX12_block 29 = .ok (.invokevirtual 168, 3) := by decide +kernel
theorem dX12_block_32 : decode cX12_block 32 = .ok (.invokevirtual 161, 3) := by decide +kernel
theorem dX12_block_35 : decode cX12_block 35 = .ok (.istore_n 2, 1) := by decide +kernel
theorem dX12_block_36 : decode cX12_block 36 = .ok (.aload_n 0, 1) := by decide +kernel
theorem dX12_block_37 : decode cX12_block 37 = .ok (.getfield 154, 3) := by decide +kernel
theorem dX12_block_40 : decode cX12_block 40 = .ok (.ifCond .ne 32, 3) := by decide +kernel
theorem dX12_block_43 : decode cX12_block 43 = .ok (.aload_n 0, 1) := by decide +kernel
theorem dX12_block_44 : decode cX12_block 44 = .ok (.getfield 13, 3) := by decide +kernel
theorem dX12_block_47 : decode cX12_block 47 = .ok (.aload_n 0, 1) := by decide +kernel
theorem dX12_block_48 : decode cX12_block 48 = .ok (.getfield 151, 3) := by decide +kernel
theorem dX12_block_51 : decode cX12_block 51 = .ok (.iaload, 1) := by decide +kernel
theorem dX12_block_52 : decode cX12_block 52 = .ok (.bipush 125, 2) := by decide +kernel
theorem dX12_block_54 : decode cX12_block 54 = .ok (.if_icmp .eq 18, 3) := by decide +kernel
theorem dX12_block_57 : decode cX12_block 57 = .ok (.aload_n 0, 1) := by decide +kernel
theorem dX12_block_58 : decode cX12_block 58 = .ok (.iload_n 2, 1) := by decide +kernel
theorem dX12_block_59 : decode cX12_block 59 = .ok (.aload_n 0, 1) := by decide +kernel
theorem dX12_block_60 : decode cX12_block 60 = .ok (.iload_n 1, 1) := by decide +kernel
theorem dX12_block_61 : decode cX12_block 61 = .ok (.iconst 1, 1) := by decide +kernel
theorem dX12_block_62 : decode cX12_block 62 = .ok (.iadd, 1) := by decide +kernel
theorem dX12_block_63 : decode cX12_block 63 = .ok (.invokevirtual 171, 3) := by decide +kernel
theorem dX12_block_66 : decode cX12_block 66 = .ok (.invokevirtual 164, 3) := by decide +kernel
theorem dX12_block_69 : decode cX12_block 69 = .ok (.goto (-33), 3) := by decide +kernel
theorem dX12_block_72 : decode cX12_block 72 = .ok (.aload_n 0, 1) := by decide +kernel
theorem dX12_block_73 : decode cX12_block 73 = .ok (.bipush 125, 2) := by decide +kernel
theorem dX12_block_75 : decode cX12_block 75 = .ok (.invokevirtual 168, 3) := by decide +kernel
theorem dX12_block_78 : decode cX12_block 78 = .ok (.pop, 1) := by decide +kernel
theorem dX12_block_79 : decode cX12_block 79 = .ok (.iload_n 2, 1) := by decide +kernel
theorem dX12_block_80 : decode cX12_block 80 = .ok (.ireturn, 1) := by decide +kernel
theorem dX12_statement_0 : decode cX12_statement 0 = .ok (.aload_n 0, 1) := by decide +kernel
theorem dX12_statement_1 : decode cX12_statement 1 = .ok (.getfield 13, 3) := by decide +kernel
theorem dX12_statement_4 : decode cX12_statement 4 = .ok (.aload_n 0, 1) := by decide +kernel
theorem dX12_statement_5 : decode cX12_statement 5 = .ok (.getfield 151, 3) := by decide +kernel
theorem dX12_statement_8 : decode cX12_statement 8 = .ok (.iaload, 1) := by decide +kernel
theorem dX12_statement_9 : decode cX12_statement 9 = .ok (.istore_n 2, 1) := by decide +kernel
theorem dX12_statement_10 : decode cX12_statement 10 = .ok (.aload_n 0, 1) := by decide +kernel
theorem dX12_statement_11 : decode cX12_statement 11 = .ok (.iload_n 2, 1) := by decide +kernel
theorem dX12_statement_12 : decode cX12_statement 12 = .ok (.iconst 1, 1) := by decide +kernel
theorem dX12_statement_13 : decode cX12_statement 13 = .ok (.if_icmp .ne 9, 3) := by decide +kernel
theorem dX12_statement_16 : decode cX12_statement 16 = .ok (.sipush 300, 3) := by decide +kernel
theorem dX12_statement_19 : decode cX12_statement 19 = .ok (.goto 4, 3) := by decide +kernel
theorem dX12_statement_22 : decode cX12_statement 22 = .ok (.iload_n 2, 1) := by decide +kernel
theorem dX12_statement_23 : decode cX12_statement 23 = .ok (.aload_n 0, 1) := by decide +kernel
theorem dX12_statement_24 : decode cX12_statement 24 = .ok (.getfield 151, 3) := by decide +kernel
theorem dX12_statement_27 : decode cX12_statement 27 = .ok (.invokevirtual 161, 3) := by decide +kernel
theorem dX12_statement_30 : decode cX12_statement 30 = .ok (.istore_n 3, 1) := by decide +kernel
theorem dX12_statement_31 : decode cX12_statement 31 = .ok (.iload_n 2, 1) := by decide +kernel
theorem dX12_statement_32 : decode cX12_statement 32 = .ok (.iconst 1, 1) := by decide +kernel
theorem dX12_statement_33 : decode cX12_statement 33 = .ok (.if_icmp .ne 105, 3) := by decide +kernel
theorem dX12_statement_36 : decode cX12_statement 36 = .ok (.aload_n 0, 1) := by decide +kernel
theorem dX12_statement_37 : decode cX12_statement 37 = .ok (.dup, 1) := by decide +kernel
theorem dX12_statement_38 : decode cX12_statement 38 = .ok (.getfield 151, 3) := by decide +kernel
theorem dX12_statement_41 : decode cX12_statement 41 = .ok (.iconst 1, 1) := by decide +kernel
theorem dX12_statement_42 : decode cX12_statement 42 = .ok (.iadd, 1) := by decide +kernel
theorem dX12_statement_43 : decode cX12_statement 43 = .ok (.putfield 151, 3) := by decide +kernel
theorem dX12_statement_46 : decode cX12_statement 46 = .ok (.aload_n 0, 1) := by decide +kernel
theorem dX12_statement_47 : decode cX12_statement 47 = .ok (.getfield 13, 3) := by decide +kernel
theorem dX12_statement_50 : decode cX12_statement 50 = .ok (.aload_n 0, 1) := by decide +kernel
theorem dX12_statement_51 : decode cX12_statement 51 = .ok (.getfield 151, 3) := by decide +kernel
theorem dX12_statement_54 : decode cX12_statement 54 = .ok (.iaload, 1) := by decide +kernel
theorem dX12_statement_55 : decode cX12_statement 55 = .ok (.bipush 91, 2) := by decide +kernel
theorem dX12_statement_57 : decode cX12_statement 57 = .ok (.if_icmp .ne 54, 3) := by decide +kernel
theorem dX12_statement_60 : decode cX12_statement 60 = .ok (.aload_n 0, 1) := by decide +kernel
theorem dX12_statement_61 : decode cX12_statement 61 = .ok (.getfield 22, 3) := by decide +kernel
theorem dX12_statement_64 : decode cX12_statement 64 = .ok (.iload_n 3, 1) := by decide +kernel
theorem dX12_statement_65 : decode cX12_statement 65 = .ok (.sipush 301, 3) := by decide +kernel
theorem dX12_statement_68 : decode cX12_statement 68 = .ok (.iastore, 1) := by decide +kernel
theorem dX12_statement_69 : decode cX12_statement 69 = .ok (.aload_n 0, 1) := by decide +kernel
theorem dX12_statement_70 : decode cX12_statement 70 = .ok (.iload_n 3, 1) := by decide +kernel
theorem dX12_statement_71 : decode cX12_statement 71 = .ok (.aload_n 0, 1) := by decide +kernel
theorem dX12_statement_72 : decode cX12_statement 72 = .ok (.bipush 91, 2) := by decide +kernel
theorem dX12_statement_74 : decode cX12_statement 74 = .ok (.aload_n 0, 1) := by decide +kernel
theorem dX12_statement_75 : decode cX12_statement 75 = .ok (.getfield 151, 3) := by decide +kernel
theorem dX12_statement_78 : decode cX12_statement 78 = .ok (.invokevirtual 161, 3) := by decide +kernel
theorem dX12_statement_81 : decode cX12_statement 81 = .ok (.invokevirtual 164, 3) := by decide +kernel
theorem dX12_statement_84 : decode cX12_statement 84 = .ok (.aload_n 0, 1) := by decide +kernel
theorem dX12_statement_85 : decode cX12_statement 85 = .ok (.dup, 1) := by decide +kernel
theorem dX12_statement_86 : decode cX12_statement 86 = .ok (.getfield 151, 3) := by decide +kernel
theorem dX12_statement_89 : decode cX12_statement 89 = .ok (.iconst 1, 1) := by decide +kernel
theorem dX12_statement_90 : decode cX12_statement 90 = .ok (.iadd, 1) := by decide +kernel
theorem dX12_statement_91 : decode cX12_statement 91 = .ok (.putfield 151, 3) := by decide +kernel
theorem dX12_statement_94 : decode cX12_statement 94 = .ok (.aload_n 0, 1) := by decide +kernel
theorem dX12_statement_95 : decode cX12_statement 95 = .ok (.iload_n 3, 1) := by decide +kernel
theorem dX12_statement_96 : decode cX12_statement 96 = .ok (.aload_n 0, 1) := by decide +kernel
theorem dX12_statement_97 : decode cX12_statement 97 = .ok (.iload_n 1, 1) := by decide +kernel
theorem dX12_statement_98 : decode cX12_statement 98 = .ok (.invokevirtual 174, 3) := by decide +kernel
theorem dX12_statement_101 : decode cX12_statement 101 = .ok (.invokevirtual 164, 3) := by decide +kernel
theorem dX12_statement_104 : decode cX12_statement 104 = .ok (.aload_n 0, 1) := by decide +kernel
theorem dX12_statement_105 : decode cX12_statement 105 = .ok (.bipush 93, 2) := by decide +kernel
theorem dX12_statement_107 : decode cX12_statement 107 = .ok (.invokevirtual 168, 3) := by decide +kernel
theorem dX12_statement_110 : decode cX12_statement 110 = .ok (.pop, 1) := by decide +kernel
theorem dX12_statement_111 : decode cX12_statement 111 = .ok (.aload_n 0, 1) := by decide +kernel
theorem dX12_statement_112 : decode cX12_statement 112 = .ok (.bipush 61, 2) := by decide +kernel
theorem dX12_statement_114 : decode cX12_statement 114 = .ok (.invokevirtual 168, 3) := by decide +kernel
theorem dX12_statement_117 : decode cX12_statement 117 = .ok (.pop, 1) := by decide +kernel
theorem dX12_statement_118 : decode cX12_statement 118 = .ok (.aload_n 0, 1) := by decide +kernel
theorem dX12_statement_119 : decode cX12_statement 119 = .ok (.iload_n 3, 1) := by decide +kernel
theorem dX12_statement_120 : decode cX12_statement 120 = .ok (.aload_n 0, 1) := by decide +kernel
theorem dX12_statement_121 : decode cX12_statement 121 = .ok (.iload_n 1, 1) := by decide +kernel
theorem dX12_statement_122 : decode cX12_statement 122 = .ok (.invokevirtual 174, 3) := by decide +kernel
theorem dX12_statement_125 : decode cX12_statement 125 = .ok (.invokevirtual 164, 3) := by decide +kernel
theorem dX12_statement_128 : decode cX12_statement 128 = .ok (.aload_n 0, 1) := by decide +kernel
theorem dX12_statement_129 : decode cX12_statement 129 = .ok (.bipush 59, 2) := by decide +kernel
theorem dX12_statement_131 : decode cX12_statement 131 = .ok (.invokevirtual 168, 3) := by decide +kernel
theorem dX12_statement_134 : decode cX12_statement 134 = .ok (.pop, 1) := by decide +kernel
theorem dX12_statement_135 : decode cX12_statement 135 = .ok (.goto 150, 3) := by decide +kernel
theorem dX12_statement_138 : decode cX12_statement 138 = .ok (.iload_n 2, 1) := by decide +kernel
theorem dX12_statement_139 : decode cX12_statement 139 = .ok (.bipush 6, 2) := by decide +kernel
theorem dX12_statement_141 : decode cX12_statement 141 = .ok (.if_icmp .ne 33, 3) := by decide +kernel
theorem dX12_statement_144 : decode cX12_statement 144 = .ok (.aload_n 0, 1) := by decide +kernel
theorem dX12_statement_145 : decode cX12_statement 145 = .ok (.dup, 1) := by decide +kernel
theorem dX12_statement_146 : decode cX12_statement 146 = .ok (.getfield 151, 3) := by decide +kernel
theorem dX12_statement_149 : decode cX12_statement 149 = .ok (.iconst 1, 1) := by decide +kernel
theorem dX12_statement_150 : decode cX12_statement 150 = .ok (.iadd, 1) := by decide +kernel
theorem dX12_statement_151 : decode cX12_statement 151 = .ok (.putfield 151, 3) := by decide +kernel
theorem dX12_statement_154 : decode cX12_statement 154 = .ok (.aload_n 0, 1) := by decide +kernel
theorem dX12_statement_155 : decode cX12_statement 155 = .ok (.iload_n 3, 1) := by decide +kernel
theorem dX12_statement_156 : decode cX12_statement 156 = .ok (.aload_n 0, 1) := by decide +kernel
theorem dX12_statement_157 : decode cX12_statement 157 = .ok (.iload_n 1, 1) := by decide +kernel
theorem dX12_statement_158 : decode cX12_statement 158 = .ok (.invokevirtual 174, 3) := by decide +kernel
theorem dX12_statement_161 : decode cX12_statement 161 = .ok (.invokevirtual 164, 3) := by decide +kernel
theorem dX12_statement_164 : decode cX12_statement 164 = .ok (.aload_n 0, 1) := by decide +kernel
theorem dX12_statement_165 : decode cX12_statement 165 = .ok (.bipush 59, 2) := by decide +kernel
theorem dX12_statement_167 : decode cX12_statement 167 = .ok (.invokevirtual 168, 3) := by decide +kernel
theorem dX12_statement_170 : decode cX12_statement 170 = .ok (.pop, 1) := by decide +kernel
theorem dX12_statement_171 : decode cX12_statement 171 = .ok (.goto 114, 3) := by decide +kernel
theorem dX12_statement_174 : decode cX12_statement 174 = .ok (.iload_n 2, 1) := by decide +kernel
theorem dX12_statement_175 : decode cX12_statement 175 = .ok (.bipush 7, 2) := by decide +kernel
theorem dX12_statement_177 : decode cX12_statement 177 = .ok (.if_icmp .eq 9, 3) := by decide +kernel
theorem dX12_statement_180 : decode cX12_statement 180 = .ok (.iload_n 2, 1) := by decide +kernel
theorem dX12_statement_181 : decode cX12_statement 181 = .ok (.bipush 9, 2) := by decide +kernel
theorem dX12_statement_183 : decode cX12_statement 183 = .ok (.if_icmp .ne 97, 3) := by decide +kernel
theorem dX12_statement_186 : decode cX12_statement 186 = .ok (.aload_n 0, 1) := by decide +kernel
theorem dX12_statement_187 : decode cX12_statement 187 = .ok (.dup, 1) := by decide +kernel
theorem dX12_statement_188 : decode cX12_statement 188 = .ok (.getfield 151, 3) := by decide +kernel
theorem dX12_statement_191 : decode cX12_statement 191 = .ok (.iconst 1, 1) := by decide +kernel
theorem dX12_statement_192 : decode cX12_statement 192 = .ok (.iadd, 1) := by decide +kernel
theorem dX12_statement_193 : decode cX12_statement 193 = .ok (.putfield 151, 3) := by decide +kernel
theorem dX12_statement_196 : decode cX12_statement 196 = .ok (.aload_n 0, 1) := by decide +kernel
theorem dX12_statement_197 : decode cX12_statement 197 = .ok (.bipush 40, 2) := by decide +kernel
theorem dX12_statement_199 : decode cX12_statement 199 = .ok (.invokevirtual 168, 3) := by decide +kernel
theorem dX12_statement_202 : decode cX12_statement 202 = .ok (.pop, 1) := by decide +kernel
theorem dX12_statement_203 : decode cX12_statement 203 = .ok (.aload_n 0, 1) := by decide +kernel
theorem dX12_statement_204 : decode cX12_statement 204 = .ok (.iload_n 3, 1) := by decide +kernel
theorem dX12_statement_205 : decode cX12_statement 205 = .ok (.aload_n 0, 1) := by decide +kernel
theorem dX12_statement_206 : decode cX12_statement 206 = .ok (.iload_n 1, 1) := by decide +kernel
theorem dX12_statement_207 : decode cX12_statement 207 = .ok (.invokevirtual 174, 3) := by decide +kernel
theorem dX12_statement_210 : decode cX12_statement 210 = .ok (.invokevirtual 164, 3) := by decide +kernel
theorem dX12_statement_213 : decode cX12_statement 213 = .ok (.aload_n 0, 1) := by decide +kernel
theorem dX12_statement_214 : decode cX12_statement 214 = .ok (.bipush 41, 2) := by decide +kernel
theorem dX12_statement_216 : decode cX12_statement 216 = .ok (.invokevirtual 168, 3) := by decide +kernel
theorem dX12_statement_219 : decode cX12_statement 219 = .ok (.pop, 1) := by decide +kernel
theorem dX12_statement_220 : decode cX12_statement 220 = .ok (.aload_n 0, 1) := by decide +kernel
theorem dX12_statement_221 : decode cX12_statement 221 = .ok (.iload_n 3, 1) := by decide +kernel
theorem dX12_statement_222 : decode cX12_statement 222 = .ok (.aload_n 0, 1) := by decide +kernel
theorem dX12_statement_223 : decode cX12_statement 223 = .ok (.iload_n 1, 1) := by decide +kernel
theorem dX12_statement_224 : decode cX12_statement 224 = .ok (.invokevirtual 177, 3) := by decide +kernel
theorem dX12_statement_227 : decode cX12_statement 227 = .ok (.invokevirtual 164, 3) := by decide +kernel
theorem dX12_statement_230 : decode cX12_statement 230 = .ok (.iload_n 2, 1) := by decide +kernel
theorem dX12_statement_231 : decode cX12_statement 231 = .ok (.bipush 7, 2) := by decide +kernel
theorem dX12_statement_233 : decode cX12_statement 233 = .ok (.if_icmp .ne 52, 3) := by decide +kernel
theorem dX12_statement_236 : decode cX12_statement 236 = .ok (.aload_n 0, 1) := by decide +kernel
theorem dX12_statement_237 : decode cX12_statement 237 = .ok (.getfield 154, 3) := by decide +kernel
theorem dX12_statement_240 : decode cX12_statement 240 = .ok (.ifCond .ne 45, 3) := by decide +kernel
theorem dX12_statement_243 : decode cX12_statement 243 = .ok (.aload_n 0, 1) := by decide +kernel
theorem dX12_statement_244 : decode cX12_statement 244 = .ok (.getfield 13, 3) := by decide +kernel
theorem dX12_statement_247 : decode cX12_statement 247 = .ok (.aload_n 0, 1) := by decide +kernel
theorem dX12_statement_248 : decode cX12_statement 248 = .ok (.getfield 151, 3) := by decide +kernel
theorem dX12_statement_251 : decode cX12_statement 251 = .ok (.iaload, 1) := by decide +kernel
theorem dX12_statement_252 : decode cX12_statement 252 = .ok (.bipush 8, 2) := by decide +kernel
theorem dX12_statement_254 : decode cX12_statement 254 = .ok (.if_icmp .ne 31, 3) := by decide +kernel
theorem dX12_statement_257 : decode cX12_statement 257 = .ok (.aload_n 0, 1) := by decide +kernel
theorem dX12_statement_258 : decode cX12_statement 258 = .ok (.dup, 1) := by decide +kernel
theorem dX12_statement_259 : decode cX12_statement 259 = .ok (.getfield 151, 3) := by decide +kernel
theorem dX12_statement_262 : decode cX12_statement 262 = .ok (.iconst 1, 1) := by decide +kernel
theorem dX12_statement_263 : decode cX12_statement 263 = .ok (.iadd, 1) := by decide +kernel
theorem dX12_statement_264 : decode cX12_statement 264 = .ok (.putfield 151, 3) := by decide +kernel
theorem dX12_statement_267 : decode cX12_statement 267 = .ok (.aload_n 0, 1) := by decide +kernel
theorem dX12_statement_268 : decode cX12_statement 268 = .ok (.iload_n 3, 1) := by decide +kernel
theorem dX12_statement_269 : decode cX12_statement 269 = .ok (.aload_n 0, 1) := by decide +kernel
theorem dX12_statement_270 : decode cX12_statement 270 = .ok (.iload_n 1, 1) := by decide +kernel
theorem dX12_statement_271 : decode cX12_statement 271 = .ok (.invokevirtual 177, 3) := by decide +kernel
theorem dX12_statement_274 : decode cX12_statement 274 = .ok (.invokevirtual 164, 3) := by decide +kernel
theorem dX12_statement_277 : decode cX12_statement 277 = .ok (.goto 8, 3) := by decide +kernel
theorem dX12_statement_280 : decode cX12_statement 280 = .ok (.aload_n 0, 1) := by decide +kernel
theorem dX12_statement_281 : decode cX12_statement 281 = .ok (.iconst 1, 1) := by decide +kernel
theorem dX12_statement_282 : decode cX12_statement 282 = .ok (.putfield 154, 3) := by decide +kernel
theorem dX12_statement_285 : decode cX12_statement 285 = .ok (.iload_n 3, 1) := by decide +kernel
theorem dX12_statement_286 : decode cX12_statement 286 = .ok (.ireturn, 1) := by decide +kernel
theorem dX12_expr_0 : decode cX12_expr 0 = .ok (.aload_n 0, 1) := by decide +kernel
theorem dX12_expr_1 : decode cX12_expr 1 = .ok (.aload_n 0, 1) := by decide +kernel
theorem dX12_expr_2 : decode cX12_expr 2 = .ok (.getfield 154, 3) := by decide +kernel
theorem dX12_expr_5 : decode cX12_expr 5 = .ok (.ifCond .ne 9, 3) := by decide +kernel
theorem dX12_expr_8 : decode cX12_expr 8 = .ok (.iload_n 1, 1) := by decide +kernel
theorem dX12_expr_9 : decode cX12_expr 9 = .ok (.bipush 30, 2) := by decide +kernel
theorem dX12_expr_11 : decode cX12_expr 11 = .ok (.if_icmp .le 7, 3) := by decide +kernel
theorem dX12_expr_14 : decode cX12_expr 14 = .ok (.iconst 1, 1) := by decide +kernel
theorem dX12_expr_15 : decode cX12_expr 15 = .ok (.goto 4, 3) := by decide +kernel
theorem dX12_expr_18 : decode cX12_expr 18 = .ok (.iconst 0, 1) := by decide +kernel
theorem dX12_expr_19 : decode cX12_expr 19 = .ok (.putfield 154, 3) := by decide +kernel
theorem dX12_expr_22 : decode cX12_expr 22 = .ok (.aload_n 0, 1) := by decide +kernel
theorem dX12_expr_23 : decode cX12_expr 23 = .ok (.iconst 0, 1) := by decide +kernel
theorem dX12_expr_24 : decode cX12_expr 24 = .ok (.iload_n 1, 1) := by decide +kernel
theorem dX12_expr_25 : decode cX12_expr 25 = .ok (.iconst 1, 1) := by decide +kernel
theorem dX12_expr_26 : decode cX12_expr 26 = .ok (.iadd, 1) := by decide +kernel
theorem dX12_expr_27 : decode cX12_expr 27 = .ok (.invokevirtual 180, 3) := by decide +kernel
theorem dX12_expr_30 : decode cX12_expr 30 = .ok (.ireturn, 1) := by decide +kernel
theorem dX12_rank_0 : decode cX12_rank 0 = .ok (.iload_n 0, 1) := by decide +kernel
theorem dX12_rank_1 : decode cX12_rank 1 = .ok (.bipush 124, 2) := by decide +kernel
theorem dX12_rank_3 : decode cX12_rank 3 = .ok (.if_icmp .ne 7, 3) := by decide +kernel
theorem dX12_rank_6 : decode cX12_rank 6 = .ok (.iconst 0, 1) := by decide +kernel
theorem dX12_rank_7 : decode cX12_rank 7 = .ok (.goto 105, 3) := by decide +kernel
theorem dX12_rank_10 : decode cX12_rank 10 = .ok (.iload_n 0, 1) := by decide +kernel
theorem dX12_rank_11 : decode cX12_rank 11 = .ok (.bipush 94, 2) := by decide +kernel
theorem dX12_rank_13 : decode cX12_rank 13 = .ok (.if_icmp .ne 7, 3) := by decide +kernel
theorem dX12_rank_16 : decode cX12_rank 16 = .ok (.iconst 1, 1) := by decide +kernel
theorem dX12_rank_17 : decode cX12_rank 17 = .ok (.goto 95, 3) := by decide +kernel
theorem dX12_rank_20 : decode cX12_rank 20 = .ok (.iload_n 0, 1) := by decide +kernel
theorem dX12_rank_21 : decode cX12_rank 21 = .ok (.bipush 38, 2) := by decide +kernel
theorem dX12_rank_23 : decode cX12_rank 23 = .ok (.if_icmp .ne 7, 3) := by decide +kernel
theorem dX12_rank_26 : decode cX12_rank 26 = .ok (.iconst 2, 1) := by decide +kernel
theorem dX12_rank_27 : decode cX12_rank 27 = .ok (.goto 85, 3) := by decide +kernel
theorem dX12_rank_30 : decode cX12_rank 30 = .ok (.iload_n 0, 1) := by decide +kernel
theorem dX12_rank_31 : decode cX12_rank 31 = .ok (.sipush 201, 3) := by decide +kernel
theorem dX12_rank_34 : decode cX12_rank 34 = .ok (.if_icmp .eq 16, 3) := by decide +kernel
theorem dX12_rank_37 : decode cX12_rank 37 = .ok (.iload_n 0, 1) := by decide +kernel
theorem dX12_rank_38 : decode cX12_rank 38 = .ok (.bipush 60, 2) := by decide +kernel
theorem dX12_rank_40 : decode cX12_rank 40 = .ok (.if_icmp .eq 10, 3) := by decide +kernel
theorem dX12_rank_43 : decode cX12_rank 43 = .ok (.iload_n 0, 1) := by decide +kernel
theorem dX12_rank_44 : decode cX12_rank 44 = .ok (.sipush 200, 3) := by decide +kernel
theorem dX12_rank_47 : decode cX12_rank 47 = .ok (.if_icmp .ne 7, 3) := by decide +kernel
theorem dX12_rank_50 : decode cX12_rank 50 = .ok (.iconst 3, 1) := by decide +kernel
theorem dX12_rank_51 : decode cX12_rank 51 = .ok (.goto 61, 3) := by decide +kernel
theorem dX12_rank_54 : decode cX12_rank 54 = .ok (.iload_n 0, 1) := by decide +kernel
theorem dX12_rank_55 : decode cX12_rank 55 = .ok (.sipush 202, 3) := by decide +kernel
theorem dX12_rank_58 : decode cX12_rank 58 = .ok (.if_icmp .eq 10, 3) := by decide +kernel
theorem dX12_rank_61 : decode cX12_rank 61 = .ok (.iload_n 0, 1) := by decide +kernel
theorem dX12_rank_62 : decode cX12_rank 62 = .ok (.sipush 203, 3) := by decide +kernel
theorem dX12_rank_65 : decode cX12_rank 65 = .ok (.if_icmp .ne 7, 3) := by decide +kernel
theorem dX12_rank_68 : decode cX12_rank 68 = .ok (.iconst 4, 1) := by decide +kernel
theorem dX12_rank_69 : decode cX12_rank 69 = .ok (.goto 43, 3) := by decide +kernel
theorem dX12_rank_72 : decode cX12_rank 72 = .ok (.iload_n 0, 1) := by decide +kernel
theorem dX12_rank_73 : decode cX12_rank 73 = .ok (.bipush 43, 2) := by decide +kernel
theorem dX12_rank_75 : decode cX12_rank 75 = .ok (.if_icmp .eq 9, 3) := by decide +kernel
theorem dX12_rank_78 : decode cX12_rank 78 = .ok (.iload_n 0, 1) := by decide +kernel
theorem dX12_rank_79 : decode cX12_rank 79 = .ok (.bipush 45, 2) := by decide +kernel
theorem dX12_rank_81 : decode cX12_rank 81 = .ok (.if_icmp .ne 7, 3) := by decide +kernel
theorem dX12_rank_84 : decode cX12_rank 84 = .ok (.iconst 5, 1) := by decide +kernel
theorem dX12_rank_85 : decode cX12_rank 85 = .ok (.goto 27, 3) := by decide +kernel
theorem dX12_rank_88 : decode cX12_rank 88 = .ok (.iload_n 0, 1) := by decide +kernel
theorem dX12_rank_89 : decode cX12_rank 89 = .ok (.bipush 42, 2) := by decide +kernel
theorem dX12_rank_91 : decode cX12_rank 91 = .ok (.if_icmp .eq 15, 3) := by decide +kernel
theorem dX12_rank_94 : decode cX12_rank 94 = .ok (.iload_n 0, 1) := by decide +kernel
theorem dX12_rank_95 : decode cX12_rank 95 = .ok (.bipush 47, 2) := by decide +kernel
theorem dX12_rank_97 : decode cX12_rank 97 = .ok (.if_icmp .eq 9, 3) := by decide +kernel
theorem dX12_rank_100 : decode cX12_rank 100 = .ok (.iload_n 0, 1) := by decide +kernel
theorem dX12_rank_101 : decode cX12_rank 101 = .ok (.bipush 37, 2) := by decide +kernel
theorem dX12_rank_103 : decode cX12_rank 103 = .ok (.if_icmp .ne 8, 3) := by decide +kernel
theorem dX12_rank_106 : decode cX12_rank 106 = .ok (.bipush 6, 2) := by decide +kernel
theorem dX12_rank_108 : decode cX12_rank 108 = .ok (.goto 4, 3) := by decide +kernel
theorem dX12_rank_111 : decode cX12_rank 111 = .ok (.iconst (-1), 1) := by decide +kernel
theorem dX12_rank_112 : decode cX12_rank 112 = .ok (.ireturn, 1) := by decide +kernel
theorem dX12_level_0 : decode cX12_level 0 = .ok (.iload_n 1, 1) := by decide +kernel
theorem dX12_level_1 : decode cX12_level 1 = .ok (.bipush 7, 2) := by decide +kernel
theorem dX12_level_3 : decode cX12_level 3 = .ok (.if_icmp .ne 9, 3) := by decide +kernel
theorem dX12_level_6 : decode cX12_level 6 = .ok (.aload_n 0, 1) := by decide +kernel
theorem dX12_level_7 : decode cX12_level 7 = .ok (.iload_n 2, 1) := by decide +kernel
theorem dX12_level_8 : decode cX12_level 8 = .ok (.invokevirtual 183, 3) := by decide +kernel
theorem dX12_level_11 : decode cX12_level 11 = .ok (.ireturn, 1) := by decide +kernel
theorem dX12_level_12 : decode cX12_level 12 = .ok (.aload_n 0, 1) := by decide +kernel
theorem dX12_level_13 : decode cX12_level 13 = .ok (.getfield 154, 3) := by decide +kernel
theorem dX12_level_16 : decode cX12_level 16 = .ok (.ifCond .eq 16, 3) := by decide +kernel
theorem dX12_level_19 : decode cX12_level 19 = .ok (.aload_n 0, 1) := by decide +kernel
theorem dX12_level_20 : decode cX12_level 20 = .ok (.bipush 11, 2) := by decide +kernel
theorem dX12_level_22 : decode cX12_level 22 = .ok (.aload_n 0, 1) := by decide +kernel
theorem dX12_level_23 : decode cX12_level 23 = .ok (.getfield 151, 3) := by decide +kernel
theorem dX12_level_26 : decode cX12_level 26 = .ok (.invokevirtual 161, 3) := by decide +kernel
theorem dX12_level_29 : decode cX12_level 29 = .ok (.goto 11, 3) := by decide +kernel
theorem dX12_level_32 : decode cX12_level 32 = .ok (.aload_n 0, 1) := by decide +kernel
theorem dX12_level_33 : decode cX12_level 33 = .ok (.iload_n 1, 1) := by decide +kernel
theorem dX12_level_34 : decode cX12_level 34 = .ok (.iconst 1, 1) := by decide +kernel
theorem dX12_level_35 : decode cX12_level 35 = .ok (.iadd, 1) := by decide +kernel
theorem dX12_level_36 : decode cX12_level 36 = .ok (.iload_n 2, 1) := by decide +kernel
theorem dX12_level_37 : decode cX12_level 37 = .ok (.invokevirtual 180, 3) := by decide +kernel
theorem dX12_level_40 : decode cX12_level 40 = .ok (.istore_n 3, 1) := by decide +kernel
theorem dX12_level_41 : decode cX12_level 41 = .ok (.aload_n 0, 1) := by decide +kernel
theorem dX12_level_42 : decode cX12_level 42 = .ok (.getfield 154, 3) := by decide +kernel
theorem dX12_level_45 : decode cX12_level 45 = .ok (.ifCond .ne 75, 3) := by decide +kernel
theorem dX12_level_48 : decode cX12_level 48 = .ok (.aload_n 0, 1) := by decide +kernel
theorem dX12_level_49 : decode cX12_level 49 = .ok (.getfield 13, 3) := by decide +kernel
theorem dX12_level_52 : decode cX12_level 52 = .ok (.aload_n 0, 1) := by decide +kernel
theorem dX12_level_53 : decode cX12_level 53 = .ok (.getfield 151, 3) := by decide +kernel
theorem dX12_level_56 : decode cX12_level 56 = .ok (.iaload, 1) := by decide +kernel
theorem dX12_level_57 : decode cX12_level 57 = .ok (.invokestatic 186, 3) := by decide +kernel
theorem dX12_level_60 : decode cX12_level 60 = .ok (.iload_n 1, 1) := by decide +kernel
theorem dX12_level_61 : decode cX12_level 61 = .ok (.if_icmp .ne 59, 3) := by decide +kernel
theorem dX12_level_64 : decode cX12_level 64 = .ok (.aload_n 0, 1) := by decide +kernel
theorem dX12_level_65 : decode cX12_level 65 = .ok (.aload_n 0, 1) := by decide +kernel
theorem dX12_level_66 : decode cX12_level 66 = .ok (.getfield 13, 3) := by decide +kernel
theorem dX12_level_69 : decode cX12_level 69 = .ok (.aload_n 0, 1) := by decide +kernel
theorem dX12_level_70 : decode cX12_level 70 = .ok (.getfield 151, 3) := by decide +kernel
theorem dX12_level_73 : decode cX12_level 73 = .ok (.iaload, 1) := by decide +kernel
theorem dX12_level_74 : decode cX12_level 74 = .ok (.aload_n 0, 1) := by decide +kernel
theorem dX12_level_75 : decode cX12_level 75 = .ok (.getfield 151, 3) := by decide +kernel
theorem dX12_level_78 : decode cX12_level 78 = .ok (.invokevirtual 161, 3) := by decide +kernel
theorem dX12_level_81 : decode cX12_level 81 = .ok (.istore 4, 2) := by decide +kernel
theorem dX12_level_83 : decode cX12_level 83 = .ok (.aload_n 0, 1) := by decide +kernel
theorem dX12_level_84 : decode cX12_level 84 = .ok (.dup, 1) := by decide +kernel
theorem dX12_level_85 : decode cX12_level 85 = .ok (.getfield 151, 3) := by decide +kernel
theorem dX12_level_88 : decode cX12_level 88 = .ok (.iconst 1, 1) := by decide +kernel
theorem dX12_level_89 : decode cX12_level 89 = .ok (.iadd, 1) := by decide +kernel
theorem dX12_level_90 : decode cX12_level 90 = .ok (.putfield 151, 3) := by decide +kernel
theorem dX12_level_93 : decode cX12_level 93 = .ok (.aload_n 0, 1) := by decide +kernel
theorem dX12_level_94 : decode cX12_level 94 = .ok (.iload 4, 2) := by decide +kernel
theorem dX12_level_96 : decode cX12_level 96 = .ok (.iload_n 3, 1) := by decide +kernel
theorem dX12_level_97 : decode cX12_level 97 = .ok (.invokevirtual 164, 3) := by decide +kernel
theorem dX12_level_100 : decode cX12_level 100 = .ok (.aload_n 0, 1) := by decide +kernel
theorem dX12_level_101 : decode cX12_level 101 = .ok (.iload 4, 2) := by decide +kernel
theorem dX12_level_103 : decode cX12_level 103 = .ok (.aload_n 0, 1) := by decide +kernel
theorem dX12_level_104 : decode cX12_level 104 = .ok (.iload_n 1, 1) := by decide +kernel
theorem dX12_level_105 : decode cX12_level 105 = .ok (.iconst 1, 1) := by decide +kernel
theorem dX12_level_106 : decode cX12_level 106 = .ok (.iadd, 1) := by decide +kernel
theorem dX12_level_107 : decode cX12_level 107 = .ok (.iload_n 2, 1) := by decide +kernel
theorem dX12_level_108 : decode cX12_level 108 = .ok (.invokevirtual 180, 3) := by decide +kernel
theorem dX12_level_111 : decode cX12_level 111 = .ok (.invokevirtual 164, 3) := by decide +kernel
theorem dX12_level_114 : decode cX12_level 114 = .ok (.iload 4, 2) := by decide +kernel
theorem dX12_level_116 : decode cX12_level 116 = .ok (.istore_n 3, 1) := by decide +kernel
theorem dX12_level_117 : decode cX12_level 117 = .ok (.goto (-76), 3) := by decide +kernel
theorem dX12_level_120 : decode cX12_level 120 = .ok (.iload_n 3, 1) := by decide +kernel
theorem dX12_level_121 : decode cX12_level 121 = .ok (.ireturn, 1) := by decide +kernel
theorem dX12_unary_0 : decode cX12_unary 0 = .ok (.aload_n 0, 1) := by decide +kernel
theorem dX12_unary_1 : decode cX12_unary 1 = .ok (.aload_n 0, 1) := by decide +kernel
theorem dX12_unary_2 : decode cX12_unary 2 = .ok (.getfield 154, 3) := by decide +kernel
theorem dX12_unary_5 : decode cX12_unary 5 = .ok (.ifCond .ne 9, 3) := by decide +kernel
theorem dX12_unary_8 : decode cX12_unary 8 = .ok (.iload_n 1, 1) := by decide +kernel
theorem dX12_unary_9 : decode cX12_unary 9 = .ok (.bipush 30, 2) := by decide +kernel
theorem dX12_unary_11 : decode cX12_unary 11 = .ok (.if_icmp .le 7, 3) := by decide +kernel
theorem dX12_unary_14 : decode cX12_unary 14 = .ok (.iconst 1, 1) := by decide +kernel
theorem dX12_unary_15 : decode cX12_unary 15 = .ok (.goto 4, 3) := by decide +kernel
theorem dX12_unary_18 : decode cX12_unary 18 = .ok (.iconst 0, 1) := by decide +kernel
theorem dX12_unary_19 : decode cX12_unary 19 = .ok (.putfield 154, 3) := by decide +kernel
theorem dX12_unary_22 : decode cX12_unary 22 = .ok (.aload_n 0, 1) := by decide +kernel
theorem dX12_unary_23 : decode cX12_unary 23 = .ok (.getfield 154, 3) := by decide +kernel
theorem dX12_unary_26 : decode cX12_unary 26 = .ok (.ifCond .eq 14, 3) := by decide +kernel
theorem dX12_unary_29 : decode cX12_unary 29 = .ok (.aload_n 0, 1) := by decide +kernel
theorem dX12_unary_30 : decode cX12_unary 30 = .ok (.bipush 11, 2) := by decide +kernel
theorem dX12_unary_32 : decode cX12_unary 32 = .ok (.aload_n 0, 1) := by decide +kernel
theorem dX12_unary_33 : decode cX12_unary 33 = .ok (.getfield 151, 3) := by decide +kernel
theorem dX12_unary_36 : decode cX12_unary 36 = .ok (.invokevirtual 161, 3) := by decide +kernel
theorem dX12_unary_39 : decode cX12_unary 39 = .ok (.ireturn, 1) := by decide +kernel
theorem dX12_unary_40 : decode cX12_unary 40 = .ok (.aload_n 0, 1) := by decide +kernel
theorem dX12_unary_41 : decode cX12_unary 41 = .ok (.getfield 13, 3) := by decide +kernel
theorem dX12_unary_44 : decode cX12_unary 44 = .ok (.aload_n 0, 1) := by decide +kernel
theorem dX12_unary_45 : decode cX12_unary 45 = .ok (.getfield 151, 3) := by decide +kernel
theorem dX12_unary_48 : decode cX12_unary 48 = .ok (.iaload, 1) := by decide +kernel
theorem dX12_unary_49 : decode cX12_unary 49 = .ok (.istore_n 2, 1) := by decide +kernel
theorem dX12_unary_50 : decode cX12_unary 50 = .ok (.aload_n 0, 1) := by decide +kernel
theorem dX12_unary_51 : decode cX12_unary 51 = .ok (.iload_n 2, 1) := by decide +kernel
theorem dX12_unary_52 : decode cX12_unary 52 = .ok (.bipush 45, 2) := by decide +kernel
theorem dX12_unary_54 : decode cX12_unary 54 = .ok (.if_icmp .ne 9, 3) := by decide +kernel
theorem dX12_unary_57 : decode cX12_unary 57 = .ok (.sipush 304, 3) := by decide +kernel
theorem dX12_unary_60 : decode cX12_unary 60 = .ok (.goto 4, 3) := by decide +kernel
theorem dX12_unary_63 : decode cX12_unary 63 = .ok (.iload_n 2, 1) := by decide +kernel
theorem dX12_unary_64 : decode cX12_unary 64 = .ok (.aload_n 0, 1) := by decide +kernel
theorem dX12_unary_65 : decode cX12_unary 65 = .ok (.getfield 151, 3) := by decide +kernel
theorem dX12_unary_68 : decode cX12_unary 68 = .ok (.invokevirtual 161, 3) := by decide +kernel
theorem dX12_unary_71 : decode cX12_unary 71 = .ok (.istore_n 3, 1) := by decide +kernel
theorem dX12_unary_72 : decode cX12_unary 72 = .ok (.iload_n 2, 1) := by decide +kernel
theorem dX12_unary_73 : decode cX12_unary 73 = .ok (.bipush 45, 2) := by decide +kernel
theorem dX12_unary_75 : decode cX12_unary 75 = .ok (.if_icmp .eq 15, 3) := by decide +kernel
theorem dX12_unary_78 : decode cX12_unary 78 = .ok (.iload_n 2, 1) := by decide +kernel
theorem dX12_unary_79 : decode cX12_unary 79 = .ok (.bipush 126, 2) := by decide +kernel
theorem dX12_unary_81 : decode cX12_unary 81 = .ok (.if_icmp .eq 9, 3) := by decide +kernel
theorem dX12_unary_84 : decode cX12_unary 84 = .ok (.iload_n 2, 1) := by decide +kernel
theorem dX12_unary_85 : decode cX12_unary 85 = .ok (.bipush 33, 2) := by decide +kernel
theorem dX12_unary_87 : decode cX12_unary 87 = .ok (.if_icmp .ne 28, 3) := by decide +kernel
theorem dX12_unary_90 : decode cX12_unary 90 = .ok (.aload_n 0, 1) := by decide +kernel
theorem dX12_unary_91 : decode cX12_unary 91 = .ok (.dup, 1) := by decide +kernel
theorem dX12_unary_92 : decode cX12_unary 92 = .ok (.getfield 151, 3) := by decide +kernel
theorem dX12_unary_95 : decode cX12_unary 95 = .ok (.iconst 1, 1) := by decide +kernel
theorem dX12_unary_96 : decode cX12_unary 96 = .ok (.iadd, 1) := by decide +kernel
theorem dX12_unary_97 : decode cX12_unary 97 = .ok (.putfield 151, 3) := by decide +kernel
theorem dX12_unary_100 : decode cX12_unary 100 = .ok (.aload_n 0, 1) := by decide +kernel
theorem dX12_unary_101 : decode cX12_unary 101 = .ok (.iload_n 3, 1) := by decide +kernel
theorem dX12_unary_102 : decode cX12_unary 102 = .ok (.aload_n 0, 1) := by decide +kernel
theorem dX12_unary_103 : decode cX12_unary 103 = .ok (.iload_n 1, 1) := by decide +kernel
theorem dX12_unary_104 : decode cX12_unary 104 = .ok (.iconst 1, 1) := by decide +kernel
theorem dX12_unary_105 : decode cX12_unary 105 = .ok (.iadd, 1) := by decide +kernel
theorem dX12_unary_106 : decode cX12_unary 106 = .ok (.invokevirtual 183, 3) := by decide +kernel
theorem dX12_unary_109 : decode cX12_unary 109 = .ok (.invokevirtual 164, 3) := by decide +kernel
theorem dX12_unary_112 : decode cX12_unary 112 = .ok (.goto 145, 3) := by decide +kernel
theorem dX12_unary_115 : decode cX12_unary 115 = .ok (.iload_n 2, 1) := by decide +kernel
theorem dX12_unary_116 : decode cX12_unary 116 = .ok (.iconst 2, 1) := by decide +kernel
theorem dX12_unary_117 : decode cX12_unary 117 = .ok (.if_icmp .ne 16, 3) := by decide +kernel
theorem dX12_unary_120 : decode cX12_unary 120 = .ok (.aload_n 0, 1) := by decide +kernel
theorem dX12_unary_121 : decode cX12_unary 121 = .ok (.dup, 1) := by decide +kernel
theorem dX12_unary_122 : decode cX12_unary 122 = .ok (.getfield 151, 3) := by decide +kernel
theorem dX12_unary_125 : decode cX12_unary 125 = .ok (.iconst 1, 1) := by decide +kernel
theorem dX12_unary_126 : decode cX12_unary 126 = .ok (.iadd, 1) := by decide +kernel
theorem dX12_unary_127 : decode cX12_unary 127 = .ok (.putfield 151, 3) := by decide +kernel
theorem dX12_unary_130 : decode cX12_unary 130 = .ok (.goto 127, 3) := by decide +kernel
theorem dX12_unary_133 : decode cX12_unary 133 = .ok (.iload_n 2, 1) := by decide +kernel
theorem dX12_unary_134 : decode cX12_unary 134 = .ok (.iconst 1, 1) := by decide +kernel
theorem dX12_unary_135 : decode cX12_unary 135 = .ok (.if_icmp .ne 83, 3) := by decide +kernel
theorem dX12_unary_138 : decode cX12_unary 138 = .ok (.aload_n 0, 1) := by decide +kernel
theorem dX12_unary_139 : decode cX12_unary 139 = .ok (.dup, 1) := by decide +kernel
theorem dX12_unary_140 : decode cX12_unary 140 = .ok (.getfield 151, 3) := by decide +kernel
theorem dX12_unary_143 : decode cX12_unary 143 = .ok (.iconst 1, 1) := by decide +kernel
theorem dX12_unary_144 : decode cX12_unary 144 = .ok (.iadd, 1) := by decide +kernel
theorem dX12_unary_145 : decode cX12_unary 145 = .ok (.putfield 151, 3) := by decide +kernel
theorem dX12_unary_148 : decode cX12_unary 148 = .ok (.aload_n 0, 1) := by decide +kernel
theorem dX12_unary_149 : decode cX12_unary 149 = .ok (.getfield 13, 3) := by decide +kernel
theorem dX12_unary_152 : decode cX12_unary 152 = .ok (.aload_n 0, 1) := by decide +kernel
theorem dX12_unary_153 : decode cX12_unary 153 = .ok (.getfield 151, 3) := by decide +kernel
theorem dX12_unary_156 : decode cX12_unary 156 = .ok (.iaload, 1) := by decide +kernel
theorem dX12_unary_157 : decode cX12_unary 157 = .ok (.bipush 91, 2) := by decide +kernel
theorem dX12_unary_159 : decode cX12_unary 159 = .ok (.if_icmp .ne 98, 3) := by decide +kernel
theorem dX12_unary_162 : decode cX12_unary 162 = .ok (.aload_n 0, 1) := by decide +kernel
theorem dX12_unary_163 : decode cX12_unary 163 = .ok (.getfield 22, 3) := by decide +kernel
theorem dX12_unary_166 : decode cX12_unary 166 = .ok (.iload_n 3, 1) := by decide +kernel
theorem dX12_unary_167 : decode cX12_unary 167 = .ok (.sipush 303, 3) := by decide +kernel
theorem dX12_unary_170 : decode cX12_unary 170 = .ok (.iastore, 1) := by decide +kernel
theorem dX12_unary_171 : decode cX12_unary 171 = .ok (.aload_n 0, 1) := by decide +kernel
theorem dX12_unary_172 : decode cX12_unary 172 = .ok (.iload_n 3, 1) := by decide +kernel
theorem dX12_unary_173 : decode cX12_unary 173 = .ok (.aload_n 0, 1) := by decide +kernel
theorem dX12_unary_174 : decode cX12_unary 174 = .ok (.bipush 91, 2) := by decide +kernel
theorem dX12_unary_176 : decode cX12_unary 176 = .ok (.aload_n 0, 1) := by decide +kernel
theorem dX12_unary_177 : decode cX12_unary 177 = .ok (.getfield 151, 3) := by decide +kernel
theorem dX12_unary_180 : decode cX12_unary 180 = .ok (.invokevirtual 161, 3) := by decide +kernel
theorem dX12_unary_183 : decode cX12_unary 183 = .ok (.invokevirtual 164, 3) := by decide +kernel
theorem dX12_unary_186 : decode cX12_unary 186 = .ok (.aload_n 0, 1) := by decide +kernel
theorem dX12_unary_187 : decode cX12_unary 187 = .ok (.dup, 1) := by decide +kernel
theorem dX12_unary_188 : decode cX12_unary 188 = .ok (.getfield 151, 3) := by decide +kernel
theorem dX12_unary_191 : decode cX12_unary 191 = .ok (.iconst 1, 1) := by decide +kernel
theorem dX12_unary_192 : decode cX12_unary 192 = .ok (.iadd, 1) := by decide +kernel
theorem dX12_unary_193 : decode cX12_unary 193 = .ok (.putfield 151, 3) := by decide +kernel
theorem dX12_unary_196 : decode cX12_unary 196 = .ok (.aload_n 0, 1) := by decide +kernel
theorem dX12_unary_197 : decode cX12_unary 197 = .ok (.iload_n 3, 1) := by decide +kernel
theorem dX12_unary_198 : decode cX12_unary 198 = .ok (.aload_n 0, 1) := by decide +kernel
theorem dX12_unary_199 : decode cX12_unary 199 = .ok (.iload_n 1, 1) := by decide +kernel
theorem dX12_unary_200 : decode cX12_unary 200 = .ok (.iconst 1, 1) := by decide +kernel
theorem dX12_unary_201 : decode cX12_unary 201 = .ok (.iadd, 1) := by decide +kernel
theorem dX12_unary_202 : decode cX12_unary 202 = .ok (.invokevirtual 174, 3) := by decide +kernel
theorem dX12_unary_205 : decode cX12_unary 205 = .ok (.invokevirtual 164, 3) := by decide +kernel
theorem dX12_unary_208 : decode cX12_unary 208 = .ok (.aload_n 0, 1) := by decide +kernel
theorem dX12_unary_209 : decode cX12_unary 209 = .ok (.bipush 93, 2) := by decide +kernel
theorem dX12_unary_211 : decode cX12_unary 211 = .ok (.invokevirtual 168, 3) := by decide +kernel
theorem dX12_unary_214 : decode cX12_unary 214 = .ok (.pop, 1) := by decide +kernel
theorem dX12_unary_215 : decode cX12_unary 215 = .ok (.goto 42, 3) := by decide +kernel
theorem dX12_unary_218 : decode cX12_unary 218 = .ok (.iload_n 2, 1) := by decide +kernel
theorem dX12_unary_219 : decode cX12_unary 219 = .ok (.bipush 40, 2) := by decide +kernel
theorem dX12_unary_221 : decode cX12_unary 221 = .ok (.if_icmp .ne 31, 3) := by decide +kernel
theorem dX12_unary_224 : decode cX12_unary 224 = .ok (.aload_n 0, 1) := by decide +kernel
theorem dX12_unary_225 : decode cX12_unary 225 = .ok (.dup, 1) := by decide +kernel
theorem dX12_unary_226 : decode cX12_unary 226 = .ok (.getfield 151, 3) := by decide +kernel
theorem dX12_unary_229 : decode cX12_unary 229 = .ok (.iconst 1, 1) := by decide +kernel
theorem dX12_unary_230 : decode cX12_unary 230 = .ok (.iadd, 1) := by decide +kernel
theorem dX12_unary_231 : decode cX12_unary 231 = .ok (.putfield 151, 3) := by decide +kernel
theorem dX12_unary_234 : decode cX12_unary 234 = .ok (.aload_n 0, 1) := by decide +kernel
theorem dX12_unary_235 : decode cX12_unary 235 = .ok (.iload_n 1, 1) := by decide +kernel
theorem dX12_unary_236 : decode cX12_unary 236 = .ok (.iconst 1, 1) := by decide +kernel
theorem dX12_unary_237 : decode cX12_unary 237 = .ok (.iadd, 1) := by decide +kernel
theorem dX12_unary_238 : decode cX12_unary 238 = .ok (.invokevirtual 174, 3) := by decide +kernel
theorem dX12_unary_241 : decode cX12_unary 241 = .ok (.istore_n 3, 1) := by decide +kernel
theorem dX12_unary_242 : decode cX12_unary 242 = .ok (.aload_n 0, 1) := by decide +kernel
theorem dX12_unary_243 : decode cX12_unary 243 = .ok (.bipush 41, 2) := by decide +kernel
theorem dX12_unary_245 : decode cX12_unary 245 = .ok (.invokevirtual 168, 3) := by decide +kernel
theorem dX12_unary_248 : decode cX12_unary 248 = .ok (.pop, 1) := by decide +kernel
theorem dX12_unary_249 : decode cX12_unary 249 = .ok (.goto 8, 3) := by decide +kernel
theorem dX12_unary_252 : decode cX12_unary 252 = .ok (.aload_n 0, 1) := by decide +kernel
theorem dX12_unary_253 : decode cX12_unary 253 = .ok (.iconst 1, 1) := by decide +kernel
theorem dX12_unary_254 : decode cX12_unary 254 = .ok (.putfield 154, 3) := by decide +kernel
theorem dX12_unary_257 : decode cX12_unary 257 = .ok (.iload_n 3, 1) := by decide +kernel
theorem dX12_unary_258 : decode cX12_unary 258 = .ok (.ireturn, 1) := by decide +kernel
theorem dX12_wrong_0 : decode cX12_wrong 0 = .ok (.aload_n 0, 1) := by decide +kernel
theorem dX12_wrong_1 : decode cX12_wrong 1 = .ok (.getfield 189, 3) := by decide +kernel
theorem dX12_wrong_4 : decode cX12_wrong 4 = .ok (.ifCond .ne 13, 3) := by decide +kernel
theorem dX12_wrong_7 : decode cX12_wrong 7 = .ok (.aload_n 0, 1) := by decide +kernel
theorem dX12_wrong_8 : decode cX12_wrong 8 = .ok (.iload_n 1, 1) := by decide +kernel
theorem dX12_wrong_9 : decode cX12_wrong 9 = .ok (.putfield 189, 3) := by decide +kernel
theorem dX12_wrong_12 : decode cX12_wrong 12 = .ok (.aload_n 0, 1) := by decide +kernel
theorem dX12_wrong_13 : decode cX12_wrong 13 = .ok (.iload_n 2, 1) := by decide +kernel
theorem dX12_wrong_14 : decode cX12_wrong 14 = .ok (.putfield 192, 3) := by decide +kernel
theorem dX12_wrong_17 : decode cX12_wrong 17 = .ok (.return_, 1) := by decide +kernel
theorem dX12_find_0 : decode cX12_find 0 = .ok (.iconst 0, 1) := by decide +kernel
theorem dX12_find_1 : decode cX12_find 1 = .ok (.istore_n 2, 1) := by decide +kernel
theorem dX12_find_2 : decode cX12_find 2 = .ok (.iload_n 2, 1) := by decide +kernel
theorem dX12_find_3 : decode cX12_find 3 = .ok (.aload_n 0, 1) := by decide +kernel
theorem dX12_find_4 : decode cX12_find 4 = .ok (.getfield 195, 3) := by decide +kernel
theorem dX12_find_7 : decode cX12_find 7 = .ok (.if_icmp .ge 105, 3) := by decide +kernel
theorem dX12_find_10 : decode cX12_find 10 = .ok (.aload_n 0, 1) := by decide +kernel
theorem dX12_find_11 : decode cX12_find 11 = .ok (.getfield 19, 3) := by decide +kernel
theorem dX12_find_14 : decode cX12_find 14 = .ok (.aload_n 0, 1) := by decide +kernel
theorem dX12_find_15 : decode cX12_find 15 = .ok (.getfield 41, 3) := by decide +kernel
theorem dX12_find_18 : decode cX12_find 18 = .ok (.iload_n 2, 1) := by decide +kernel
theorem dX12_find_19 : decode cX12_find 19 = .ok (.iaload, 1) := by decide +kernel
theorem dX12_find_20 : decode cX12_find 20 = .ok (.iaload, 1) := by decide +kernel
theorem dX12_find_21 : decode cX12_find 21 = .ok (.aload_n 0, 1) := by decide +kernel
theorem dX12_find_22 : decode cX12_find 22 = .ok (.getfield 19, 3) := by decide +kernel
theorem dX12_find_25 : decode cX12_find 25 = .ok (.iload_n 1, 1) := by decide +kernel
theorem dX12_find_26 : decode cX12_find 26 = .ok (.iaload, 1) := by decide +kernel
theorem dX12_find_27 : decode cX12_find 27 = .ok (.if_icmp .ne 7, 3) := by decide +kernel
theorem dX12_find_30 : decode cX12_find 30 = .ok (.iconst 1, 1) := by decide +kernel
theorem dX12_find_31 : decode cX12_find 31 = .ok (.goto 4, 3) := by decide +kernel
theorem dX12_find_34 : decode cX12_find 34 = .ok (.iconst 0, 1) := by decide +kernel
theorem dX12_find_35 : decode cX12_find 35 = .ok (.istore_n 3, 1) := by decide +kernel
theorem dX12_find_36 : decode cX12_find 36 = .ok (.iconst 0, 1) := by decide +kernel
theorem dX12_find_37 : decode cX12_find 37 = .ok (.istore 4, 2) := by decide +kernel
theorem dX12_find_39 : decode cX12_find 39 = .ok (.iload 4, 2) := by decide +kernel
theorem dX12_find_41 : decode cX12_find 41 = .ok (.aload_n 0, 1) := by decide +kernel
theorem dX12_find_42 : decode cX12_find 42 = .ok (.getfield 19, 3) := by decide +kernel
theorem dX12_find_45 : decode cX12_find 45 = .ok (.iload_n 1, 1) := by decide +kernel
theorem dX12_find_46 : decode cX12_find 46 = .ok (.iaload, 1) := by decide +kernel
theorem dX12_find_47 : decode cX12_find 47 = .ok (.if_icmp .ge 53, 3) := by decide +kernel
theorem dX12_find_50 : decode cX12_find 50 = .ok (.iload_n 3, 1) := by decide +kernel
theorem dX12_find_51 : decode cX12_find 51 = .ok (.ifCond .eq 49, 3) := by decide +kernel
theorem dX12_find_54 : decode cX12_find 54 = .ok (.aload_n 0, 1) := by decide +kernel
theorem dX12_find_55 : decode cX12_find 55 = .ok (.aload_n 0, 1) := by decide +kernel
theorem dX12_find_56 : decode cX12_find 56 = .ok (.getfield 16, 3) := by decide +kernel
theorem dX12_find_59 : decode cX12_find 59 = .ok (.aload_n 0, 1) := by decide +kernel
theorem dX12_find_60 : decode cX12_find 60 = .ok (.getfield 41, 3) := by decide +kernel
theorem dX12_find_63 : decode cX12_find 63 = .ok (.iload_n 2, 1) := by decide +kernel
theorem dX12_find_64 : decode cX12_find 64 = .ok (.iaload, 1) := by decide +kernel
theorem dX12_find_65 : decode cX12_find 65 = .ok (.iaload, 1) := by decide +kernel
theorem dX12_find_66 : decode cX12_find 66 = .ok (.iload 4, 2) := by decide +kernel
theorem dX12_find_68 : decode cX12_find 68 = .ok (.iadd, 1) := by decide +kernel
theorem dX12_find_69 : decode cX12_find 69 = .ok (.invokevirtual 101, 3) := by decide +kernel
theorem dX12_find_72 : decode cX12_find 72 = .ok (.aload_n 0, 1) := by decide +kernel
theorem dX12_find_73 : decode cX12_find 73 = .ok (.aload_n 0, 1) := by decide +kernel
theorem dX12_find_74 : decode cX12_find 74 = .ok (.getfield 16, 3) := by decide +kernel
theorem dX12_find_77 : decode cX12_find 77 = .ok (.iload_n 1, 1) := by decide +kernel
theorem dX12_find_78 : decode cX12_find 78 = .ok (.iaload, 1) := by decide +kernel
theorem dX12_find_79 : decode cX12_find 79 = .ok (.iload 4, 2) := by decide +kernel
theorem dX12_find_81 : decode cX12_find 81 = .ok (.iadd, 1) := by decide +kernel
theorem dX12_find_82 : decode cX12_find 82 = .ok (.invokevirtual 101, 3) := by decide +kernel
theorem dX12_find_85 : decode cX12_find 85 = .ok (.if_icmp .ne 7, 3) := by decide +kernel
theorem dX12_find_88 : decode cX12_find 88 = .ok (.iconst 1, 1) := by decide +kernel
theorem dX12_find_89 : decode cX12_find 89 = .ok (.goto 4, 3) := by decide +kernel
theorem dX12_find_92 : decode cX12_find 92 = .ok (.iconst 0, 1) := by decide +kernel
theorem dX12_find_93 : decode cX12_find 93 = .ok (.istore_n 3, 1) := by decide +kernel
theorem dX12_find_94 : decode cX12_find 94 = .ok (.iinc 4 1, 3) := by decide +kernel
theorem dX12_find_97 : decode cX12_find 97 = .ok (.goto (-58), 3) := by decide +kernel
theorem dX12_find_100 : decode cX12_find 100 = .ok (.iload_n 3, 1) := by decide +kernel
theorem dX12_find_101 : decode cX12_find 101 = .ok (.ifCond .eq 5, 3) := by decide +kernel
theorem dX12_find_104 : decode cX12_find 104 = .ok (.iload_n 2, 1) := by decide +kernel
theorem dX12_find_105 : decode cX12_find 105 = .ok (.ireturn, 1) := by decide +kernel
theorem dX12_find_106 : decode cX12_find 106 = .ok (.iinc 2 1, 3) := by decide +kernel
theorem dX12_find_109 : decode cX12_find 109 = .ok (.goto (-107), 3) := by decide +kernel
theorem dX12_find_112 : decode cX12_find 112 = .ok (.iconst (-1), 1) := by decide +kernel
theorem dX12_find_113 : decode cX12_find 113 = .ok (.ireturn, 1) := by decide +kernel
theorem dX12_number_0 : decode cX12_number 0 = .ok (.lconst 0, 1) := by decide +kernel
theorem dX12_number_1 : decode cX12_number 1 = .ok (.lstore_n 2, 1) := by decide +kernel
theorem dX12_number_2 : decode cX12_number 2 = .ok (.iconst 0, 1) := by decide +kernel
theorem dX12_number_3 : decode cX12_number 3 = .ok (.istore 4, 2) := by decide +kernel
theorem dX12_number_5 : decode cX12_number 5 = .ok (.iload 4, 2) := by decide +kernel
theorem dX12_number_7 : decode cX12_number 7 = .ok (.aload_n 0, 1) := by decide +kernel
theorem dX12_number_8 : decode cX12_number 8 = .ok (.getfield 19, 3) := by decide +kernel
theorem dX12_number_11 : decode cX12_number 11 = .ok (.iload_n 1, 1) := by decide +kernel
theorem dX12_number_12 : decode cX12_number 12 = .ok (.iaload, 1) := by decide +kernel
theorem dX12_number_13 : decode cX12_number 13 = .ok (.if_icmp .ge 34, 3) := by decide +kernel
theorem dX12_number_16 : decode cX12_number 16 = .ok (.ldc2_w 140, 3) := by decide +kernel
theorem dX12_number_19 : decode cX12_number 19 = .ok (.lload_n 2, 1) := by decide +kernel
theorem dX12_number_20 : decode cX12_number 20 = .ok (.lmul, 1) := by decide +kernel
theorem dX12_number_21 : decode cX12_number 21 = .ok (.aload_n 0, 1) := by decide +kernel
theorem dX12_number_22 : decode cX12_number 22 = .ok (.aload_n 0, 1) := by decide +kernel
theorem dX12_number_23 : decode cX12_number 23 = .ok (.getfield 16, 3) := by decide +kernel
theorem dX12_number_26 : decode cX12_number 26 = .ok (.iload_n 1, 1) := by decide +kernel
theorem dX12_number_27 : decode cX12_number 27 = .ok (.iaload, 1) := by decide +kernel
theorem dX12_number_28 : decode cX12_number 28 = .ok (.iload 4, 2) := by decide +kernel
theorem dX12_number_30 : decode cX12_number 30 = .ok (.iadd, 1) := by decide +kernel
theorem dX12_number_31 : decode cX12_number 31 = .ok (.invokevirtual 101, 3) := by decide +kernel
theorem dX12_number_34 : decode cX12_number 34 = .ok (.i2l, 1) := by decide +kernel
theorem dX12_number_35 : decode cX12_number 35 = .ok (.ladd, 1) := by decide +kernel
theorem dX12_number_36 : decode cX12_number 36 = .ok (.ldc2_w 142, 3) := by decide +kernel
theorem dX12_number_39 : decode cX12_number 39 = .ok (.lsub, 1) := by decide +kernel
theorem dX12_number_40 : decode cX12_number 40 = .ok (.lstore_n 2, 1) := by decide +kernel
theorem dX12_number_41 : decode cX12_number 41 = .ok (.iinc 4 1, 3) := by decide +kernel
theorem dX12_number_44 : decode cX12_number 44 = .ok (.goto (-39), 3) := by decide +kernel
theorem dX12_number_47 : decode cX12_number 47 = .ok (.lload_n 2, 1) := by decide +kernel
theorem dX12_number_48 : decode cX12_number 48 = .ok (.l2i, 1) := by decide +kernel
theorem dX12_number_49 : decode cX12_number 49 = .ok (.ireturn, 1) := by decide +kernel
theorem dX12_declare_0 : decode cX12_declare 0 = .ok (.aload_n 0, 1) := by decide +kernel
theorem dX12_declare_1 : decode cX12_declare 1 = .ok (.getfield 22, 3) := by decide +kernel
theorem dX12_declare_4 : decode cX12_declare 4 = .ok (.aload_n 0, 1) := by decide +kernel
theorem dX12_declare_5 : decode cX12_declare 5 = .ok (.getfield 28, 3) := by decide +kernel
theorem dX12_declare_8 : decode cX12_declare 8 = .ok (.iload_n 1, 1) := by decide +kernel
theorem dX12_declare_9 : decode cX12_declare 9 = .ok (.iaload, 1) := by decide +kernel
theorem dX12_declare_10 : decode cX12_declare 10 = .ok (.iaload, 1) := by decide +kernel
theorem dX12_declare_11 : decode cX12_declare 11 = .ok (.iconst 5, 1) := by decide +kernel
theorem dX12_declare_12 : decode cX12_declare 12 = .ok (.if_icmp .ne 7, 3) := by decide +kernel
theorem dX12_declare_15 : decode cX12_declare 15 = .ok (.iconst 1, 1) := by decide +kernel
theorem dX12_declare_16 : decode cX12_declare 16 = .ok (.goto 4, 3) := by decide +kernel
theorem dX12_declare_19 : decode cX12_declare 19 = .ok (.iconst 0, 1) := by decide +kernel
theorem dX12_declare_20 : decode cX12_declare 20 = .ok (.istore_n 2, 1) := by decide +kernel
theorem dX12_declare_21 : decode cX12_declare 21 = .ok (.iload_n 2, 1) := by decide +kernel
theorem dX12_declare_22 : decode cX12_declare 22 = .ok (.ifCond .eq 17, 3) := by decide +kernel
theorem dX12_declare_25 : decode cX12_declare 25 = .ok (.aload_n 0, 1) := by decide +kernel
theorem dX12_declare_26 : decode cX12_declare 26 = .ok (.getfield 31, 3) := by decide +kernel
theorem dX12_declare_29 : decode cX12_declare 29 = .ok (.aload_n 0, 1) := by decide +kernel
theorem dX12_declare_30 : decode cX12_declare 30 = .ok (.getfield 28, 3) := by decide +kernel
theorem dX12_declare_33 : decode cX12_declare 33 = .ok (.iload_n 1, 1) := by decide +kernel
theorem dX12_declare_34 : decode cX12_declare 34 = .ok (.iaload, 1) := by decide +kernel
theorem dX12_declare_35 : decode cX12_declare 35 = .ok (.iaload, 1) := by decide +kernel
theorem dX12_declare_36 : decode cX12_declare 36 = .ok (.goto 9, 3) := by decide +kernel
theorem dX12_declare_39 : decode cX12_declare 39 = .ok (.aload_n 0, 1) := by decide +kernel
theorem dX12_declare_40 : decode cX12_declare 40 = .ok (.getfield 28, 3) := by decide +kernel
theorem dX12_declare_43 : decode cX12_declare 43 = .ok (.iload_n 1, 1) := by decide +kernel
theorem dX12_declare_44 : decode cX12_declare 44 = .ok (.iaload, 1) := by decide +kernel
theorem dX12_declare_45 : decode cX12_declare 45 = .ok (.istore_n 3, 1) := by decide +kernel
theorem dX12_declare_46 : decode cX12_declare 46 = .ok (.aload_n 0, 1) := by decide +kernel
theorem dX12_declare_47 : decode cX12_declare 47 = .ok (.aload_n 0, 1) := by decide +kernel
theorem dX12_declare_48 : decode cX12_declare 48 = .ok (.getfield 25, 3) := by decide +kernel
theorem dX12_declare_51 : decode cX12_declare 51 = .ok (.iload_n 3, 1) := by decide +kernel
theorem dX12_declare_52 : decode cX12_declare 52 = .ok (.iaload, 1) := by decide +kernel
theorem dX12_declare_53 : decode cX12_declare 53 = .ok (.invokevirtual 198, 3) := by decide +kernel
theorem dX12_declare_56 : decode cX12_declare 56 = .ok (.iconst (-1), 1) := by decide +kernel
theorem dX12_declare_57 : decode cX12_declare 57 = .ok (.if_icmp .eq 15, 3) := by decide +kernel
theorem dX12_declare_60 : decode cX12_declare 60 = .ok (.aload_n 0, 1) := by decide +kernel
theorem dX12_declare_61 : decode cX12_declare 61 = .ok (.iconst 1, 1) := by decide +kernel
theorem dX12_declare_62 : decode cX12_declare 62 = .ok (.aload_n 0, 1) := by decide +kernel
theorem dX12_declare_63 : decode cX12_declare 63 = .ok (.getfield 25, 3) := by decide +kernel
theorem dX12_declare_66 : decode cX12_declare 66 = .ok (.iload_n 3, 1) := by decide +kernel
theorem dX12_declare_67 : decode cX12_declare 67 = .ok (.iaload, 1) := by decide +kernel
theorem dX12_declare_68 : decode cX12_declare 68 = .ok (.invokevirtual 201, 3) := by decide +kernel
theorem dX12_declare_71 : decode cX12_declare 71 = .ok (.return_, 1) := by decide +kernel
theorem dX12_declare_72 : decode cX12_declare 72 = .ok (.aload_n 0, 1) := by decide +kernel
theorem dX12_declare_73 : decode cX12_declare 73 = .ok (.getfield 28, 3) := by decide +kernel
theorem dX12_declare_76 : decode cX12_declare 76 = .ok (.iload_n 3, 1) := by decide +kernel
theorem dX12_declare_77 : decode cX12_declare 77 = .ok (.iaload, 1) := by decide +kernel
theorem dX12_declare_78 : decode cX12_declare 78 = .ok (.iconst (-1), 1) := by decide +kernel
theorem dX12_declare_79 : decode cX12_declare 79 = .ok (.if_icmp .eq 7, 3) := by decide +kernel
theorem dX12_declare_82 : decode cX12_declare 82 = .ok (.iconst 1, 1) := by decide +kernel
theorem dX12_declare_83 : decode cX12_declare 83 = .ok (.goto 4, 3) := by decide +kernel
theorem dX12_declare_86 : decode cX12_declare 86 = .ok (.iconst 0, 1) := by decide +kernel
theorem dX12_declare_87 : decode cX12_declare 87 = .ok (.istore 4, 2) := by decide +kernel
theorem dX12_declare_89 : decode cX12_declare 89 = .ok (.iload 4, 2) := by decide +kernel
theorem dX12_declare_91 : decode cX12_declare 91 = .ok (.ifCond .eq 21, 3) := by decide +kernel
theorem dX12_declare_94 : decode cX12_declare 94 = .ok (.aload_n 0, 1) := by decide +kernel
theorem dX12_declare_95 : decode cX12_declare 95 = .ok (.aload_n 0, 1) := by decide +kernel
theorem dX12_declare_96 : decode cX12_declare 96 = .ok (.getfield 25, 3) := by decide +kernel
theorem dX12_declare_99 : decode cX12_declare 99 = .ok (.aload_n 0, 1) := by decide +kernel
theorem dX12_declare_100 : decode cX12_declare 100 = .ok (.getfield 28, 3) := by decide +kernel
theorem dX12_declare_103 : decode cX12_declare 103 = .ok (.iload_n 3, 1) := by decide +kernel
theorem dX12_declare_104 : decode cX12_declare 104 = .ok (.iaload, 1) := by decide +kernel
theorem dX12_declare_105 : decode cX12_declare 105 = .ok (.iaload, 1) := by decide +kernel
theorem dX12_declare_106 : decode cX12_declare 106 = .ok (.invokevirtual 204, 3) := by decide +kernel
theorem dX12_declare_109 : decode cX12_declare 109 = .ok (.goto 4, 3) := by decide +kernel
theorem dX12_declare_112 : decode cX12_declare 112 = .ok (.iconst 1, 1) := by decide +kernel
theorem dX12_declare_113 : decode cX12_declare 113 = .ok (.istore 5, 2) := by decide +kernel
theorem dX12_declare_115 : decode cX12_declare 115 = .ok (.iload 5, 2) := by decide +kernel
theorem dX12_declare_117 : decode cX12_declare 117 = .ok (.iconst 1, 1) := by decide +kernel
theorem dX12_declare_118 : decode cX12_declare 118 = .ok (.if_icmp .lt 10, 3) := by decide +kernel
theorem dX12_declare_121 : decode cX12_declare 121 = .ok (.iload 5, 2) := by decide +kernel
theorem dX12_declare_123 : decode cX12_declare 123 = .ok (.bipush 64, 2) := by decide +kernel
theorem dX12_declare_125 : decode cX12_declare 125 = .ok (.if_icmp .le 20, 3) := by decide +kernel
theorem dX12_declare_128 : decode cX12_declare 128 = .ok (.aload_n 0, 1) := by decide +kernel
theorem dX12_declare_129 : decode cX12_declare 129 = .ok (.iconst 2, 1) := by decide +kernel
theorem dX12_declare_130 : decode cX12_declare 130 = .ok (.aload_n 0, 1) := by decide +kernel
theorem dX12_declare_131 : decode cX12_declare 131 = .ok (.getfield 25, 3) := by decide +kernel
theorem dX12_declare_134 : decode cX12_declare 134 = .ok (.aload_n 0, 1) := by decide +kernel
theorem dX12_declare_135 : decode cX12_declare 135 = .ok (.getfield 28, 3) := by decide +kernel
theorem dX12_declare_138 : decode cX12_declare 138 = .ok (.iload_n 3, 1) := by decide +kernel
theorem dX12_declare_139 : decode cX12_declare 139 = .ok (.iaload, 1) := by decide +kernel
theorem dX12_declare_140 : decode cX12_declare 140 = .ok (.iaload, 1) := by decide +kernel
theorem dX12_declare_141 : decode cX12_declare 141 = .ok (.invokevirtual 201, 3) := by decide +kernel
theorem dX12_declare_144 : decode cX12_declare 144 = .ok (.return_, 1) := by decide +kernel
theorem dX12_declare_145 : decode cX12_declare 145 = .ok (.aload_n 0, 1) := by decide +kernel
theorem dX12_declare_146 : decode cX12_declare 146 = .ok (.getfield 207, 3) := by decide +kernel
theorem dX12_declare_149 : decode cX12_declare 149 = .ok (.iload 5, 2) := by decide +kernel
theorem dX12_declare_151 : decode cX12_declare 151 = .ok (.iadd, 1) := by decide +kernel
theorem dX12_declare_152 : decode cX12_declare 152 = .ok (.sipush 200, 3) := by decide +kernel
theorem dX12_declare_155 : decode cX12_declare 155 = .ok (.if_icmp .le 15, 3) := by decide +kernel
theorem dX12_declare_158 : decode cX12_declare 158 = .ok (.aload_n 0, 1) := by decide +kernel
theorem dX12_declare_159 : decode cX12_declare 159 = .ok (.iconst 2, 1) := by decide +kernel
theorem dX12_declare_160 : decode cX12_declare 160 = .ok (.aload_n 0, 1) := by decide +kernel
theorem dX12_declare_161 : decode cX12_declare 161 = .ok (.getfield 25, 3) := by decide +kernel
theorem dX12_declare_164 : decode cX12_declare 164 = .ok (.iload_n 3, 1) := by decide +kernel
theorem dX12_declare_165 : decode cX12_declare 165 = .ok (.iaload, 1) := by decide +kernel
theorem dX12_declare_166 : decode cX12_declare 166 = .ok (.invokevirtual 201, 3) := by decide +kernel
theorem dX12_declare_169 : decode cX12_declare 169 = .ok (.return_, 1) := by decide +kernel
theorem dX12_declare_170 : decode cX12_declare 170 = .ok (.aload_n 0, 1) := by decide +kernel
theorem dX12_declare_171 : decode cX12_declare 171 = .ok (.getfield 41, 3) := by decide +kernel
theorem dX12_declare_174 : decode cX12_declare 174 = .ok (.aload_n 0, 1) := by decide +kernel
theorem dX12_declare_175 : decode cX12_declare 175 = .ok (.getfield 195, 3) := by decide +kernel
theorem dX12_declare_178 : decode cX12_declare 178 = .ok (.aload_n 0, 1) := by decide +kernel
theorem dX12_declare_179 : decode cX12_declare 179 = .ok (.getfield 25, 3) := by decide +kernel
theorem dX12_declare_182 : decode cX12_declare 182 = .ok (.iload_n 3, 1) := by decide +kernel
theorem dX12_declare_183 : decode cX12_declare 183 = .ok (.iaload, 1) := by decide +kernel
theorem dX12_declare_184 : decode cX12_declare 184 = .ok (.iastore, 1) := by decide +kernel
theorem dX12_declare_185 : decode cX12_declare 185 = .ok (.aload_n 0, 1) := by decide +kernel
theorem dX12_declare_186 : decode cX12_declare 186 = .ok (.getfield 44, 3) := by decide +kernel
theorem dX12_declare_189 : decode cX12_declare 189 = .ok (.aload_n 0, 1) := by decide +kernel
theorem dX12_declare_190 : decode cX12_declare 190 = .ok (.getfield 195, 3) := by decide +kernel
theorem dX12_declare_193 : decode cX12_declare 193 = .ok (.iload 5, 2) := by decide +kernel
theorem dX12_declare_195 : decode cX12_declare 195 = .ok (.iastore, 1) := by decide +kernel
theorem dX12_declare_196 : decode cX12_declare 196 = .ok (.aload_n 0, 1) := by decide +kernel
theorem dX12_declare_197 : decode cX12_declare 197 = .ok (.getfield 47, 3) := by decide +kernel
theorem dX12_declare_200 : decode cX12_declare 200 = .ok (.aload_n 0, 1) := by decide +kernel
theorem dX12_declare_201 : decode cX12_declare 201 = .ok (.getfield 195, 3) := by decide +kernel
theorem dX12_declare_204 : decode cX12_declare 204 = .ok (.aload_n 0, 1) := by decide +kernel
theorem dX12_declare_205 : decode cX12_declare 205 = .ok (.getfield 207, 3) := by decide +kernel
theorem dX12_declare_208 : decode cX12_declare 208 = .ok (.iastore, 1) := by decide +kernel
theorem dX12_declare_209 : decode cX12_declare 209 = .ok (.aload_n 0, 1) := by decide +kernel
theorem dX12_declare_210 : decode cX12_declare 210 = .ok (.getfield 50, 3) := by decide +kernel
theorem dX12_declare_213 : decode cX12_declare 213 = .ok (.aload_n 0, 1) := by decide +kernel
theorem dX12_declare_214 : decode cX12_declare 214 = .ok (.getfield 195, 3) := by decide +kernel
theorem dX12_declare_217 : decode cX12_declare 217 = .ok (.iload 4, 2) := by decide +kernel
theorem dX12_declare_219 : decode cX12_declare 219 = .ok (.bastore, 1) := by decide +kernel
theorem dX12_declare_220 : decode cX12_declare 220 = .ok (.aload_n 0, 1) := by decide +kernel
theorem dX12_declare_221 : decode cX12_declare 221 = .ok (.getfield 53, 3) := by decide +kernel
theorem dX12_declare_224 : decode cX12_declare 224 = .ok (.aload_n 0, 1) := by decide +kernel
theorem dX12_declare_225 : decode cX12_declare 225 = .ok (.getfield 195, 3) := by decide +kernel
theorem dX12_declare_228 : decode cX12_declare 228 = .ok (.aload_n 0, 1) := by decide +kernel
theorem dX12_declare_229 : decode cX12_declare 229 = .ok (.getfield 22, 3) := by decide +kernel
theorem dX12_declare_232 : decode cX12_declare 232 = .ok (.iload_n 1, 1) := by decide +kernel
theorem dX12_declare_233 : decode cX12_declare 233 = .ok (.iaload, 1) := by decide +kernel
theorem dX12_declare_234 : decode cX12_declare 234 = .ok (.iconst 4, 1) := by decide +kernel
theorem dX12_declare_235 : decode cX12_declare 235 = .ok (.if_icmp .ne 7, 3) := by decide +kernel
theorem dX12_declare_238 : decode cX12_declare 238 = .ok (.iconst 1, 1) := by decide +kernel
theorem dX12_declare_239 : decode cX12_declare 239 = .ok (.goto 4, 3) := by decide +kernel
theorem dX12_declare_242 : decode cX12_declare 242 = .ok (.iconst 0, 1) := by decide +kernel
theorem dX12_declare_243 : decode cX12_declare 243 = .ok (.bastore, 1) := by decide +kernel
theorem dX12_declare_244 : decode cX12_declare 244 = .ok (.iconst 0, 1) := by decide +kernel
theorem dX12_declare_245 : decode cX12_declare 245 = .ok (.istore 6, 2) := by decide +kernel
theorem dX12_declare_247 : decode cX12_declare 247 = .ok (.iload 6, 2) := by decide +kernel
theorem dX12_declare_249 : decode cX12_declare 249 = .ok (.iload 5, 2) := by decide +kernel
theorem dX12_declare_251 : decode cX12_declare 251 = .ok (.if_icmp .ge 63, 3) := by decide +kernel
theorem dX12_declare_254 : decode cX12_declare 254 = .ok (.iload_n 2, 1) := by decide +kernel
theorem dX12_declare_255 : decode cX12_declare 255 = .ok (.ifCond .eq 59, 3) := by decide +kernel
theorem dX12_declare_258 : decode cX12_declare 258 = .ok (.aload_n 0, 1) := by decide +kernel
theorem dX12_declare_259 : decode cX12_declare 259 = .ok (.getfield 56, 3) := by decide +kernel
theorem dX12_declare_262 : decode cX12_declare 262 = .ok (.aload_n 0, 1) := by decide +kernel
theorem dX12_declare_263 : decode cX12_declare 263 = .ok (.getfield 210, 3) := by decide +kernel
theorem dX12_declare_266 : decode cX12_declare 266 = .ok (.aload_n 0, 1) := by decide +kernel
theorem dX12_declare_267 : decode cX12_declare 267 = .ok (.getfield 207, 3) := by decide +kernel
theorem dX12_declare_270 : decode cX12_declare 270 = .ok (.iload 6, 2) := by decide +kernel
theorem dX12_declare_272 : decode cX12_declare 272 = .ok (.iadd, 1) := by decide +kernel
theorem dX12_declare_273 : decode cX12_declare 273 = .ok (.iastore, 1) := by decide +kernel
theorem dX12_declare_274 : decode cX12_declare 274 = .ok (.aload_n 0, 1) := by decide +kernel
theorem dX12_declare_275 : decode cX12_declare 275 = .ok (.dup, 1) := by decide +kernel
theorem dX12_declare_276 : decode cX12_declare 276 = .ok (.getfield 210, 3) := by decide +kernel
theorem dX12_declare_279 : decode cX12_declare 279 = .ok (.iconst 1, 1) := by decide +kernel
theorem dX12_declare_280 : decode cX12_declare 280 = .ok (.iadd, 1) := by decide +kernel
theorem dX12_declare_281 : decode cX12_declare 281 = .ok (.putfield 210, 3) := by decide +kernel
theorem dX12_declare_284 : decode cX12_declare 284 = .ok (.aload_n 0, 1) := by decide +kernel
theorem dX12_declare_285 : decode cX12_declare 285 = .ok (.dup, 1) := by decide +kernel
theorem dX12_declare_286 : decode cX12_declare 286 = .ok (.getfield 213, 3) := by decide +kernel
theorem dX12_declare_289 : decode cX12_declare 289 = .ok (.aload_n 0, 1) := by decide +kernel
theorem dX12_declare_290 : decode cX12_declare 290 = .ok (.getfield 22, 3) := by decide +kernel
theorem dX12_declare_293 : decode cX12_declare 293 = .ok (.iload_n 1, 1) := by decide +kernel
theorem dX12_declare_294 : decode cX12_declare 294 = .ok (.iaload, 1) := by decide +kernel
theorem dX12_declare_295 : decode cX12_declare 295 = .ok (.iconst 3, 1) := by decide +kernel
theorem dX12_declare_296 : decode cX12_declare 296 = .ok (.if_icmp .ne 7, 3) := by decide +kernel
theorem dX12_declare_299 : decode cX12_declare 299 = .ok (.iconst 1, 1) := by decide +kernel
theorem dX12_declare_300 : decode cX12_declare 300 = .ok (.goto 4, 3) := by decide +kernel
theorem dX12_declare_303 : decode cX12_declare 303 = .ok (.iconst 0, 1) := by decide +kernel
theorem dX12_declare_304 : decode cX12_declare 304 = .ok (.iadd, 1) := by decide +kernel
theorem dX12_declare_305 : decode cX12_declare 305 = .ok (.putfield 213, 3) := by decide +kernel
theorem dX12_declare_308 : decode cX12_declare 308 = .ok (.iinc 6 1, 3) := by decide +kernel
theorem dX12_declare_311 : decode cX12_declare 311 = .ok (.goto (-64), 3) := by decide +kernel
theorem dX12_declare_314 : decode cX12_declare 314 = .ok (.aload_n 0, 1) := by decide +kernel
theorem dX12_declare_315 : decode cX12_declare 315 = .ok (.dup, 1) := by decide +kernel
theorem dX12_declare_316 : decode cX12_declare 316 = .ok (.getfield 207, 3) := by decide +kernel
theorem dX12_declare_319 : decode cX12_declare 319 = .ok (.iload 5, 2) := by decide +kernel
theorem dX12_declare_321 : decode cX12_declare 321 = .ok (.iadd, 1) := by decide +kernel
theorem dX12_declare_322 : decode cX12_declare 322 = .ok (.putfield 207, 3) := by decide +kernel
theorem dX12_declare_325 : decode cX12_declare 325 = .ok (.aload_n 0, 1) := by decide +kernel
theorem dX12_declare_326 : decode cX12_declare 326 = .ok (.dup, 1) := by decide +kernel
theorem dX12_declare_327 : decode cX12_declare 327 = .ok (.getfield 195, 3) := by decide +kernel
theorem dX12_declare_330 : decode cX12_declare 330 = .ok (.iconst 1, 1) := by decide +kernel
theorem dX12_declare_331 : decode cX12_declare 331 = .ok (.iadd, 1) := by decide +kernel
theorem dX12_declare_332 : decode cX12_declare 332 = .ok (.putfield 195, 3) := by decide +kernel
theorem dX12_declare_335 : decode cX12_declare 335 = .ok (.return_, 1) := by decide +kernel
theorem dX12_name_0 : decode cX12_name 0 = .ok (.aload_n 0, 1) := by decide +kernel
theorem dX12_name_1 : decode cX12_name 1 = .ok (.iload_n 1, 1) := by decide +kernel
theorem dX12_name_2 : decode cX12_name 2 = .ok (.invokevirtual 198, 3) := by decide +kernel
theorem dX12_name_5 : decode cX12_name 5 = .ok (.istore_n 2, 1) := by decide +kernel
theorem dX12_name_6 : decode cX12_name 6 = .ok (.iload_n 2, 1) := by decide +kernel
theorem dX12_name_7 : decode cX12_name 7 = .ok (.iconst (-1), 1) := by decide +kernel
theorem dX12_name_8 : decode cX12_name 8 = .ok (.if_icmp .ne 9, 3) := by decide +kernel
theorem dX12_name_11 : decode cX12_name 11 = .ok (.aload_n 0, 1) := by decide +kernel
theorem dX12_name_12 : decode cX12_name 12 = .ok (.iconst 1, 1) := by decide +kernel
theorem dX12_name_13 : decode cX12_name 13 = .ok (.iload_n 1, 1) := by decide +kernel
theorem dX12_name_14 : decode cX12_name 14 = .ok (.invokevirtual 201, 3) := by decide +kernel
theorem dX12_name_17 : decode cX12_name 17 = .ok (.iload_n 2, 1) := by decide +kernel
theorem dX12_name_18 : decode cX12_name 18 = .ok (.ireturn, 1) := by decide +kernel
theorem dX12_leftmost_0 : decode cX12_leftmost 0 = .ok (.iload_n 1, 1) := by decide +kernel
theorem dX12_leftmost_1 : decode cX12_leftmost 1 = .ok (.istore_n 2, 1) := by decide +kernel
theorem dX12_leftmost_2 : decode cX12_leftmost 2 = .ok (.aload_n 0, 1) := by decide +kernel
theorem dX12_leftmost_3 : decode cX12_leftmost 3 = .ok (.getfield 22, 3) := by decide +kernel
theorem dX12_leftmost_6 : decode cX12_leftmost 6 = .ok (.iload_n 2, 1) := by decide +kernel
theorem dX12_leftmost_7 : decode cX12_leftmost 7 = .ok (.iaload, 1) := by decide +kernel
theorem dX12_leftmost_8 : decode cX12_leftmost 8 = .ok (.invokestatic 186, 3) := by decide +kernel
theorem dX12_leftmost_11 : decode cX12_leftmost 11 = .ok (.iconst (-1), 1) := by decide +kernel
theorem dX12_leftmost_12 : decode cX12_leftmost 12 = .ok (.if_icmp .eq 25, 3) := by decide +kernel
theorem dX12_leftmost_15 : decode cX12_leftmost 15 = .ok (.aload_n 0, 1) := by decide +kernel
theorem dX12_leftmost_16 : decode cX12_leftmost 16 = .ok (.getfield 78, 3) := by decide +kernel
theorem dX12_leftmost_19 : decode cX12_leftmost 19 = .ok (.aload_n 0, 1) := by decide +kernel
theorem dX12_leftmost_20 : decode cX12_leftmost 20 = .ok (.getfield 28, 3) := by decide +kernel
theorem dX12_leftmost_23 : decode cX12_leftmost 23 = .ok (.iload_n 2, 1) := by decide +kernel
theorem dX12_leftmost_24 : decode cX12_leftmost 24 = .ok (.iaload, 1) := by decide +kernel
theorem dX12_leftmost_25 : decode cX12_leftmost 25 = .ok (.iload_n 2, 1) := by decide +kernel
theorem dX12_leftmost_26 : decode cX12_leftmost 26 = .ok (.iastore, 1) := by decide +kernel
theorem dX12_leftmost_27 : decode cX12_leftmost 27 = .ok (.aload_n 0, 1) := by decide +kernel
theorem dX12_leftmost_28 : decode cX12_leftmost 28 = .ok (.getfield 28, 3) := by decide +kernel
theorem dX12_leftmost_31 : decode cX12_leftmost 31 = .ok (.iload_n 2, 1) := by decide +kernel
theorem dX12_leftmost_32 : decode cX12_leftmost 32 = .ok (.iaload, 1) := by decide +kernel
theorem dX12_leftmost_33 : decode cX12_leftmost 33 = .ok (.istore_n 2, 1) := by decide +kernel
theorem dX12_leftmost_34 : decode cX12_leftmost 34 = .ok (.goto (-32), 3) := by decide +kernel
theorem dX12_leftmost_37 : decode cX12_leftmost 37 = .ok (.iload_n 2, 1) := by decide +kernel
theorem dX12_leftmost_38 : decode cX12_leftmost 38 = .ok (.ireturn, 1) := by decide +kernel
theorem dX12_check_0 : decode cX12_check 0 = .ok (.aload_n 0, 1) := by decide +kernel
theorem dX12_check_1 : decode cX12_check 1 = .ok (.iload_n 1, 1) := by decide +kernel
theorem dX12_check_2 : decode cX12_check 2 = .ok (.invokevirtual 216, 3) := by decide +kernel
theorem dX12_check_5 : decode cX12_check 5 = .ok (.istore_n 3, 1) := by decide +kernel
theorem dX12_check_6 : decode cX12_check 6 = .ok (.aload_n 0, 1) := by decide +kernel
theorem dX12_check_7 : decode cX12_check 7 = .ok (.iload_n 3, 1) := by decide +kernel
theorem dX12_check_8 : decode cX12_check 8 = .ok (.iload_n 2, 1) := by decide +kernel
theorem dX12_check_9 : decode cX12_check 9 = .ok (.invokevirtual 219, 3) := by decide +kernel
theorem dX12_check_12 : decode cX12_check 12 = .ok (.iload_n 3, 1) := by decide +kernel
theorem dX12_check_13 : decode cX12_check 13 = .ok (.iload_n 1, 1) := by decide +kernel
theorem dX12_check_14 : decode cX12_check 14 = .ok (.if_icmp .eq 138, 3) := by decide +kernel
theorem dX12_check_17 : decode cX12_check 17 = .ok (.aload_n 0, 1) := by decide +kernel
theorem dX12_check_18 : decode cX12_check 18 = .ok (.getfield 78, 3) := by decide +kernel
theorem dX12_check_21 : decode cX12_check 21 = .ok (.iload_n 3, 1) := by decide +kernel
theorem dX12_check_22 : decode cX12_check 22 = .ok (.iaload, 1) := by decide +kernel
theorem dX12_check_23 : decode cX12_check 23 = .ok (.istore_n 3, 1) := by decide +kernel
theorem dX12_check_24 : decode cX12_check 24 = .ok (.aload_n 0, 1) := by decide +kernel
theorem dX12_check_25 : decode cX12_check 25 = .ok (.aload_n 0, 1) := by decide +kernel
theorem dX12_check_26 : decode cX12_check 26 = .ok (.getfield 31, 3) := by decide +kernel
theorem dX12_check_29 : decode cX12_check 29 = .ok (.aload_n 0, 1) := by decide +kernel
theorem dX12_check_30 : decode cX12_check 30 = .ok (.getfield 28, 3) := by decide +kernel
theorem dX12_check_33 : decode cX12_check 33 = .ok (.iload_n 3, 1) := by decide +kernel
theorem dX12_check_34 : decode cX12_check 34 = .ok (.iaload, 1) := by decide +kernel
theorem dX12_check_35 : decode cX12_check 35 = .ok (.iaload, 1) := by decide +kernel
theorem dX12_check_36 : decode cX12_check 36 = .ok (.iload_n 2, 1) := by decide +kernel
theorem dX12_check_37 : decode cX12_check 37 = .ok (.invokevirtual 223, 3) := by decide +kernel
theorem dX12_check_40 : decode cX12_check 40 = .ok (.aload_n 0, 1) := by decide +kernel
theorem dX12_check_41 : decode cX12_check 41 = .ok (.getfield 34, 3) := by decide +kernel
theorem dX12_check_44 : decode cX12_check 44 = .ok (.iload_n 3, 1) := by decide +kernel
theorem dX12_check_45 : decode cX12_check 45 = .ok (.aload_n 0, 1) := by decide +kernel
theorem dX12_check_46 : decode cX12_check 46 = .ok (.getfield 34, 3) := by decide +kernel
theorem dX12_check_49 : decode cX12_check 49 = .ok (.aload_n 0, 1) := by decide +kernel
theorem dX12_check_50 : decode cX12_check 50 = .ok (.getfield 28, 3) := by decide +kernel
theorem dX12_check_53 : decode cX12_check 53 = .ok (.iload_n 3, 1) := by decide +kernel
theorem dX12_check_54 : decode cX12_check 54 = .ok (.iaload, 1) := by decide +kernel
theorem dX12_check_55 : decode cX12_check 55 = .ok (.baload, 1) := by decide +kernel
theorem dX12_check_56 : decode cX12_check 56 = .ok (.ifCond .ne 22, 3) := by decide +kernel
theorem dX12_check_59 : decode cX12_check 59 = .ok (.aload_n 0, 1) := by decide +kernel
theorem dX12_check_60 : decode cX12_check 60 = .ok (.getfield 34, 3) := by decide +kernel
theorem dX12_check_63 : decode cX12_check 63 = .ok (.aload_n 0, 1) := by decide +kernel
theorem dX12_check_64 : decode cX12_check 64 = .ok (.getfield 31, 3) := by decide +kernel
theorem dX12_check_67 : decode cX12_check 67 = .ok (.aload_n 0, 1) := by decide +kernel
theorem dX12_check_68 : decode cX12_check 68 = .ok (.getfield 28, 3) := by decide +kernel
theorem dX12_check_71 : decode cX12_check 71 = .ok (.iload_n 3, 1) := by decide +kernel
theorem dX12_check_72 : decode cX12_check 72 = .ok (.iaload, 1) := by decide +kernel
theorem dX12_check_73 : decode cX12_check 73 = .ok (.iaload, 1) := by decide +kernel
theorem dX12_check_74 : decode cX12_check 74 = .ok (.baload, 1) := by decide +kernel
theorem dX12_check_75 : decode cX12_check 75 = .ok (.ifCond .eq 7, 3) := by decide +kernel
theorem dX12_check_78 : decode cX12_check 78 = .ok (.iconst 1, 1) := by decide +kernel
theorem dX12_check_79 : decode cX12_check 79 = .ok (.goto 4, 3) := by decide +kernel
theorem dX12_check_82 : decode cX12_check 82 = .ok (.iconst 0, 1) := by decide +kernel
theorem dX12_check_83 : decode cX12_check 83 = .ok (.bastore, 1) := by decide +kernel
theorem dX12_check_84 : decode cX12_check 84 = .ok (.aload_n 0, 1) := by decide +kernel
theorem dX12_check_85 : decode cX12_check 85 = .ok (.getfield 189, 3) := by decide +kernel
theorem dX12_check_88 : decode cX12_check 88 = .ok (.ifCond .ne (-76), 3) := by decide +kernel
theorem dX12_check_91 : decode cX12_check 91 = .ok (.aload_n 0, 1) := by decide +kernel
theorem dX12_check_92 : decode cX12_check 92 = .ok (.getfield 22, 3) := by decide +kernel
theorem dX12_check_95 : decode cX12_check 95 = .ok (.iload_n 3, 1) := by decide +kernel
theorem dX12_check_96 : decode cX12_check 96 = .ok (.iaload, 1) := by decide +kernel
theorem dX12_check_97 : decode cX12_check 97 = .ok (.bipush 47, 2) := by decide +kernel
theorem dX12_check_99 : decode cX12_check 99 = .ok (.if_icmp .eq 14, 3) := by decide +kernel
theorem dX12_check_102 : decode cX12_check 102 = .ok (.aload_n 0, 1) := by decide +kernel
theorem dX12_check_103 : decode cX12_check 103 = .ok (.getfield 22, 3) := by decide +kernel
theorem dX12_check_106 : decode cX12_check 106 = .ok (.iload_n 3, 1) := by decide +kernel
theorem dX12_check_107 : decode cX12_check 107 = .ok (.iaload, 1) := by decide +kernel
theorem dX12_check_108 : decode cX12_check 108 = .ok (.bipush 37, 2) := by decide +kernel
theorem dX12_check_110 : decode cX12_check 110 = .ok (.if_icmp .ne (-98), 3) := by decide +kernel
theorem dX12_check_113 : decode cX12_check 113 = .ok (.iload_n 2, 1) := by decide +kernel
theorem dX12_check_114 : decode cX12_check 114 = .ok (.ifCond .eq 15, 3) := by decide +kernel
theorem dX12_check_117 : decode cX12_check 117 = .ok (.aload_n 0, 1) := by decide +kernel
theorem dX12_check_118 : decode cX12_check 118 = .ok (.bipush 8, 2) := by decide +kernel
theorem dX12_check_120 : decode cX12_check 120 = .ok (.aload_n 0, 1) := by decide +kernel
theorem dX12_check_121 : decode cX12_check 121 = .ok (.getfield 25, 3) := by decide +kernel
theorem dX12_check_124 : decode cX12_check 124 = .ok (.iload_n 3, 1) := by decide +kernel
theorem dX12_check_125 : decode cX12_check 125 = .ok (.iaload, 1) := by decide +kernel
theorem dX12_check_126 : decode cX12_check 126 = .ok (.invokevirtual 201, 3) := by decide +kernel
theorem dX12_check_129 : decode cX12_check 129 = .ok (.aload_n 0, 1) := by decide +kernel
theorem dX12_check_130 : decode cX12_check 130 = .ok (.getfield 34, 3) := by decide +kernel
theorem dX12_check_133 : decode cX12_check 133 = .ok (.iload_n 3, 1) := by decide +kernel
theorem dX12_check_134 : decode cX12_check 134 = .ok (.baload, 1) := by decide +kernel
theorem dX12_check_135 : decode cX12_check 135 = .ok (.ifCond .eq (-123), 3) := by decide +kernel
theorem dX12_check_138 : decode cX12_check 138 = .ok (.aload_n 0, 1) := by decide +kernel
theorem dX12_check_139 : decode cX12_check 139 = .ok (.iconst 5, 1) := by decide +kernel
theorem dX12_check_140 : decode cX12_check 140 = .ok (.aload_n 0, 1) := by decide +kernel
theorem dX12_check_141 : decode cX12_check 141 = .ok (.getfield 25, 3) := by decide +kernel
theorem dX12_check_144 : decode cX12_check 144 = .ok (.iload_n 3, 1) := by decide +kernel
theorem dX12_check_145 : decode cX12_check 145 = .ok (.iaload, 1) := by decide +kernel
theorem dX12_check_146 : decode cX12_check 146 = .ok (.invokevirtual 201, 3) := by decide +kernel
theorem dX12_check_149 : decode cX12_check 149 = .ok (.goto (-137), 3) := by decide +kernel
theorem dX12_check_152 : decode cX12_check 152 = .ok (.return_, 1) := by decide +kernel
theorem dX12_checkPart_0 : decode cX12_checkPart 0 = .ok (.aload_n 0, 1) := by decide +kernel
theorem dX12_checkPart_1 : decode cX12_checkPart 1 = .ok (.getfield 189, 3) := by decide +kernel
theorem dX12_checkPart_4 : decode cX12_checkPart 4 = .ok (.ifCond .eq 4, 3) := by decide +kernel
theorem dX12_checkPart_7 : decode cX12_checkPart 7 = .ok (.return_, 1) := by decide +kernel
theorem dX12_checkPart_8 : decode cX12_checkPart 8 = .ok (.aload_n 0, 1) := by decide +kernel
theorem dX12_checkPart_9 : decode cX12_checkPart 9 = .ok (.getfield 22, 3) := by decide +kernel
theorem dX12_checkPart_12 : decode cX12_checkPart 12 = .ok (.iload_n 1, 1) := by decide +kernel
theorem dX12_checkPart_13 : decode cX12_checkPart 13 = .ok (.iaload, 1) := by decide +kernel
theorem dX12_checkPart_14 : decode cX12_checkPart 14 = .ok (.iconst 1, 1) := by decide +kernel
theorem dX12_checkPart_15 : decode cX12_checkPart 15 = .ok (.if_icmp .ne 78, 3) := by decide +kernel
theorem dX12_checkPart_18 : decode cX12_checkPart 18 = .ok (.aload_n 0, 1) := by decide +kernel
theorem dX12_checkPart_19 : decode cX12_checkPart 19 = .ok (.aload_n 0, 1) := by decide +kernel
theorem dX12_checkPart_20 : decode cX12_checkPart 20 = .ok (.getfield 25, 3) := by decide +kernel
theorem dX12_checkPart_23 : decode cX12_checkPart 23 = .ok (.iload_n 1, 1) := by decide +kernel
theorem dX12_checkPart_24 : decode cX12_checkPart 24 = .ok (.iaload, 1) := by decide +kernel
theorem dX12_checkPart_25 : decode cX12_checkPart 25 = .ok (.invokevirtual 226, 3) := by decide +kernel
theorem dX12_checkPart_28 : decode cX12_checkPart 28 = .ok (.istore_n 3, 1) := by decide +kernel
theorem dX12_checkPart_29 : decode cX12_checkPart 29 = .ok (.aload_n 0, 1) := by decide +kernel
theorem dX12_checkPart_30 : decode cX12_checkPart 30 = .ok (.getfield 189, 3) := by decide +kernel
theorem dX12_checkPart_33 : decode cX12_checkPart 33 = .ok (.ifCond .ne 23, 3) := by decide +kernel
theorem dX12_checkPart_36 : decode cX12_checkPart 36 = .ok (.aload_n 0, 1) := by decide +kernel
theorem dX12_checkPart_37 : decode cX12_checkPart 37 = .ok (.getfield 50, 3) := by decide +kernel
theorem dX12_checkPart_40 : decode cX12_checkPart 40 = .ok (.iload_n 3, 1) := by decide +kernel
theorem dX12_checkPart_41 : decode cX12_checkPart 41 = .ok (.baload, 1) := by decide +kernel
theorem dX12_checkPart_42 : decode cX12_checkPart 42 = .ok (.ifCond .eq 14, 3) := by decide +kernel
theorem dX12_checkPart_45 : decode cX12_checkPart 45 = .ok (.aload_n 0, 1) := by decide +kernel
theorem dX12_checkPart_46 : decode cX12_checkPart 46 = .ok (.iconst 3, 1) := by decide +kernel
theorem dX12_checkPart_47 : decode cX12_checkPart 47 = .ok (.aload_n 0, 1) := by decide +kernel
theorem dX12_checkPart_48 : decode cX12_checkPart 48 = .ok (.getfield 25, 3) := by decide +kernel
theorem dX12_checkPart_51 : decode cX12_checkPart 51 = .ok (.iload_n 1, 1) := by decide +kernel
theorem dX12_checkPart_52 : decode cX12_checkPart 52 = .ok (.iaload, 1) := by decide +kernel
theorem dX12_checkPart_53 : decode cX12_checkPart 53 = .ok (.invokevirtual 201, 3) := by decide +kernel
theorem dX12_checkPart_56 : decode cX12_checkPart 56 = .ok (.aload_n 0, 1) := by decide +kernel
theorem dX12_checkPart_57 : decode cX12_checkPart 57 = .ok (.getfield 38, 3) := by decide +kernel
theorem dX12_checkPart_60 : decode cX12_checkPart 60 = .ok (.iload_n 1, 1) := by decide +kernel
theorem dX12_checkPart_61 : decode cX12_checkPart 61 = .ok (.iload_n 3, 1) := by decide +kernel
theorem dX12_checkPart_62 : decode cX12_checkPart 62 = .ok (.iastore, 1) := by decide +kernel
theorem dX12_checkPart_63 : decode cX12_checkPart 63 = .ok (.aload_n 0, 1) := by decide +kernel
theorem dX12_checkPart_64 : decode cX12_checkPart 64 = .ok (.getfield 34, 3) := by decide +kernel
theorem dX12_checkPart_67 : decode cX12_checkPart 67 = .ok (.iload_n 1, 1) := by decide +kernel
theorem dX12_checkPart_68 : decode cX12_checkPart 68 = .ok (.aload_n 0, 1) := by decide +kernel
theorem dX12_checkPart_69 : decode cX12_checkPart 69 = .ok (.getfield 189, 3) := by decide +kernel
theorem dX12_checkPart_72 : decode cX12_checkPart 72 = .ok (.ifCond .ne 16, 3) := by decide +kernel
theorem dX12_checkPart_75 : decode cX12_checkPart 75 = .ok (.aload_n 0, 1) := by decide +kernel
theorem dX12_checkPart_76 : decode cX12_checkPart 76 = .ok (.getfield 53, 3) := by decide +kernel
theorem dX12_checkPart_79 : decode cX12_checkPart 79 = .ok (.iload_n 3, 1) := by decide +kernel
theorem dX12_checkPart_80 : decode cX12_checkPart 80 = .ok (.baload, 1) := by decide +kernel
theorem dX12_checkPart_81 : decode cX12_checkPart 81 = .ok (.ifCond .eq 7, 3) := by decide +kernel
theorem dX12_checkPart_84 : decode cX12_checkPart 84 = .ok (.iconst 1, 1) := by decide +kernel
theorem dX12_checkPart_85 : decode cX12_checkPart 85 = .ok (.goto 4, 3) := by decide +kernel
theorem dX12_checkPart_88 : decode cX12_checkPart 88 = .ok (.iconst 0, 1) := by decide +kernel
theorem dX12_checkPart_89 : decode cX12_checkPart 89 = .ok (.bastore, 1) := by decide +kernel
theorem dX12_checkPart_90 : decode cX12_checkPart 90 = .ok (.goto 225, 3) := by decide +kernel
theorem dX12_checkPart_93 : decode cX12_checkPart 93 = .ok (.aload_n 0, 1) := by decide +kernel
theorem dX12_checkPart_94 : decode cX12_checkPart 94 = .ok (.getfield 22, 3) := by decide +kernel
theorem dX12_checkPart_97 : decode cX12_checkPart 97 = .ok (.iload_n 1, 1) := by decide +kernel
theorem dX12_checkPart_98 : decode cX12_checkPart 98 = .ok (.iaload, 1) := by decide +kernel
theorem dX12_checkPart_99 : decode cX12_checkPart 99 = .ok (.sipush 303, 3) := by decide +kernel
theorem dX12_checkPart_102 : decode cX12_checkPart 102 = .ok (.if_icmp .ne 156, 3) := by decide +kernel
theorem dX12_checkPart_105 : decode cX12_checkPart 105 = .ok (.aload_n 0, 1) := by decide +kernel
theorem dX12_checkPart_106 : decode cX12_checkPart 106 = .ok (.aload_n 0, 1) := by decide +kernel
theorem dX12_checkPart_107 : decode cX12_checkPart 107 = .ok (.getfield 25, 3) := by decide +kernel
theorem dX12_checkPart_110 : decode cX12_checkPart 110 = .ok (.iload_n 1, 1) := by decide +kernel
theorem dX12_checkPart_111 : decode cX12_checkPart 111 = .ok (.iaload, 1) := by decide +kernel
theorem dX12_checkPart_112 : decode cX12_checkPart 112 = .ok (.invokevirtual 226, 3) := by decide +kernel
theorem dX12_checkPart_115 : decode cX12_checkPart 115 = .ok (.istore_n 3, 1) := by decide +kernel
theorem dX12_checkPart_116 : decode cX12_checkPart 116 = .ok (.aload_n 0, 1) := by decide +kernel
theorem dX12_checkPart_117 : decode cX12_checkPart 117 = .ok (.getfield 28, 3) := by decide +kernel
theorem dX12_checkPart_120 : decode cX12_checkPart 120 = .ok (.iload_n 1, 1) := by decide +kernel
theorem dX12_checkPart_121 : decode cX12_checkPart 121 = .ok (.iaload, 1) := by decide +kernel
theorem dX12_checkPart_122 : decode cX12_checkPart 122 = .ok (.istore 4, 2) := by decide +kernel
theorem dX12_checkPart_124 : decode cX12_checkPart 124 = .ok (.aload_n 0, 1) := by decide +kernel
theorem dX12_checkPart_125 : decode cX12_checkPart 125 = .ok (.getfield 189, 3) := by decide +kernel
theorem dX12_checkPart_128 : decode cX12_checkPart 128 = .ok (.ifCond .ne 20, 3) := by decide +kernel
theorem dX12_checkPart_131 : decode cX12_checkPart 131 = .ok (.iload_n 2, 1) := by decide +kernel
theorem dX12_checkPart_132 : decode cX12_checkPart 132 = .ok (.ifCond .eq 16, 3) := by decide +kernel
theorem dX12_checkPart_135 : decode cX12_checkPart 135 = .ok (.aload_n 0, 1) := by decide +kernel
theorem dX12_checkPart_136 : decode cX12_checkPart 136 = .ok (.bipush 8, 2) := by decide +kernel
theorem dX12_checkPart_138 : decode cX12_checkPart 138 = .ok (.aload_n 0, 1) := by decide +kernel
theorem dX12_checkPart_139 : decode cX12_checkPart 139 = .ok (.getfield 25, 3) := by decide +kernel
theorem dX12_checkPart_142 : decode cX12_checkPart 142 = .ok (.iload 4, 2) := by decide +kernel
theorem dX12_checkPart_144 : decode cX12_checkPart 144 = .ok (.iaload, 1) := by decide +kernel
theorem dX12_checkPart_145 : decode cX12_checkPart 145 = .ok (.invokevirtual 201, 3) := by decide +kernel
theorem dX12_checkPart_148 : decode cX12_checkPart 148 = .ok (.aload_n 0, 1) := by decide +kernel
theorem dX12_checkPart_149 : decode cX12_checkPart 149 = .ok (.getfield 189, 3) := by decide +kernel
theorem dX12_checkPart_152 : decode cX12_checkPart 152 = .ok (.ifCond .ne 23, 3) := by decide +kernel
theorem dX12_checkPart_155 : decode cX12_checkPart 155 = .ok (.aload_n 0, 1) := by decide +kernel
theorem dX12_checkPart_156 : decode cX12_checkPart 156 = .ok (.getfield 50, 3) := by decide +kernel
theorem dX12_checkPart_159 : decode cX12_checkPart 159 = .ok (.iload_n 3, 1) := by decide +kernel
theorem dX12_checkPart_160 : decode cX12_checkPart 160 = .ok (.baload, 1) := by decide +kernel
theorem dX12_checkPart_161 : decode cX12_checkPart 161 = .ok (.ifCond .ne 14, 3) := by decide +kernel
theorem dX12_checkPart_164 : decode cX12_checkPart 164 = .ok (.aload_n 0, 1) := by decide +kernel
theorem dX12_checkPart_165 : decode cX12_checkPart 165 = .ok (.iconst 3, 1) := by decide +kernel
theorem dX12_checkPart_166 : decode cX12_checkPart 166 = .ok (.aload_n 0, 1) := by decide +kernel
theorem dX12_checkPart_167 : decode cX12_checkPart 167 = .ok (.getfield 25, 3) := by decide +kernel
theorem dX12_checkPart_170 : decode cX12_checkPart 170 = .ok (.iload_n 1, 1) := by decide +kernel
theorem dX12_checkPart_171 : decode cX12_checkPart 171 = .ok (.iaload, 1) := by decide +kernel
theorem dX12_checkPart_172 : decode cX12_checkPart 172 = .ok (.invokevirtual 201, 3) := by decide +kernel
theorem dX12_checkPart_175 : decode cX12_checkPart 175 = .ok (.aload_n 0, 1) := by decide +kernel
theorem dX12_checkPart_176 : decode cX12_checkPart 176 = .ok (.aload_n 0, 1) := by decide +kernel
theorem dX12_checkPart_177 : decode cX12_checkPart 177 = .ok (.getfield 31, 3) := by decide +kernel
theorem dX12_checkPart_180 : decode cX12_checkPart 180 = .ok (.iload 4, 2) := by decide +kernel
theorem dX12_checkPart_182 : decode cX12_checkPart 182 = .ok (.iaload, 1) := by decide +kernel
theorem dX12_checkPart_183 : decode cX12_checkPart 183 = .ok (.iload_n 2, 1) := by decide +kernel
theorem dX12_checkPart_184 : decode cX12_checkPart 184 = .ok (.invokevirtual 223, 3) := by decide +kernel
theorem dX12_checkPart_187 : decode cX12_checkPart 187 = .ok (.aload_n 0, 1) := by decide +kernel
theorem dX12_checkPart_188 : decode cX12_checkPart 188 = .ok (.getfield 189, 3) := by decide +kernel
theorem dX12_checkPart_191 : decode cX12_checkPart 191 = .ok (.ifCond .ne 30, 3) := by decide +kernel
theorem dX12_checkPart_194 : decode cX12_checkPart 194 = .ok (.aload_n 0, 1) := by decide +kernel
theorem dX12_checkPart_195 : decode cX12_checkPart 195 = .ok (.getfield 34, 3) := by decide +kernel
theorem dX12_checkPart_198 : decode cX12_checkPart 198 = .ok (.aload_n 0, 1) := by decide +kernel
theorem dX12_checkPart_199 : decode cX12_checkPart 199 = .ok (.getfield 31, 3) := by decide +kernel
theorem dX12_checkPart_202 : decode cX12_checkPart 202 = .ok (.iload 4, 2) := by decide +kernel
theorem dX12_checkPart_204 : decode cX12_checkPart 204 = .ok (.iaload, 1) := by decide +kernel
theorem dX12_checkPart_205 : decode cX12_checkPart 205 = .ok (.baload, 1) := by decide +kernel
theorem dX12_checkPart_206 : decode cX12_checkPart 206 = .ok (.ifCond .eq 15, 3) := by decide +kernel
theorem dX12_checkPart_209 : decode cX12_checkPart 209 = .ok (.aload_n 0, 1) := by decide +kernel
theorem dX12_checkPart_210 : decode cX12_checkPart 210 = .ok (.iconst 4, 1) := by decide +kernel
theorem dX12_checkPart_211 : decode cX12_checkPart 211 = .ok (.aload_n 0, 1) := by decide +kernel
theorem dX12_checkPart_212 : decode cX12_checkPart 212 = .ok (.getfield 25, 3) := by decide +kernel
theorem dX12_checkPart_215 : decode cX12_checkPart 215 = .ok (.iload 4, 2) := by decide +kernel
theorem dX12_checkPart_217 : decode cX12_checkPart 217 = .ok (.iaload, 1) := by decide +kernel
theorem dX12_checkPart_218 : decode cX12_checkPart 218 = .ok (.invokevirtual 201, 3) := by decide +kernel
theorem dX12_checkPart_221 : decode cX12_checkPart 221 = .ok (.aload_n 0, 1) := by decide +kernel
theorem dX12_checkPart_222 : decode cX12_checkPart 222 = .ok (.getfield 38, 3) := by decide +kernel
theorem dX12_checkPart_225 : decode cX12_checkPart 225 = .ok (.iload_n 1, 1) := by decide +kernel
theorem dX12_checkPart_226 : decode cX12_checkPart 226 = .ok (.iload_n 3, 1) := by decide +kernel
theorem dX12_checkPart_227 : decode cX12_checkPart 227 = .ok (.iastore, 1) := by decide +kernel
theorem dX12_checkPart_228 : decode cX12_checkPart 228 = .ok (.aload_n 0, 1) := by decide +kernel
theorem dX12_checkPart_229 : decode cX12_checkPart 229 = .ok (.getfield 34, 3) := by decide +kernel
theorem dX12_checkPart_232 : decode cX12_checkPart 232 = .ok (.iload_n 1, 1) := by decide +kernel
theorem dX12_checkPart_233 : decode cX12_checkPart 233 = .ok (.aload_n 0, 1) := by decide +kernel
theorem dX12_checkPart_234 : decode cX12_checkPart 234 = .ok (.getfield 189, 3) := by decide +kernel
theorem dX12_checkPart_237 : decode cX12_checkPart 237 = .ok (.ifCond .ne 16, 3) := by decide +kernel
theorem dX12_checkPart_240 : decode cX12_checkPart 240 = .ok (.aload_n 0, 1) := by decide +kernel
theorem dX12_checkPart_241 : decode cX12_checkPart 241 = .ok (.getfield 53, 3) := by decide +kernel
theorem dX12_checkPart_244 : decode cX12_checkPart 244 = .ok (.iload_n 3, 1) := by decide +kernel
theorem dX12_checkPart_245 : decode cX12_checkPart 245 = .ok (.baload, 1) := by decide +kernel
theorem dX12_checkPart_246 : decode cX12_checkPart 246 = .ok (.ifCond .eq 7, 3) := by decide +kernel
theorem dX12_checkPart_249 : decode cX12_checkPart 249 = .ok (.iconst 1, 1) := by decide +kernel
theorem dX12_checkPart_250 : decode cX12_checkPart 250 = .ok (.goto 4, 3) := by decide +kernel
theorem dX12_checkPart_253 : decode cX12_checkPart 253 = .ok (.iconst 0, 1) := by decide +kernel
theorem dX12_checkPart_254 : decode cX12_checkPart 254 = .ok (.bastore, 1) := by decide +kernel
theorem dX12_checkPart_255 : decode cX12_checkPart 255 = .ok (.goto 60, 3) := by decide +kernel
theorem dX12_checkPart_258 : decode cX12_checkPart 258 = .ok (.aload_n 0, 1) := by decide +kernel
theorem dX12_checkPart_259 : decode cX12_checkPart 259 = .ok (.getfield 28, 3) := by decide +kernel
theorem dX12_checkPart_262 : decode cX12_checkPart 262 = .ok (.iload_n 1, 1) := by decide +kernel
theorem dX12_checkPart_263 : decode cX12_checkPart 263 = .ok (.iaload, 1) := by decide +kernel
theorem dX12_checkPart_264 : decode cX12_checkPart 264 = .ok (.istore_n 3, 1) := by decide +kernel
theorem dX12_checkPart_265 : decode cX12_checkPart 265 = .ok (.iload_n 3, 1) := by decide +kernel
theorem dX12_checkPart_266 : decode cX12_checkPart 266 = .ok (.iconst (-1), 1) := by decide +kernel
theorem dX12_checkPart_267 : decode cX12_checkPart 267 = .ok (.if_icmp .eq 48, 3) := by decide +kernel
theorem dX12_checkPart_270 : decode cX12_checkPart 270 = .ok (.aload_n 0, 1) := by decide +kernel
theorem dX12_checkPart_271 : decode cX12_checkPart 271 = .ok (.iload_n 3, 1) := by decide +kernel
theorem dX12_checkPart_272 : decode cX12_checkPart 272 = .ok (.iload_n 2, 1) := by decide +kernel
theorem dX12_checkPart_273 : decode cX12_checkPart 273 = .ok (.invokevirtual 223, 3) := by decide +kernel
theorem dX12_checkPart_276 : decode cX12_checkPart 276 = .ok (.aload_n 0, 1) := by decide +kernel
theorem dX12_checkPart_277 : decode cX12_checkPart 277 = .ok (.getfield 34, 3) := by decide +kernel
theorem dX12_checkPart_280 : decode cX12_checkPart 280 = .ok (.iload_n 1, 1) := by decide +kernel
theorem dX12_checkPart_281 : decode cX12_checkPart 281 = .ok (.aload_n 0, 1) := by decide +kernel
theorem dX12_checkPart_282 : decode cX12_checkPart 282 = .ok (.getfield 34, 3) := by decide +kernel
theorem dX12_checkPart_285 : decode cX12_checkPart 285 = .ok (.iload_n 1, 1) := by decide +kernel
theorem dX12_checkPart_286 : decode cX12_checkPart 286 = .ok (.baload, 1) := by decide +kernel
theorem dX12_checkPart_287 : decode cX12_checkPart 287 = .ok (.ifCond .ne 12, 3) := by decide +kernel
theorem dX12_checkPart_290 : decode cX12_checkPart 290 = .ok (.aload_n 0, 1) := by decide +kernel
theorem dX12_checkPart_291 : decode cX12_checkPart 291 = .ok (.getfield 34, 3) := by decide +kernel
theorem dX12_checkPart_294 : decode cX12_checkPart 294 = .ok (.iload_n 3, 1) := by decide +kernel
theorem dX12_checkPart_295 : decode cX12_checkPart 295 = .ok (.baload, 1) := by decide +kernel
theorem dX12_checkPart_296 : decode cX12_checkPart 296 = .ok (.ifCond .eq 7, 3) := by decide +kernel
theorem dX12_checkPart_299 : decode cX12_checkPart 299 = .ok (.iconst 1, 1) := by decide +kernel
theorem dX12_checkPart_300 : decode cX12_checkPart 300 = .ok (.goto 4, 3) := by decide +kernel
theorem dX12_checkPart_303 : decode cX12_checkPart 303 = .ok (.iconst 0, 1) := by decide +kernel
theorem dX12_checkPart_304 : decode cX12_checkPart 304 = .ok (.bastore, 1) := by decide +kernel
theorem dX12_checkPart_305 : decode cX12_checkPart 305 = .ok (.aload_n 0, 1) := by decide +kernel
theorem dX12_checkPart_306 : decode cX12_checkPart 306 = .ok (.getfield 31, 3) := by decide +kernel
theorem dX12_checkPart_309 : decode cX12_checkPart 309 = .ok (.iload_n 3, 1) := by decide +kernel
theorem dX12_checkPart_310 : decode cX12_checkPart 310 = .ok (.iaload, 1) := by decide +kernel
theorem dX12_checkPart_311 : decode cX12_checkPart 311 = .ok (.istore_n 3, 1) := by decide +kernel
theorem dX12_checkPart_312 : decode cX12_checkPart 312 = .ok (.goto (-47), 3) := by decide +kernel
theorem dX12_checkPart_315 : decode cX12_checkPart 315 = .ok (.return_, 1) := by decide +kernel
theorem dX12_checkAll_0 : decode cX12_checkAll 0 = .ok (.aload_n 0, 1) := by decide +kernel
theorem dX12_checkAll_1 : decode cX12_checkAll 1 = .ok (.getfield 28, 3) := by decide +kernel
theorem dX12_checkAll_4 : decode cX12_checkAll 4 = .ok (.iload_n 1, 1) := by decide +kernel
theorem dX12_checkAll_5 : decode cX12_checkAll 5 = .ok (.iaload, 1) := by decide +kernel
theorem dX12_checkAll_6 : decode cX12_checkAll 6 = .ok (.istore_n 3, 1) := by decide +kernel
theorem dX12_checkAll_7 : decode cX12_checkAll 7 = .ok (.iload_n 3, 1) := by decide +kernel
theorem dX12_checkAll_8 : decode cX12_checkAll 8 = .ok (.iconst (-1), 1) := by decide +kernel
theorem dX12_checkAll_9 : decode cX12_checkAll 9 = .ok (.if_icmp .eq 54, 3) := by decide +kernel
theorem dX12_checkAll_12 : decode cX12_checkAll 12 = .ok (.aload_n 0, 1) := by decide +kernel
theorem dX12_checkAll_13 : decode cX12_checkAll 13 = .ok (.getfield 189, 3) := by decide +kernel
theorem dX12_checkAll_16 : decode cX12_checkAll 16 = .ok (.ifCond .ne 47, 3) := by decide +kernel
theorem dX12_checkAll_19 : decode cX12_checkAll 19 = .ok (.aload_n 0, 1) := by decide +kernel
theorem dX12_checkAll_20 : decode cX12_checkAll 20 = .ok (.getfield 22, 3) := by decide +kernel
theorem dX12_checkAll_23 : decode cX12_checkAll 23 = .ok (.iload_n 3, 1) := by decide +kernel
theorem dX12_checkAll_24 : decode cX12_checkAll 24 = .ok (.iaload, 1) := by decide +kernel
theorem dX12_checkAll_25 : decode cX12_checkAll 25 = .ok (.iconst 3, 1) := by decide +kernel
theorem dX12_checkAll_26 : decode cX12_checkAll 26 = .ok (.if_icmp .eq 13, 3) := by decide +kernel
theorem dX12_checkAll_29 : decode cX12_checkAll 29 = .ok (.aload_n 0, 1) := by decide +kernel
theorem dX12_checkAll_30 : decode cX12_checkAll 30 = .ok (.getfield 22, 3) := by decide +kernel
theorem dX12_checkAll_33 : decode cX12_checkAll 33 = .ok (.iload_n 3, 1) := by decide +kernel
theorem dX12_checkAll_34 : decode cX12_checkAll 34 = .ok (.iaload, 1) := by decide +kernel
theorem dX12_checkAll_35 : decode cX12_checkAll 35 = .ok (.iconst 4, 1) := by decide +kernel
theorem dX12_checkAll_36 : decode cX12_checkAll 36 = .ok (.if_icmp .ne 11, 3) := by decide +kernel
theorem dX12_checkAll_39 : decode cX12_checkAll 39 = .ok (.aload_n 0, 1) := by decide +kernel
theorem dX12_checkAll_40 : decode cX12_checkAll 40 = .ok (.iload_n 3, 1) := by decide +kernel
theorem dX12_checkAll_41 : decode cX12_checkAll 41 = .ok (.invokevirtual 229, 3) := by decide +kernel
theorem dX12_checkAll_44 : decode cX12_checkAll 44 = .ok (.goto 9, 3) := by decide +kernel
theorem dX12_checkAll_47 : decode cX12_checkAll 47 = .ok (.aload_n 0, 1) := by decide +kernel
theorem dX12_checkAll_48 : decode cX12_checkAll 48 = .ok (.iload_n 3, 1) := by decide +kernel
theorem dX12_checkAll_49 : decode cX12_checkAll 49 = .ok (.iload_n 2, 1) := by decide +kernel
theorem dX12_checkAll_50 : decode cX12_checkAll 50 = .ok (.invokevirtual 233, 3) := by decide +kernel
theorem dX12_checkAll_53 : decode cX12_checkAll 53 = .ok (.aload_n 0, 1) := by decide +kernel
theorem dX12_checkAll_54 : decode cX12_checkAll 54 = .ok (.getfield 31, 3) := by decide +kernel
theorem dX12_checkAll_57 : decode cX12_checkAll 57 = .ok (.iload_n 3, 1) := by decide +kernel
theorem dX12_checkAll_58 : decode cX12_checkAll 58 = .ok (.iaload, 1) := by decide +kernel
theorem dX12_checkAll_59 : decode cX12_checkAll 59 = .ok (.istore_n 3, 1) := by decide +kernel
theorem dX12_checkAll_60 : decode cX12_checkAll 60 = .ok (.goto (-53), 3) := by decide +kernel
theorem dX12_checkAll_63 : decode cX12_checkAll 63 = .ok (.return_, 1) := by decide +kernel
theorem dX12_checkOne_0 : decode cX12_checkOne 0 = .ok (.aload_n 0, 1) := by decide +kernel
theorem dX12_checkOne_1 : decode cX12_checkOne 1 = .ok (.getfield 25, 3) := by decide +kernel
theorem dX12_checkOne_4 : decode cX12_checkOne 4 = .ok (.iload_n 1, 1) := by decide +kernel
theorem dX12_checkOne_5 : decode cX12_checkOne 5 = .ok (.iaload, 1) := by decide +kernel
theorem dX12_checkOne_6 : decode cX12_checkOne 6 = .ok (.istore_n 3, 1) := by decide +kernel
theorem dX12_checkOne_7 : decode cX12_checkOne 7 = .ok (.aload_n 0, 1) := by decide +kernel
theorem dX12_checkOne_8 : decode cX12_checkOne 8 = .ok (.getfield 22, 3) := by decide +kernel
theorem dX12_checkOne_11 : decode cX12_checkOne 11 = .ok (.iload_n 1, 1) := by decide +kernel
theorem dX12_checkOne_12 : decode cX12_checkOne 12 = .ok (.iaload, 1) := by decide +kernel
theorem dX12_checkOne_13 : decode cX12_checkOne 13 = .ok (.sipush 300, 3) := by decide +kernel
theorem dX12_checkOne_16 : decode cX12_checkOne 16 = .ok (.if_icmp .eq 15, 3) := by decide +kernel
theorem dX12_checkOne_19 : decode cX12_checkOne 19 = .ok (.aload_n 0, 1) := by decide +kernel
theorem dX12_checkOne_20 : decode cX12_checkOne 20 = .ok (.getfield 22, 3) := by decide +kernel
theorem dX12_checkOne_23 : decode cX12_checkOne 23 = .ok (.iload_n 1, 1) := by decide +kernel
theorem dX12_checkOne_24 : decode cX12_checkOne 24 = .ok (.iaload, 1) := by decide +kernel
theorem dX12_checkOne_25 : decode cX12_checkOne 25 = .ok (.sipush 301, 3) := by decide +kernel
theorem dX12_checkOne_28 : decode cX12_checkOne 28 = .ok (.if_icmp .ne 211, 3) := by decide +kernel
theorem dX12_checkOne_31 : decode cX12_checkOne 31 = .ok (.aload_n 0, 1) := by decide +kernel
theorem dX12_checkOne_32 : decode cX12_checkOne 32 = .ok (.getfield 22, 3) := by decide +kernel
theorem dX12_checkOne_35 : decode cX12_checkOne 35 = .ok (.iload_n 1, 1) := by decide +kernel
theorem dX12_checkOne_36 : decode cX12_checkOne 36 = .ok (.iaload, 1) := by decide +kernel
theorem dX12_checkOne_37 : decode cX12_checkOne 37 = .ok (.sipush 301, 3) := by decide +kernel
theorem dX12_checkOne_40 : decode cX12_checkOne 40 = .ok (.if_icmp .ne 7, 3) := by decide +kernel
theorem dX12_checkOne_43 : decode cX12_checkOne 43 = .ok (.iconst 1, 1) := by decide +kernel
theorem dX12_checkOne_44 : decode cX12_checkOne 44 = .ok (.goto 4, 3) := by decide +kernel
theorem dX12_checkOne_47 : decode cX12_checkOne 47 = .ok (.iconst 0, 1) := by decide +kernel
theorem dX12_checkOne_48 : decode cX12_checkOne 48 = .ok (.istore 4, 2) := by decide +kernel
theorem dX12_checkOne_50 : decode cX12_checkOne 50 = .ok (.aload_n 0, 1) := by decide +kernel
theorem dX12_checkOne_51 : decode cX12_checkOne 51 = .ok (.iload_n 3, 1) := by decide +kernel
theorem dX12_checkOne_52 : decode cX12_checkOne 52 = .ok (.invokevirtual 226, 3) := by decide +kernel
theorem dX12_checkOne_55 : decode cX12_checkOne 55 = .ok (.istore 5, 2) := by decide +kernel
theorem dX12_checkOne_57 : decode cX12_checkOne 57 = .ok (.aload_n 0, 1) := by decide +kernel
theorem dX12_checkOne_58 : decode cX12_checkOne 58 = .ok (.getfield 189, 3) := by decide +kernel
theorem dX12_checkOne_61 : decode cX12_checkOne 61 = .ok (.ifCond .ne 34, 3) := by decide +kernel
theorem dX12_checkOne_64 : decode cX12_checkOne 64 = .ok (.iload_n 2, 1) := by decide +kernel
theorem dX12_checkOne_65 : decode cX12_checkOne 65 = .ok (.ifCond .eq 30, 3) := by decide +kernel
theorem dX12_checkOne_68 : decode cX12_checkOne 68 = .ok (.aload_n 0, 1) := by decide +kernel
theorem dX12_checkOne_69 : decode cX12_checkOne 69 = .ok (.getfield 50, 3) := by decide +kernel
theorem dX12_checkOne_72 : decode cX12_checkOne 72 = .ok (.iload 5, 2) := by decide +kernel
theorem dX12_checkOne_74 : decode cX12_checkOne 74 = .ok (.baload, 1) := by decide +kernel
theorem dX12_checkOne_75 : decode cX12_checkOne 75 = .ok (.ifCond .ne 13, 3) := by decide +kernel
theorem dX12_checkOne_78 : decode cX12_checkOne 78 = .ok (.aload_n 0, 1) := by decide +kernel
theorem dX12_checkOne_79 : decode cX12_checkOne 79 = .ok (.getfield 53, 3) := by decide +kernel
theorem dX12_checkOne_82 : decode cX12_checkOne 82 = .ok (.iload 5, 2) := by decide +kernel
theorem dX12_checkOne_84 : decode cX12_checkOne 84 = .ok (.baload, 1) := by decide +kernel
theorem dX12_checkOne_85 : decode cX12_checkOne 85 = .ok (.ifCond .ne 10, 3) := by decide +kernel
theorem dX12_checkOne_88 : decode cX12_checkOne 88 = .ok (.aload_n 0, 1) := by decide +kernel
theorem dX12_checkOne_89 : decode cX12_checkOne 89 = .ok (.bipush 8, 2) := by decide +kernel
theorem dX12_checkOne_91 : decode cX12_checkOne 91 = .ok (.iload_n 3, 1) := by decide +kernel
theorem dX12_checkOne_92 : decode cX12_checkOne 92 = .ok (.invokevirtual 201, 3) := by decide +kernel
theorem dX12_checkOne_95 : decode cX12_checkOne 95 = .ok (.aload_n 0, 1) := by decide +kernel
theorem dX12_checkOne_96 : decode cX12_checkOne 96 = .ok (.getfield 189, 3) := by decide +kernel
theorem dX12_checkOne_99 : decode cX12_checkOne 99 = .ok (.ifCond .ne 21, 3) := by decide +kernel
theorem dX12_checkOne_102 : decode cX12_checkOne 102 = .ok (.aload_n 0, 1) := by decide +kernel
theorem dX12_checkOne_103 : decode cX12_checkOne 103 = .ok (.getfield 50, 3) := by decide +kernel
theorem dX12_checkOne_106 : decode cX12_checkOne 106 = .ok (.iload 5, 2) := by decide +kernel
theorem dX12_checkOne_108 : decode cX12_checkOne 108 = .ok (.baload, 1) := by decide +kernel
theorem dX12_checkOne_109 : decode cX12_checkOne 109 = .ok (.iload 4, 2) := by decide +kernel
theorem dX12_checkOne_111 : decode cX12_checkOne 111 = .ok (.if_icmp .eq 9, 3) := by decide +kernel
theorem dX12_checkOne_114 : decode cX12_checkOne 114 = .ok (.aload_n 0, 1) := by decide +kernel
theorem dX12_checkOne_115 : decode cX12_checkOne 115 = .ok (.iconst 3, 1) := by decide +kernel
theorem dX12_checkOne_116 : decode cX12_checkOne 116 = .ok (.iload_n 3, 1) := by decide +kernel
theorem dX12_checkOne_117 : decode cX12_checkOne 117 = .ok (.invokevirtual 201, 3) := by decide +kernel
theorem dX12_checkOne_120 : decode cX12_checkOne 120 = .ok (.aload_n 0, 1) := by decide +kernel
theorem dX12_checkOne_121 : decode cX12_checkOne 121 = .ok (.getfield 28, 3) := by decide +kernel
theorem dX12_checkOne_124 : decode cX12_checkOne 124 = .ok (.iload_n 1, 1) := by decide +kernel
theorem dX12_checkOne_125 : decode cX12_checkOne 125 = .ok (.iaload, 1) := by decide +kernel
theorem dX12_checkOne_126 : decode cX12_checkOne 126 = .ok (.istore 6, 2) := by decide +kernel
theorem dX12_checkOne_128 : decode cX12_checkOne 128 = .ok (.iload 4, 2) := by decide +kernel
theorem dX12_checkOne_130 : decode cX12_checkOne 130 = .ok (.ifCond .eq 57, 3) := by decide +kernel
theorem dX12_checkOne_133 : decode cX12_checkOne 133 = .ok (.aload_n 0, 1) := by decide +kernel
theorem dX12_checkOne_134 : decode cX12_checkOne 134 = .ok (.getfield 31, 3) := by decide +kernel
theorem dX12_checkOne_137 : decode cX12_checkOne 137 = .ok (.iload 6, 2) := by decide +kernel
theorem dX12_checkOne_139 : decode cX12_checkOne 139 = .ok (.iaload, 1) := by decide +kernel
theorem dX12_checkOne_140 : decode cX12_checkOne 140 = .ok (.istore 7, 2) := by decide +kernel
theorem dX12_checkOne_142 : decode cX12_checkOne 142 = .ok (.aload_n 0, 1) := by decide +kernel
theorem dX12_checkOne_143 : decode cX12_checkOne 143 = .ok (.iload 7, 2) := by decide +kernel
theorem dX12_checkOne_145 : decode cX12_checkOne 145 = .ok (.iload_n 2, 1) := by decide +kernel
theorem dX12_checkOne_146 : decode cX12_checkOne 146 = .ok (.invokevirtual 223, 3) := by decide +kernel
theorem dX12_checkOne_149 : decode cX12_checkOne 149 = .ok (.aload_n 0, 1) := by decide +kernel
theorem dX12_checkOne_150 : decode cX12_checkOne 150 = .ok (.getfield 189, 3) := by decide +kernel
theorem dX12_checkOne_153 : decode cX12_checkOne 153 = .ok (.ifCond .ne 25, 3) := by decide +kernel
theorem dX12_checkOne_156 : decode cX12_checkOne 156 = .ok (.aload_n 0, 1) := by decide +kernel
theorem dX12_checkOne_157 : decode cX12_checkOne 157 = .ok (.getfield 34, 3) := by decide +kernel
theorem dX12_checkOne_160 : decode cX12_checkOne 160 = .ok (.iload 7, 2) := by decide +kernel
theorem dX12_checkOne_162 : decode cX12_checkOne 162 = .ok (.baload, 1) := by decide +kernel
theorem dX12_checkOne_163 : decode cX12_checkOne 163 = .ok (.ifCond .eq 15, 3) := by decide +kernel
theorem dX12_checkOne_166 : decode cX12_checkOne 166 = .ok (.aload_n 0, 1) := by decide +kernel
theorem dX12_checkOne_167 : decode cX12_checkOne 167 = .ok (.iconst 4, 1) := by decide +kernel
theorem dX12_checkOne_168 : decode cX12_checkOne 168 = .ok (.aload_n 0, 1) := by decide +kernel
theorem dX12_checkOne_169 : decode cX12_checkOne 169 = .ok (.getfield 25, 3) := by decide +kernel
theorem dX12_checkOne_172 : decode cX12_checkOne 172 = .ok (.iload 6, 2) := by decide +kernel
theorem dX12_checkOne_174 : decode cX12_checkOne 174 = .ok (.iaload, 1) := by decide +kernel
theorem dX12_checkOne_175 : decode cX12_checkOne 175 = .ok (.invokevirtual 201, 3) := by decide +kernel
theorem dX12_checkOne_178 : decode cX12_checkOne 178 = .ok (.aload_n 0, 1) := by decide +kernel
theorem dX12_checkOne_179 : decode cX12_checkOne 179 = .ok (.getfield 31, 3) := by decide +kernel
theorem dX12_checkOne_182 : decode cX12_checkOne 182 = .ok (.iload 7, 2) := by decide +kernel
theorem dX12_checkOne_184 : decode cX12_checkOne 184 = .ok (.iaload, 1) := by decide +kernel
theorem dX12_checkOne_185 : decode cX12_checkOne 185 = .ok (.istore 6, 2) := by decide +kernel
theorem dX12_checkOne_187 : decode cX12_checkOne 187 = .ok (.aload_n 0, 1) := by decide +kernel
theorem dX12_checkOne_188 : decode cX12_checkOne 188 = .ok (.iload 6, 2) := by decide +kernel
theorem dX12_checkOne_190 : decode cX12_checkOne 190 = .ok (.iload_n 2, 1) := by decide +kernel
theorem dX12_checkOne_191 : decode cX12_checkOne 191 = .ok (.invokevirtual 223, 3) := by decide +kernel
theorem dX12_checkOne_194 : decode cX12_checkOne 194 = .ok (.aload_n 0, 1) := by decide +kernel
theorem dX12_checkOne_195 : decode cX12_checkOne 195 = .ok (.getfield 189, 3) := by decide +kernel
theorem dX12_checkOne_198 : decode cX12_checkOne 198 = .ok (.ifCond .ne 30, 3) := by decide +kernel
theorem dX12_checkOne_201 : decode cX12_checkOne 201 = .ok (.aload_n 0, 1) := by decide +kernel
theorem dX12_checkOne_202 : decode cX12_checkOne 202 = .ok (.getfield 34, 3) := by decide +kernel
theorem dX12_checkOne_205 : decode cX12_checkOne 205 = .ok (.iload 6, 2) := by decide +kernel
theorem dX12_checkOne_207 : decode cX12_checkOne 207 = .ok (.baload, 1) := by decide +kernel
theorem dX12_checkOne_208 : decode cX12_checkOne 208 = .ok (.ifCond .eq 20, 3) := by decide +kernel
theorem dX12_checkOne_211 : decode cX12_checkOne 211 = .ok (.aload_n 0, 1) := by decide +kernel
theorem dX12_checkOne_212 : decode cX12_checkOne 212 = .ok (.getfield 53, 3) := by decide +kernel
theorem dX12_checkOne_215 : decode cX12_checkOne 215 = .ok (.iload 5, 2) := by decide +kernel
theorem dX12_checkOne_217 : decode cX12_checkOne 217 = .ok (.baload, 1) := by decide +kernel
theorem dX12_checkOne_218 : decode cX12_checkOne 218 = .ok (.ifCond .ne 10, 3) := by decide +kernel
theorem dX12_checkOne_221 : decode cX12_checkOne 221 = .ok (.aload_n 0, 1) := by decide +kernel
theorem dX12_checkOne_222 : decode cX12_checkOne 222 = .ok (.bipush 7, 2) := by decide +kernel
theorem dX12_checkOne_224 : decode cX12_checkOne 224 = .ok (.iload_n 3, 1) := by decide +kernel
theorem dX12_checkOne_225 : decode cX12_checkOne 225 = .ok (.invokevirtual 201, 3) := by decide +kernel
theorem dX12_checkOne_228 : decode cX12_checkOne 228 = .ok (.aload_n 0, 1) := by decide +kernel
theorem dX12_checkOne_229 : decode cX12_checkOne 229 = .ok (.getfield 38, 3) := by decide +kernel
theorem dX12_checkOne_232 : decode cX12_checkOne 232 = .ok (.iload_n 1, 1) := by decide +kernel
theorem dX12_checkOne_233 : decode cX12_checkOne 233 = .ok (.iload 5, 2) := by decide +kernel
theorem dX12_checkOne_235 : decode cX12_checkOne 235 = .ok (.iastore, 1) := by decide +kernel
theorem dX12_checkOne_236 : decode cX12_checkOne 236 = .ok (.goto 219, 3) := by decide +kernel
theorem dX12_checkOne_239 : decode cX12_checkOne 239 = .ok (.aload_n 0, 1) := by decide +kernel
theorem dX12_checkOne_240 : decode cX12_checkOne 240 = .ok (.getfield 22, 3) := by decide +kernel
theorem dX12_checkOne_243 : decode cX12_checkOne 243 = .ok (.iload_n 1, 1) := by decide +kernel
theorem dX12_checkOne_244 : decode cX12_checkOne 244 = .ok (.iaload, 1) := by decide +kernel
theorem dX12_checkOne_245 : decode cX12_checkOne 245 = .ok (.bipush 6, 2) := by decide +kernel
theorem dX12_checkOne_247 : decode cX12_checkOne 247 = .ok (.if_icmp .eq 14, 3) := by decide +kernel
theorem dX12_checkOne_250 : decode cX12_checkOne 250 = .ok (.aload_n 0, 1) := by decide +kernel
theorem dX12_checkOne_251 : decode cX12_checkOne 251 = .ok (.getfield 22, 3) := by decide +kernel
theorem dX12_checkOne_254 : decode cX12_checkOne 254 = .ok (.iload_n 1, 1) := by decide +kernel
theorem dX12_checkOne_255 : decode cX12_checkOne 255 = .ok (.iaload, 1) := by decide +kernel
theorem dX12_checkOne_256 : decode cX12_checkOne 256 = .ok (.bipush 9, 2) := by decide +kernel
theorem dX12_checkOne_258 : decode cX12_checkOne 258 = .ok (.if_icmp .ne 99, 3) := by decide +kernel
theorem dX12_checkOne_261 : decode cX12_checkOne 261 = .ok (.iload_n 2, 1) := by decide +kernel
theorem dX12_checkOne_262 : decode cX12_checkOne 262 = .ok (.ifCond .eq 10, 3) := by decide +kernel
theorem dX12_checkOne_265 : decode cX12_checkOne 265 = .ok (.aload_n 0, 1) := by decide +kernel
theorem dX12_checkOne_266 : decode cX12_checkOne 266 = .ok (.bipush 8, 2) := by decide +kernel
theorem dX12_checkOne_268 : decode cX12_checkOne 268 = .ok (.iload_n 3, 1) := by decide +kernel
theorem dX12_checkOne_269 : decode cX12_checkOne 269 = .ok (.invokevirtual 201, 3) := by decide +kernel
theorem dX12_checkOne_272 : decode cX12_checkOne 272 = .ok (.aload_n 0, 1) := by decide +kernel
theorem dX12_checkOne_273 : decode cX12_checkOne 273 = .ok (.aload_n 0, 1) := by decide +kernel
theorem dX12_checkOne_274 : decode cX12_checkOne 274 = .ok (.getfield 28, 3) := by decide +kernel
theorem dX12_checkOne_277 : decode cX12_checkOne 277 = .ok (.iload_n 1, 1) := by decide +kernel
theorem dX12_checkOne_278 : decode cX12_checkOne 278 = .ok (.iaload, 1) := by decide +kernel
theorem dX12_checkOne_279 : decode cX12_checkOne 279 = .ok (.iload_n 2, 1) := by decide +kernel
theorem dX12_checkOne_280 : decode cX12_checkOne 280 = .ok (.invokevirtual 223, 3) := by decide +kernel
theorem dX12_checkOne_283 : decode cX12_checkOne 283 = .ok (.aload_n 0, 1) := by decide +kernel
theorem dX12_checkOne_284 : decode cX12_checkOne 284 = .ok (.getfield 189, 3) := by decide +kernel
theorem dX12_checkOne_287 : decode cX12_checkOne 287 = .ok (.ifCond .ne 40, 3) := by decide +kernel
theorem dX12_checkOne_290 : decode cX12_checkOne 290 = .ok (.aload_n 0, 1) := by decide +kernel
theorem dX12_checkOne_291 : decode cX12_checkOne 291 = .ok (.getfield 34, 3) := by decide +kernel
theorem dX12_checkOne_294 : decode cX12_checkOne 294 = .ok (.aload_n 0, 1) := by decide +kernel
theorem dX12_checkOne_295 : decode cX12_checkOne 295 = .ok (.getfield 28, 3) := by decide +kernel
theorem dX12_checkOne_298 : decode cX12_checkOne 298 = .ok (.iload_n 1, 1) := by decide +kernel
theorem dX12_checkOne_299 : decode cX12_checkOne 299 = .ok (.iaload, 1) := by decide +kernel
theorem dX12_checkOne_300 : decode cX12_checkOne 300 = .ok (.baload, 1) := by decide +kernel
theorem dX12_checkOne_301 : decode cX12_checkOne 301 = .ok (.ifCond .eq 26, 3) := by decide +kernel
theorem dX12_checkOne_304 : decode cX12_checkOne 304 = .ok (.aload_n 0, 1) := by decide +kernel
theorem dX12_checkOne_305 : decode cX12_checkOne 305 = .ok (.aload_n 0, 1) := by decide +kernel
theorem dX12_checkOne_306 : decode cX12_checkOne 306 = .ok (.getfield 22, 3) := by decide +kernel
theorem dX12_checkOne_309 : decode cX12_checkOne 309 = .ok (.iload_n 1, 1) := by decide +kernel
theorem dX12_checkOne_310 : decode cX12_checkOne 310 = .ok (.iaload, 1) := by decide +kernel
theorem dX12_checkOne_311 : decode cX12_checkOne 311 = .ok (.bipush 6, 2) := by decide +kernel
theorem dX12_checkOne_313 : decode cX12_checkOne 313 = .ok (.if_icmp .ne 8, 3) := by decide +kernel
theorem dX12_checkOne_316 : decode cX12_checkOne 316 = .ok (.bipush 7, 2) := by decide +kernel
theorem dX12_checkOne_318 : decode cX12_checkOne 318 = .ok (.goto 5, 3) := by decide +kernel
theorem dX12_checkOne_321 : decode cX12_checkOne 321 = .ok (.bipush 6, 2) := by decide +kernel
theorem dX12_checkOne_323 : decode cX12_checkOne 323 = .ok (.iload_n 3, 1) := by decide +kernel
theorem dX12_checkOne_324 : decode cX12_checkOne 324 = .ok (.invokevirtual 201, 3) := by decide +kernel
theorem dX12_checkOne_327 : decode cX12_checkOne 327 = .ok (.aload_n 0, 1) := by decide +kernel
theorem dX12_checkOne_328 : decode cX12_checkOne 328 = .ok (.getfield 22, 3) := by decide +kernel
theorem dX12_checkOne_331 : decode cX12_checkOne 331 = .ok (.iload_n 1, 1) := by decide +kernel
theorem dX12_checkOne_332 : decode cX12_checkOne 332 = .ok (.iaload, 1) := by decide +kernel
theorem dX12_checkOne_333 : decode cX12_checkOne 333 = .ok (.bipush 9, 2) := by decide +kernel
theorem dX12_checkOne_335 : decode cX12_checkOne 335 = .ok (.if_icmp .ne 120, 3) := by decide +kernel
theorem dX12_checkOne_338 : decode cX12_checkOne 338 = .ok (.aload_n 0, 1) := by decide +kernel
theorem dX12_checkOne_339 : decode cX12_checkOne 339 = .ok (.aload_n 0, 1) := by decide +kernel
theorem dX12_checkOne_340 : decode cX12_checkOne 340 = .ok (.getfield 31, 3) := by decide +kernel
theorem dX12_checkOne_343 : decode cX12_checkOne 343 = .ok (.aload_n 0, 1) := by decide +kernel
theorem dX12_checkOne_344 : decode cX12_checkOne 344 = .ok (.getfield 28, 3) := by decide +kernel
theorem dX12_checkOne_347 : decode cX12_checkOne 347 = .ok (.iload_n 1, 1) := by decide +kernel
theorem dX12_checkOne_348 : decode cX12_checkOne 348 = .ok (.iaload, 1) := by decide +kernel
theorem dX12_checkOne_349 : decode cX12_checkOne 349 = .ok (.iaload, 1) := by decide +kernel
theorem dX12_checkOne_350 : decode cX12_checkOne 350 = .ok (.iload_n 2, 1) := by decide +kernel
theorem dX12_checkOne_351 : decode cX12_checkOne 351 = .ok (.invokevirtual 236, 3) := by decide +kernel
theorem dX12_checkOne_354 : decode cX12_checkOne 354 = .ok (.goto 101, 3) := by decide +kernel
theorem dX12_checkOne_357 : decode cX12_checkOne 357 = .ok (.aload_n 0, 1) := by decide +kernel
theorem dX12_checkOne_358 : decode cX12_checkOne 358 = .ok (.aload_n 0, 1) := by decide +kernel
theorem dX12_checkOne_359 : decode cX12_checkOne 359 = .ok (.getfield 28, 3) := by decide +kernel
theorem dX12_checkOne_362 : decode cX12_checkOne 362 = .ok (.iload_n 1, 1) := by decide +kernel
theorem dX12_checkOne_363 : decode cX12_checkOne 363 = .ok (.iaload, 1) := by decide +kernel
theorem dX12_checkOne_364 : decode cX12_checkOne 364 = .ok (.iload_n 2, 1) := by decide +kernel
theorem dX12_checkOne_365 : decode cX12_checkOne 365 = .ok (.invokevirtual 223, 3) := by decide +kernel
theorem dX12_checkOne_368 : decode cX12_checkOne 368 = .ok (.aload_n 0, 1) := by decide +kernel
theorem dX12_checkOne_369 : decode cX12_checkOne 369 = .ok (.getfield 34, 3) := by decide +kernel
theorem dX12_checkOne_372 : decode cX12_checkOne 372 = .ok (.iload_n 1, 1) := by decide +kernel
theorem dX12_checkOne_373 : decode cX12_checkOne 373 = .ok (.aload_n 0, 1) := by decide +kernel
theorem dX12_checkOne_374 : decode cX12_checkOne 374 = .ok (.getfield 189, 3) := by decide +kernel
theorem dX12_checkOne_377 : decode cX12_checkOne 377 = .ok (.ifCond .ne 21, 3) := by decide +kernel
theorem dX12_checkOne_380 : decode cX12_checkOne 380 = .ok (.aload_n 0, 1) := by decide +kernel
theorem dX12_checkOne_381 : decode cX12_checkOne 381 = .ok (.getfield 34, 3) := by decide +kernel
theorem dX12_checkOne_384 : decode cX12_checkOne 384 = .ok (.aload_n 0, 1) := by decide +kernel
theorem dX12_checkOne_385 : decode cX12_checkOne 385 = .ok (.getfield 28, 3) := by decide +kernel
theorem dX12_checkOne_388 : decode cX12_checkOne 388 = .ok (.iload_n 1, 1) := by decide +kernel
theorem dX12_checkOne_389 : decode cX12_checkOne 389 = .ok (.iaload, 1) := by decide +kernel
theorem dX12_checkOne_390 : decode cX12_checkOne 390 = .ok (.baload, 1) := by decide +kernel
theorem dX12_checkOne_391 : decode cX12_checkOne 391 = .ok (.ifCond .eq 7, 3) := by decide +kernel
theorem dX12_checkOne_394 : decode cX12_checkOne 394 = .ok (.iconst 1, 1) := by decide +kernel
theorem dX12_checkOne_395 : decode cX12_checkOne 395 = .ok (.goto 4, 3) := by decide +kernel
theorem dX12_checkOne_398 : decode cX12_checkOne 398 = .ok (.iconst 0, 1) := by decide +kernel
theorem dX12_checkOne_399 : decode cX12_checkOne 399 = .ok (.bastore, 1) := by decide +kernel
theorem dX12_checkOne_400 : decode cX12_checkOne 400 = .ok (.aload_n 0, 1) := by decide +kernel
theorem dX12_checkOne_401 : decode cX12_checkOne 401 = .ok (.getfield 31, 3) := by decide +kernel
theorem dX12_checkOne_404 : decode cX12_checkOne 404 = .ok (.aload_n 0, 1) := by decide +kernel
theorem dX12_checkOne_405 : decode cX12_checkOne 405 = .ok (.getfield 28, 3) := by decide +kernel
theorem dX12_checkOne_408 : decode cX12_checkOne 408 = .ok (.iload_n 1, 1) := by decide +kernel
theorem dX12_checkOne_409 : decode cX12_checkOne 409 = .ok (.iaload, 1) := by decide +kernel
theorem dX12_checkOne_410 : decode cX12_checkOne 410 = .ok (.iaload, 1) := by decide +kernel
theorem dX12_checkOne_411 : decode cX12_checkOne 411 = .ok (.istore 4, 2) := by decide +kernel
theorem dX12_checkOne_413 : decode cX12_checkOne 413 = .ok (.iload 4, 2) := by decide +kernel
theorem dX12_checkOne_415 : decode cX12_checkOne 415 = .ok (.iconst (-1), 1) := by decide +kernel
theorem dX12_checkOne_416 : decode cX12_checkOne 416 = .ok (.if_icmp .eq 39, 3) := by decide +kernel
theorem dX12_checkOne_419 : decode cX12_checkOne 419 = .ok (.aload_n 0, 1) := by decide +kernel
theorem dX12_checkOne_420 : decode cX12_checkOne 420 = .ok (.iload 4, 2) := by decide +kernel
theorem dX12_checkOne_422 : decode cX12_checkOne 422 = .ok (.iload_n 2, 1) := by decide +kernel
theorem dX12_checkOne_423 : decode cX12_checkOne 423 = .ok (.ifCond .ne 12, 3) := by decide +kernel
theorem dX12_checkOne_426 : decode cX12_checkOne 426 = .ok (.aload_n 0, 1) := by decide +kernel
theorem dX12_checkOne_427 : decode cX12_checkOne 427 = .ok (.getfield 34, 3) := by decide +kernel
theorem dX12_checkOne_430 : decode cX12_checkOne 430 = .ok (.iload_n 1, 1) := by decide +kernel
theorem dX12_checkOne_431 : decode cX12_checkOne 431 = .ok (.baload, 1) := by decide +kernel
theorem dX12_checkOne_432 : decode cX12_checkOne 432 = .ok (.ifCond .eq 7, 3) := by decide +kernel
theorem dX12_checkOne_435 : decode cX12_checkOne 435 = .ok (.iconst 1, 1) := by decide +kernel
theorem dX12_checkOne_436 : decode cX12_checkOne 436 = .ok (.goto 4, 3) := by decide +kernel
theorem dX12_checkOne_439 : decode cX12_checkOne 439 = .ok (.iconst 0, 1) := by decide +kernel
theorem dX12_checkOne_440 : decode cX12_checkOne 440 = .ok (.invokevirtual 236, 3) := by decide +kernel
theorem dX12_checkOne_443 : decode cX12_checkOne 443 = .ok (.aload_n 0, 1) := by decide +kernel
theorem dX12_checkOne_444 : decode cX12_checkOne 444 = .ok (.getfield 31, 3) := by decide +kernel
theorem dX12_checkOne_447 : decode cX12_checkOne 447 = .ok (.iload 4, 2) := by decide +kernel
theorem dX12_checkOne_449 : decode cX12_checkOne 449 = .ok (.iaload, 1) := by decide +kernel
theorem dX12_checkOne_450 : decode cX12_checkOne 450 = .ok (.istore 4, 2) := by decide +kernel
theorem dX12_checkOne_452 : decode cX12_checkOne 452 = .ok (.goto (-39), 3) := by decide +kernel
theorem dX12_checkOne_455 : decode cX12_checkOne 455 = .ok (.return_, 1) := by decide +kernel
theorem dX12_load_0 : decode cX12_load 0 = .ok (.iload_n 1, 1) := by decide +kernel
theorem dX12_load_1 : decode cX12_load 1 = .ok (.ifCond .lt 11, 3) := by decide +kernel
theorem dX12_load_4 : decode cX12_load 4 = .ok (.iload_n 1, 1) := by decide +kernel
theorem dX12_load_5 : decode cX12_load 5 = .ok (.aload_n 0, 1) := by decide +kernel
theorem dX12_load_6 : decode cX12_load 6 = .ok (.getfield 90, 3) := by decide +kernel
theorem dX12_load_9 : decode cX12_load 9 = .ok (.if_icmp .le 5, 3) := by decide +kernel
theorem dX12_load_12 : decode cX12_load 12 = .ok (.iconst (-1), 1) := by decide +kernel
theorem dX12_load_13 : decode cX12_load 13 = .ok (.ireturn, 1) := by decide +kernel
theorem dX12_load_14 : decode cX12_load 14 = .ok (.aload_n 0, 1) := by decide +kernel
theorem dX12_load_15 : decode cX12_load 15 = .ok (.iload_n 1, 1) := by decide +kernel
theorem dX12_load_16 : decode cX12_load 16 = .ok (.putfield 93, 3) := by decide +kernel
theorem dX12_load_19 : decode cX12_load 19 = .ok (.iconst 0, 1) := by decide +kernel
theorem dX12_load_20 : decode cX12_load 20 = .ok (.istore_n 2, 1) := by decide +kernel
theorem dX12_load_21 : decode cX12_load 21 = .ok (.iload_n 2, 1) := by decide +kernel
theorem dX12_load_22 : decode cX12_load 22 = .ok (.iload_n 1, 1) := by decide +kernel
theorem dX12_load_23 : decode cX12_load 23 = .ok (.if_icmp .ge 21, 3) := by decide +kernel
theorem dX12_load_26 : decode cX12_load 26 = .ok (.aload_n 0, 1) := by decide +kernel
theorem dX12_load_27 : decode cX12_load 27 = .ok (.getfield 75, 3) := by decide +kernel
theorem dX12_load_30 : decode cX12_load 30 = .ok (.iload_n 2, 1) := by decide +kernel
theorem dX12_load_31 : decode cX12_load 31 = .ok (.aload_n 0, 1) := by decide +kernel
theorem dX12_load_32 : decode cX12_load 32 = .ok (.getfield 7, 3) := by decide +kernel
theorem dX12_load_35 : decode cX12_load 35 = .ok (.iload_n 2, 1) := by decide +kernel
theorem dX12_load_36 : decode cX12_load 36 = .ok (.iaload, 1) := by decide +kernel
theorem dX12_load_37 : decode cX12_load 37 = .ok (.iastore, 1) := by decide +kernel
theorem dX12_load_38 : decode cX12_load 38 = .ok (.iinc 2 1, 3) := by decide +kernel
theorem dX12_load_41 : decode cX12_load 41 = .ok (.goto (-20), 3) := by decide +kernel
theorem dX12_load_44 : decode cX12_load 44 = .ok (.aload_n 0, 1) := by decide +kernel
theorem dX12_load_45 : decode cX12_load 45 = .ok (.iconst 0, 1) := by decide +kernel
theorem dX12_load_46 : decode cX12_load 46 = .ok (.putfield 90, 3) := by decide +kernel
theorem dX12_load_49 : decode cX12_load 49 = .ok (.aload_n 0, 1) := by decide +kernel
theorem dX12_load_50 : decode cX12_load 50 = .ok (.iconst 0, 1) := by decide +kernel
theorem dX12_load_51 : decode cX12_load 51 = .ok (.putfield 239, 3) := by decide +kernel
theorem dX12_load_54 : decode cX12_load 54 = .ok (.aload_n 0, 1) := by decide +kernel
theorem dX12_load_55 : decode cX12_load 55 = .ok (.iconst 0, 1) := by decide +kernel
theorem dX12_load_56 : decode cX12_load 56 = .ok (.putfield 242, 3) := by decide +kernel
theorem dX12_load_59 : decode cX12_load 59 = .ok (.aload_n 0, 1) := by decide +kernel
theorem dX12_load_60 : decode cX12_load 60 = .ok (.iconst 0, 1) := by decide +kernel
theorem dX12_load_61 : decode cX12_load 61 = .ok (.putfield 158, 3) := by decide +kernel
theorem dX12_load_64 : decode cX12_load 64 = .ok (.aload_n 0, 1) := by decide +kernel
theorem dX12_load_65 : decode cX12_load 65 = .ok (.iconst 0, 1) := by decide +kernel
theorem dX12_load_66 : decode cX12_load 66 = .ok (.putfield 195, 3) := by decide +kernel
theorem dX12_load_69 : decode cX12_load 69 = .ok (.aload_n 0, 1) := by decide +kernel
theorem dX12_load_70 : decode cX12_load 70 = .ok (.iconst 0, 1) := by decide +kernel
theorem dX12_load_71 : decode cX12_load 71 = .ok (.putfield 207, 3) := by decide +kernel
theorem dX12_load_74 : decode cX12_load 74 = .ok (.aload_n 0, 1) := by decide +kernel
theorem dX12_load_75 : decode cX12_load 75 = .ok (.iconst 0, 1) := by decide +kernel
theorem dX12_load_76 : decode cX12_load 76 = .ok (.putfield 210, 3) := by decide +kernel
theorem dX12_load_79 : decode cX12_load 79 = .ok (.aload_n 0, 1) := by decide +kernel
theorem dX12_load_80 : decode cX12_load 80 = .ok (.iconst 0, 1) := by decide +kernel
theorem dX12_load_81 : decode cX12_load 81 = .ok (.putfield 213, 3) := by decide +kernel
theorem dX12_load_84 : decode cX12_load 84 = .ok (.aload_n 0, 1) := by decide +kernel
theorem dX12_load_85 : decode cX12_load 85 = .ok (.iconst 0, 1) := by decide +kernel
theorem dX12_load_86 : decode cX12_load 86 = .ok (.putfield 189, 3) := by decide +kernel
theorem dX12_load_89 : decode cX12_load 89 = .ok (.aload_n 0, 1) := by decide +kernel
theorem dX12_load_90 : decode cX12_load 90 = .ok (.invokevirtual 245, 3) := by decide +kernel
theorem dX12_load_93 : decode cX12_load 93 = .ok (.aload_n 0, 1) := by decide +kernel
theorem dX12_load_94 : decode cX12_load 94 = .ok (.aload_n 0, 1) := by decide +kernel
theorem dX12_load_95 : decode cX12_load 95 = .ok (.invokevirtual 248, 3) := by decide +kernel
theorem dX12_load_98 : decode cX12_load 98 = .ok (.putfield 251, 3) := by decide +kernel
theorem dX12_load_101 : decode cX12_load 101 = .ok (.aload_n 0, 1) := by decide +kernel
theorem dX12_load_102 : decode cX12_load 102 = .ok (.getfield 154, 3) := by decide +kernel
theorem dX12_load_105 : decode cX12_load 105 = .ok (.ifCond .eq 24, 3) := by decide +kernel
theorem dX12_load_108 : decode cX12_load 108 = .ok (.aload_n 0, 1) := by decide +kernel
theorem dX12_load_109 : decode cX12_load 109 = .ok (.aload_n 0, 1) := by decide +kernel
theorem dX12_load_110 : decode cX12_load 110 = .ok (.getfield 16, 3) := by decide +kernel
theorem dX12_load_113 : decode cX12_load 113 = .ok (.aload_n 0, 1) := by decide +kernel
theorem dX12_load_114 : decode cX12_load 114 = .ok (.getfield 151, 3) := by decide +kernel
theorem dX12_load_117 : decode cX12_load 117 = .ok (.iaload, 1) := by decide +kernel
theorem dX12_load_118 : decode cX12_load 118 = .ok (.putfield 62, 3) := by decide +kernel
theorem dX12_load_121 : decode cX12_load 121 = .ok (.aload_n 0, 1) := by decide +kernel
theorem dX12_load_122 : decode cX12_load 122 = .ok (.iconst 0, 1) := by decide +kernel
theorem dX12_load_123 : decode cX12_load 123 = .ok (.putfield 66, 3) := by decide +kernel
theorem dX12_load_126 : decode cX12_load 126 = .ok (.bipush (-2), 2) := by decide +kernel
theorem dX12_load_128 : decode cX12_load 128 = .ok (.ireturn, 1) := by decide +kernel
theorem dX12_load_129 : decode cX12_load 129 = .ok (.aload_n 0, 1) := by decide +kernel
theorem dX12_load_130 : decode cX12_load 130 = .ok (.aload_n 0, 1) := by decide +kernel
theorem dX12_load_131 : decode cX12_load 131 = .ok (.getfield 251, 3) := by decide +kernel
theorem dX12_load_134 : decode cX12_load 134 = .ok (.iconst 0, 1) := by decide +kernel
theorem dX12_load_135 : decode cX12_load 135 = .ok (.invokevirtual 236, 3) := by decide +kernel
theorem dX12_load_138 : decode cX12_load 138 = .ok (.aload_n 0, 1) := by decide +kernel
theorem dX12_load_139 : decode cX12_load 139 = .ok (.getfield 189, 3) := by decide +kernel
theorem dX12_load_142 : decode cX12_load 142 = .ok (.ifCond .eq 27, 3) := by decide +kernel
theorem dX12_load_145 : decode cX12_load 145 = .ok (.aload_n 0, 1) := by decide +kernel
theorem dX12_load_146 : decode cX12_load 146 = .ok (.aload_n 0, 1) := by decide +kernel
theorem dX12_load_147 : decode cX12_load 147 = .ok (.getfield 16, 3) := by decide +kernel
theorem dX12_load_150 : decode cX12_load 150 = .ok (.aload_n 0, 1) := by decide +kernel
theorem dX12_load_151 : decode cX12_load 151 = .ok (.getfield 192, 3) := by decide +kernel
theorem dX12_load_154 : decode cX12_load 154 = .ok (.iaload, 1) := by decide +kernel
theorem dX12_load_155 : decode cX12_load 155 = .ok (.putfield 62, 3) := by decide +kernel
theorem dX12_load_158 : decode cX12_load 158 = .ok (.aload_n 0, 1) := by decide +kernel
theorem dX12_load_159 : decode cX12_load 159 = .ok (.aload_n 0, 1) := by decide +kernel
theorem dX12_load_160 : decode cX12_load 160 = .ok (.getfield 189, 3) := by decide +kernel
theorem dX12_load_163 : decode cX12_load 163 = .ok (.putfield 66, 3) := by decide +kernel
theorem dX12_load_166 : decode cX12_load 166 = .ok (.bipush (-3), 2) := by decide +kernel
theorem dX12_load_168 : decode cX12_load 168 = .ok (.ireturn, 1) := by decide +kernel
theorem dX12_load_169 : decode cX12_load 169 = .ok (.aload_n 0, 1) := by decide +kernel
theorem dX12_load_170 : decode cX12_load 170 = .ok (.iconst (-1), 1) := by decide +kernel
theorem dX12_load_171 : decode cX12_load 171 = .ok (.putfield 62, 3) := by decide +kernel
theorem dX12_load_174 : decode cX12_load 174 = .ok (.aload_n 0, 1) := by decide +kernel
theorem dX12_load_175 : decode cX12_load 175 = .ok (.iconst (-1), 1) := by decide +kernel
theorem dX12_load_176 : decode cX12_load 176 = .ok (.putfield 66, 3) := by decide +kernel
theorem dX12_load_179 : decode cX12_load 179 = .ok (.aload_n 0, 1) := by decide +kernel
theorem dX12_load_180 : decode cX12_load 180 = .ok (.iconst 1, 1) := by decide +kernel
theorem dX12_load_181 : decode cX12_load 181 = .ok (.putfield 239, 3) := by decide +kernel
theorem dX12_load_184 : decode cX12_load 184 = .ok (.iconst 0, 1) := by decide +kernel
theorem dX12_load_185 : decode cX12_load 185 = .ok (.istore_n 2, 1) := by decide +kernel
theorem dX12_load_186 : decode cX12_load 186 = .ok (.iload_n 2, 1) := by decide +kernel
theorem dX12_load_187 : decode cX12_load 187 = .ok (.sipush 200, 3) := by decide +kernel
theorem dX12_load_190 : decode cX12_load 190 = .ok (.if_icmp .ge 16, 3) := by decide +kernel
theorem dX12_load_193 : decode cX12_load 193 = .ok (.aload_n 0, 1) := by decide +kernel
theorem dX12_load_194 : decode cX12_load 194 = .ok (.getfield 59, 3) := by decide +kernel
theorem dX12_load_197 : decode cX12_load 197 = .ok (.iload_n 2, 1) := by decide +kernel
theorem dX12_load_198 : decode cX12_load 198 = .ok (.iconst 0, 1) := by decide +kernel
theorem dX12_load_199 : decode cX12_load 199 = .ok (.iastore, 1) := by decide +kernel
theorem dX12_load_200 : decode cX12_load 200 = .ok (.iinc 2 1, 3) := by decide +kernel
theorem dX12_load_203 : decode cX12_load 203 = .ok (.goto (-17), 3) := by decide +kernel
theorem dX12_load_206 : decode cX12_load 206 = .ok (.iconst 0, 1) := by decide +kernel
theorem dX12_load_207 : decode cX12_load 207 = .ok (.ireturn, 1) := by decide +kernel
theorem dX12_told_0 : decode cX12_told 0 = .ok (.iload_n 1, 1) := by decide +kernel
theorem dX12_told_1 : decode cX12_told 1 = .ok (.ifCond .ne 10, 3) := by decide +kernel
theorem dX12_told_4 : decode cX12_told 4 = .ok (.aload_n 0, 1) := by decide +kernel
theorem dX12_told_5 : decode cX12_told 5 = .ok (.getfield 62, 3) := by decide +kernel
theorem dX12_told_8 : decode cX12_told 8 = .ok (.goto 16, 3) := by decide +kernel
theorem dX12_told_11 : decode cX12_told 11 = .ok (.iload_n 1, 1) := by decide +kernel
theorem dX12_told_12 : decode cX12_told 12 = .ok (.iconst 1, 1) := by decide +kernel
theorem dX12_told_13 : decode cX12_told 13 = .ok (.if_icmp .ne 10, 3) := by decide +kernel
theorem dX12_told_16 : decode cX12_told 16 = .ok (.aload_n 0, 1) := by decide +kernel
theorem dX12_told_17 : decode cX12_told 17 = .ok (.getfield 66, 3) := by decide +kernel
theorem dX12_told_20 : decode cX12_told 20 = .ok (.goto 4, 3) := by decide +kernel
theorem dX12_told_23 : decode cX12_told 23 = .ok (.iconst (-1), 1) := by decide +kernel
theorem dX12_told_24 : decode cX12_told 24 = .ok (.ireturn, 1) := by decide +kernel
theorem dX12_count_0 : decode cX12_count 0 = .ok (.aload_n 0, 1) := by decide +kernel
theorem dX12_count_1 : decode cX12_count 1 = .ok (.getfield 239, 3) := by decide +kernel
theorem dX12_count_4 : decode cX12_count 4 = .ok (.ifCond .ne 7, 3) := by decide +kernel
theorem dX12_count_7 : decode cX12_count 7 = .ok (.iconst (-1), 1) := by decide +kernel
theorem dX12_count_8 : decode cX12_count 8 = .ok (.goto 39, 3) := by decide +kernel
theorem dX12_count_11 : decode cX12_count 11 = .ok (.iload_n 1, 1) := by decide +kernel
theorem dX12_count_12 : decode cX12_count 12 = .ok (.ifCond .ne 10, 3) := by decide +kernel
theorem dX12_count_15 : decode cX12_count 15 = .ok (.aload_n 0, 1) := by decide +kernel
theorem dX12_count_16 : decode cX12_count 16 = .ok (.getfield 207, 3) := by decide +kernel
theorem dX12_count_19 : decode cX12_count 19 = .ok (.goto 28, 3) := by decide +kernel
theorem dX12_count_22 : decode cX12_count 22 = .ok (.iload_n 1, 1) := by decide +kernel
theorem dX12_count_23 : decode cX12_count 23 = .ok (.iconst 1, 1) := by decide +kernel
theorem dX12_count_24 : decode cX12_count 24 = .ok (.if_icmp .ne 10, 3) := by decide +kernel
theorem dX12_count_27 : decode cX12_count 27 = .ok (.aload_n 0, 1) := by decide +kernel
theorem dX12_count_28 : decode cX12_count 28 = .ok (.getfield 210, 3) := by decide +kernel
theorem dX12_count_31 : decode cX12_count 31 = .ok (.goto 16, 3) := by decide +kernel
theorem dX12_count_34 : decode cX12_count 34 = .ok (.iload_n 1, 1) := by decide +kernel
theorem dX12_count_35 : decode cX12_count 35 = .ok (.iconst 2, 1) := by decide +kernel
theorem dX12_count_36 : decode cX12_count 36 = .ok (.if_icmp .ne 10, 3) := by decide +kernel
theorem dX12_count_39 : decode cX12_count 39 = .ok (.aload_n 0, 1) := by decide +kernel
theorem dX12_count_40 : decode cX12_count 40 = .ok (.getfield 213, 3) := by decide +kernel
theorem dX12_count_43 : decode cX12_count 43 = .ok (.goto 4, 3) := by decide +kernel
theorem dX12_count_46 : decode cX12_count 46 = .ok (.iconst (-1), 1) := by decide +kernel
theorem dX12_count_47 : decode cX12_count 47 = .ok (.ireturn, 1) := by decide +kernel
theorem dX12_input_0 : decode cX12_input 0 = .ok (.aload_n 0, 1) := by decide +kernel
theorem dX12_input_1 : decode cX12_input 1 = .ok (.getfield 239, 3) := by decide +kernel
theorem dX12_input_4 : decode cX12_input 4 = .ok (.ifCond .eq 15, 3) := by decide +kernel
theorem dX12_input_7 : decode cX12_input 7 = .ok (.iload_n 1, 1) := by decide +kernel
theorem dX12_input_8 : decode cX12_input 8 = .ok (.ifCond .lt 11, 3) := by decide +kernel
theorem dX12_input_11 : decode cX12_input 11 = .ok (.iload_n 1, 1) := by decide +kernel
theorem dX12_input_12 : decode cX12_input 12 = .ok (.aload_n 0, 1) := by decide +kernel
theorem dX12_input_13 : decode cX12_input 13 = .ok (.getfield 210, 3) := by decide +kernel
theorem dX12_input_16 : decode cX12_input 16 = .ok (.if_icmp .lt 5, 3) := by decide +kernel
theorem dX12_input_19 : decode cX12_input 19 = .ok (.iconst 0, 1) := by decide +kernel
theorem dX12_input_20 : decode cX12_input 20 = .ok (.ireturn, 1) := by decide +kernel
theorem dX12_input_21 : decode cX12_input 21 = .ok (.aload_n 0, 1) := by decide +kernel
theorem dX12_input_22 : decode cX12_input 22 = .ok (.getfield 59, 3) := by decide +kernel
theorem dX12_input_25 : decode cX12_input 25 = .ok (.iload_n 1, 1) := by decide +kernel
theorem dX12_input_26 : decode cX12_input 26 = .ok (.iload_n 2, 1) := by decide +kernel
theorem dX12_input_27 : decode cX12_input 27 = .ok (.iastore, 1) := by decide +kernel
theorem dX12_input_28 : decode cX12_input 28 = .ok (.iconst 1, 1) := by decide +kernel
theorem dX12_input_29 : decode cX12_input 29 = .ok (.ireturn, 1) := by decide +kernel
theorem dX12_stop_0 : decode cX12_stop 0 = .ok (.aload_n 0, 1) := by decide +kernel
theorem dX12_stop_1 : decode cX12_stop 1 = .ok (.getfield 254, 3) := by decide +kernel
theorem dX12_stop_4 : decode cX12_stop 4 = .ok (.ifCond .ne 18, 3) := by decide +kernel
theorem dX12_stop_7 : decode cX12_stop 7 = .ok (.aload_n 0, 1) := by decide +kernel
theorem dX12_stop_8 : decode cX12_stop 8 = .ok (.iload_n 1, 1) := by decide +kernel
theorem dX12_stop_9 : decode cX12_stop 9 = .ok (.putfield 254, 3) := by decide +kernel
theorem dX12_stop_12 : decode cX12_stop 12 = .ok (.aload_n 0, 1) := by decide +kernel
theorem dX12_stop_13 : decode cX12_stop 13 = .ok (.aload_n 0, 1) := by decide +kernel
theorem dX12_stop_14 : decode cX12_stop 14 = .ok (.getfield 16, 3) := by decide +kernel
theorem dX12_stop_17 : decode cX12_stop 17 = .ok (.iload_n 2, 1) := by decide +kernel
theorem dX12_stop_18 : decode cX12_stop 18 = .ok (.iaload, 1) := by decide +kernel
theorem dX12_stop_19 : decode cX12_stop 19 = .ok (.putfield 257, 3) := by decide +kernel
theorem dX12_stop_22 : decode cX12_stop 22 = .ok (.return_, 1) := by decide +kernel
theorem dX12_quotient_0 : decode cX12_quotient 0 = .ok (.iload_n 2, 1) := by decide +kernel
theorem dX12_quotient_1 : decode cX12_quotient 1 = .ok (.ifCond .ne 7, 3) := by decide +kernel
theorem dX12_quotient_4 : decode cX12_quotient 4 = .ok (.iconst (-1), 1) := by decide +kernel
theorem dX12_quotient_5 : decode cX12_quotient 5 = .ok (.goto 6, 3) := by decide +kernel
theorem dX12_quotient_8 : decode cX12_quotient 8 = .ok (.iload_n 1, 1) := by decide +kernel
theorem dX12_quotient_9 : decode cX12_quotient 9 = .ok (.iload_n 2, 1) := by decide +kernel
theorem dX12_quotient_10 : decode cX12_quotient 10 = .ok (.idiv, 1) := by decide +kernel
theorem dX12_quotient_11 : decode cX12_quotient 11 = .ok (.ireturn, 1) := by decide +kernel
theorem dX12_rest_0 : decode cX12_rest 0 = .ok (.iload_n 2, 1) := by decide +kernel
theorem dX12_rest_1 : decode cX12_rest 1 = .ok (.ifCond .ne 7, 3) := by decide +kernel
theorem dX12_rest_4 : decode cX12_rest 4 = .ok (.iload_n 1, 1) := by decide +kernel
theorem dX12_rest_5 : decode cX12_rest 5 = .ok (.goto 6, 3) := by decide +kernel
theorem dX12_rest_8 : decode cX12_rest 8 = .ok (.iload_n 1, 1) := by decide +kernel
theorem dX12_rest_9 : decode cX12_rest 9 = .ok (.iload_n 2, 1) := by decide +kernel
theorem dX12_rest_10 : decode cX12_rest 10 = .ok (.irem, 1) := by decide +kernel
theorem dX12_rest_11 : decode cX12_rest 11 = .ok (.ireturn, 1) := by decide +kernel
theorem dX12_two_0 : decode cX12_two 0 = .ok (.iload_n 1, 1) := by decide +kernel
theorem dX12_two_1 : decode cX12_two 1 = .ok (.lookupswitch 185 #[(38, 115), (42, 174), (43, 166), (45, 170), (47, 178), (60, 130), (94, 111), (124, 107), (200, 141), (201, 119), (202, 152), (203, 159)], 107) := by decide +kernel
theorem dX12_two_108 : decode cX12_two 108 = .ok (.iload_n 2, 1) := by decide +kernel
theorem dX12_two_109 : decode cX12_two 109 = .ok (.iload_n 3, 1) := by decide +kernel
theorem dX12_two_110 : decode cX12_two 110 = .ok (.ior, 1) := by decide +kernel
theorem dX12_two_111 : decode cX12_two 111 = .ok (.ireturn, 1) := by decide +kernel
theorem dX12_two_112 : decode cX12_two 112 = .ok (.iload_n 2, 1) := by decide +kernel
theorem dX12_two_113 : decode cX12_two 113 = .ok (.iload_n 3, 1) := by decide +kernel
theorem dX12_two_114 : decode cX12_two 114 = .ok (.ixor, 1) := by decide +kernel
theorem dX12_two_115 : decode cX12_two 115 = .ok (.ireturn, 1) := by decide +kernel
theorem dX12_two_116 : decode cX12_two 116 = .ok (.iload_n 2, 1) := by decide +kernel
theorem dX12_two_117 : decode cX12_two 117 = .ok (.iload_n 3, 1) := by decide +kernel
theorem dX12_two_118 : decode cX12_two 118 = .ok (.iand, 1) := by decide +kernel
theorem dX12_two_119 : decode cX12_two 119 = .ok (.ireturn, 1) := by decide +kernel
theorem dX12_two_120 : decode cX12_two 120 = .ok (.iload_n 2, 1) := by decide +kernel
theorem dX12_two_121 : decode cX12_two 121 = .ok (.iload_n 3, 1) := by decide +kernel
theorem dX12_two_122 : decode cX12_two 122 = .ok (.if_icmp .ne 7, 3) := by decide +kernel
theorem dX12_two_125 : decode cX12_two 125 = .ok (.iconst 1, 1) := by decide +kernel
theorem dX12_two_126 : decode cX12_two 126 = .ok (.goto 4, 3) := by decide +kernel
theorem dX12_two_129 : decode cX12_two 129 = .ok (.iconst 0, 1) := by decide +kernel
theorem dX12_two_130 : decode cX12_two 130 = .ok (.ireturn, 1) := by decide +kernel
theorem dX12_two_131 : decode cX12_two 131 = .ok (.iload_n 2, 1) := by decide +kernel
theorem dX12_two_132 : decode cX12_two 132 = .ok (.iload_n 3, 1) := by decide +kernel
theorem dX12_two_133 : decode cX12_two 133 = .ok (.if_icmp .ge 7, 3) := by decide +kernel
theorem dX12_two_136 : decode cX12_two 136 = .ok (.iconst 1, 1) := by decide +kernel
theorem dX12_two_137 : decode cX12_two 137 = .ok (.goto 4, 3) := by decide +kernel
theorem dX12_two_140 : decode cX12_two 140 = .ok (.iconst 0, 1) := by decide +kernel
theorem dX12_two_141 : decode cX12_two 141 = .ok (.ireturn, 1) := by decide +kernel
theorem dX12_two_142 : decode cX12_two 142 = .ok (.iload_n 2, 1) := by decide +kernel
theorem dX12_two_143 : decode cX12_two 143 = .ok (.iload_n 3, 1) := by decide +kernel
theorem dX12_two_144 : decode cX12_two 144 = .ok (.if_icmp .gt 7, 3) := by decide +kernel
theorem dX12_two_147 : decode cX12_two 147 = .ok (.iconst 1, 1) := by decide +kernel
theorem dX12_two_148 : decode cX12_two 148 = .ok (.goto 4, 3) := by decide +kernel
theorem dX12_two_151 : decode cX12_two 151 = .ok (.iconst 0, 1) := by decide +kernel
theorem dX12_two_152 : decode cX12_two 152 = .ok (.ireturn, 1) := by decide +kernel
theorem dX12_two_153 : decode cX12_two 153 = .ok (.iload_n 2, 1) := by decide +kernel
theorem dX12_two_154 : decode cX12_two 154 = .ok (.iload_n 3, 1) := by decide +kernel
theorem dX12_two_155 : decode cX12_two 155 = .ok (.bipush 31, 2) := by decide +kernel
theorem dX12_two_157 : decode cX12_two 157 = .ok (.iand, 1) := by decide +kernel
theorem dX12_two_158 : decode cX12_two 158 = .ok (.ishl, 1) := by decide +kernel
theorem dX12_two_159 : decode cX12_two 159 = .ok (.ireturn, 1) := by decide +kernel
theorem dX12_two_160 : decode cX12_two 160 = .ok (.iload_n 2, 1) := by decide +kernel
theorem dX12_two_161 : decode cX12_two 161 = .ok (.iload_n 3, 1) := by decide +kernel
theorem dX12_two_162 : decode cX12_two 162 = .ok (.bipush 31, 2) := by decide +kernel
theorem dX12_two_164 : decode cX12_two 164 = .ok (.iand, 1) := by decide +kernel
theorem dX12_two_165 : decode cX12_two 165 = .ok (.ishr, 1) := by decide +kernel
theorem dX12_two_166 : decode cX12_two 166 = .ok (.ireturn, 1) := by decide +kernel
theorem dX12_two_167 : decode cX12_two 167 = .ok (.iload_n 2, 1) := by decide +kernel
theorem dX12_two_168 : decode cX12_two 168 = .ok (.iload_n 3, 1) := by decide +kernel
theorem dX12_two_169 : decode cX12_two 169 = .ok (.iadd, 1) := by decide +kernel
theorem dX12_two_170 : decode cX12_two 170 = .ok (.ireturn, 1) := by decide +kernel
theorem dX12_two_171 : decode cX12_two 171 = .ok (.iload_n 2, 1) := by decide +kernel
theorem dX12_two_172 : decode cX12_two 172 = .ok (.iload_n 3, 1) := by decide +kernel
theorem dX12_two_173 : decode cX12_two 173 = .ok (.isub, 1) := by decide +kernel
theorem dX12_two_174 : decode cX12_two 174 = .ok (.ireturn, 1) := by decide +kernel
theorem dX12_two_175 : decode cX12_two 175 = .ok (.iload_n 2, 1) := by decide +kernel
theorem dX12_two_176 : decode cX12_two 176 = .ok (.iload_n 3, 1) := by decide +kernel
theorem dX12_two_177 : decode cX12_two 177 = .ok (.imul, 1) := by decide +kernel
theorem dX12_two_178 : decode cX12_two 178 = .ok (.ireturn, 1) := by decide +kernel
theorem dX12_two_179 : decode cX12_two 179 = .ok (.aload_n 0, 1) := by decide +kernel
theorem dX12_two_180 : decode cX12_two 180 = .ok (.iload_n 2, 1) := by decide +kernel
theorem dX12_two_181 : decode cX12_two 181 = .ok (.iload_n 3, 1) := by decide +kernel
theorem dX12_two_182 : decode cX12_two 182 = .ok (.invokevirtual 260, 3) := by decide +kernel
theorem dX12_two_185 : decode cX12_two 185 = .ok (.ireturn, 1) := by decide +kernel
theorem dX12_two_186 : decode cX12_two 186 = .ok (.aload_n 0, 1) := by decide +kernel
theorem dX12_two_187 : decode cX12_two 187 = .ok (.iload_n 2, 1) := by decide +kernel
theorem dX12_two_188 : decode cX12_two 188 = .ok (.iload_n 3, 1) := by decide +kernel
theorem dX12_two_189 : decode cX12_two 189 = .ok (.invokevirtual 263, 3) := by decide +kernel
theorem dX12_two_192 : decode cX12_two 192 = .ok (.ireturn, 1) := by decide +kernel
theorem dX12_eval_0 : decode cX12_eval 0 = .ok (.aload_n 0, 1) := by decide +kernel
theorem dX12_eval_1 : decode cX12_eval 1 = .ok (.iload_n 1, 1) := by decide +kernel
theorem dX12_eval_2 : decode cX12_eval 2 = .ok (.invokevirtual 216, 3) := by decide +kernel
theorem dX12_eval_5 : decode cX12_eval 5 = .ok (.istore_n 2, 1) := by decide +kernel
theorem dX12_eval_6 : decode cX12_eval 6 = .ok (.aload_n 0, 1) := by decide +kernel
theorem dX12_eval_7 : decode cX12_eval 7 = .ok (.iload_n 2, 1) := by decide +kernel
theorem dX12_eval_8 : decode cX12_eval 8 = .ok (.invokevirtual 266, 3) := by decide +kernel
theorem dX12_eval_11 : decode cX12_eval 11 = .ok (.istore_n 3, 1) := by decide +kernel
theorem dX12_eval_12 : decode cX12_eval 12 = .ok (.iload_n 2, 1) := by decide +kernel
theorem dX12_eval_13 : decode cX12_eval 13 = .ok (.iload_n 1, 1) := by decide +kernel
theorem dX12_eval_14 : decode cX12_eval 14 = .ok (.if_icmp .eq 55, 3) := by decide +kernel
theorem dX12_eval_17 : decode cX12_eval 17 = .ok (.aload_n 0, 1) := by decide +kernel
theorem dX12_eval_18 : decode cX12_eval 18 = .ok (.getfield 78, 3) := by decide +kernel
theorem dX12_eval_21 : decode cX12_eval 21 = .ok (.iload_n 2, 1) := by decide +kernel
theorem dX12_eval_22 : decode cX12_eval 22 = .ok (.iaload, 1) := by decide +kernel
theorem dX12_eval_23 : decode cX12_eval 23 = .ok (.istore_n 2, 1) := by decide +kernel
theorem dX12_eval_24 : decode cX12_eval 24 = .ok (.aload_n 0, 1) := by decide +kernel
theorem dX12_eval_25 : decode cX12_eval 25 = .ok (.aload_n 0, 1) := by decide +kernel
theorem dX12_eval_26 : decode cX12_eval 26 = .ok (.getfield 31, 3) := by decide +kernel
theorem dX12_eval_29 : decode cX12_eval 29 = .ok (.aload_n 0, 1) := by decide +kernel
theorem dX12_eval_30 : decode cX12_eval 30 = .ok (.getfield 28, 3) := by decide +kernel
theorem dX12_eval_33 : decode cX12_eval 33 = .ok (.iload_n 2, 1) := by decide +kernel
theorem dX12_eval_34 : decode cX12_eval 34 = .ok (.iaload, 1) := by decide +kernel
theorem dX12_eval_35 : decode cX12_eval 35 = .ok (.iaload, 1) := by decide +kernel
theorem dX12_eval_36 : decode cX12_eval 36 = .ok (.invokevirtual 269, 3) := by decide +kernel
theorem dX12_eval_39 : decode cX12_eval 39 = .ok (.istore 4, 2) := by decide +kernel
theorem dX12_eval_41 : decode cX12_eval 41 = .ok (.aload_n 0, 1) := by decide +kernel
theorem dX12_eval_42 : decode cX12_eval 42 = .ok (.getfield 254, 3) := by decide +kernel
theorem dX12_eval_45 : decode cX12_eval 45 = .ok (.ifCond .ne 19, 3) := by decide +kernel
theorem dX12_eval_48 : decode cX12_eval 48 = .ok (.aload_n 0, 1) := by decide +kernel
theorem dX12_eval_49 : decode cX12_eval 49 = .ok (.aload_n 0, 1) := by decide +kernel
theorem dX12_eval_50 : decode cX12_eval 50 = .ok (.getfield 22, 3) := by decide +kernel
theorem dX12_eval_53 : decode cX12_eval 53 = .ok (.iload_n 2, 1) := by decide +kernel
theorem dX12_eval_54 : decode cX12_eval 54 = .ok (.iaload, 1) := by decide +kernel
theorem dX12_eval_55 : decode cX12_eval 55 = .ok (.iload_n 3, 1) := by decide +kernel
theorem dX12_eval_56 : decode cX12_eval 56 = .ok (.iload 4, 2) := by decide +kernel
theorem dX12_eval_58 : decode cX12_eval 58 = .ok (.invokevirtual 272, 3) := by decide +kernel
theorem dX12_eval_61 : decode cX12_eval 61 = .ok (.goto 4, 3) := by decide +kernel
theorem dX12_eval_64 : decode cX12_eval 64 = .ok (.iconst 0, 1) := by decide +kernel
theorem dX12_eval_65 : decode cX12_eval 65 = .ok (.istore_n 3, 1) := by decide +kernel
theorem dX12_eval_66 : decode cX12_eval 66 = .ok (.goto (-54), 3) := by decide +kernel
theorem dX12_eval_69 : decode cX12_eval 69 = .ok (.iload_n 3, 1) := by decide +kernel
theorem dX12_eval_70 : decode cX12_eval 70 = .ok (.ireturn, 1) := by decide +kernel
theorem dX12_evalPart_0 : decode cX12_evalPart 0 = .ok (.aload_n 0, 1) := by decide +kernel
theorem dX12_evalPart_1 : decode cX12_evalPart 1 = .ok (.getfield 254, 3) := by decide +kernel
theorem dX12_evalPart_4 : decode cX12_evalPart 4 = .ok (.ifCond .eq 5, 3) := by decide +kernel
theorem dX12_evalPart_7 : decode cX12_evalPart 7 = .ok (.iconst 0, 1) := by decide +kernel
theorem dX12_evalPart_8 : decode cX12_evalPart 8 = .ok (.ireturn, 1) := by decide +kernel
theorem dX12_evalPart_9 : decode cX12_evalPart 9 = .ok (.aload_n 0, 1) := by decide +kernel
theorem dX12_evalPart_10 : decode cX12_evalPart 10 = .ok (.getfield 22, 3) := by decide +kernel
theorem dX12_evalPart_13 : decode cX12_evalPart 13 = .ok (.iload_n 1, 1) := by decide +kernel
theorem dX12_evalPart_14 : decode cX12_evalPart 14 = .ok (.iaload, 1) := by decide +kernel
theorem dX12_evalPart_15 : decode cX12_evalPart 15 = .ok (.lookupswitch 187 #[(1, 60), (2, 49), (126, 174), (303, 77), (304, 162)], 49) := by decide +kernel
theorem dX12_evalPart_64 : decode cX12_evalPart 64 = .ok (.aload_n 0, 1) := by decide +kernel
theorem dX12_evalPart_65 : decode cX12_evalPart 65 = .ok (.aload_n 0, 1) := by decide +kernel
theorem dX12_evalPart_66 : decode cX12_evalPart 66 = .ok (.getfield 25, 3) := by decide +kernel
theorem dX12_evalPart_69 : decode cX12_evalPart 69 = .ok (.iload_n 1, 1) := by decide +kernel
theorem dX12_evalPart_70 : decode cX12_evalPart 70 = .ok (.iaload, 1) := by decide +kernel
theorem dX12_evalPart_71 : decode cX12_evalPart 71 = .ok (.invokevirtual 204, 3) := by decide +kernel
theorem dX12_evalPart_74 : decode cX12_evalPart 74 = .ok (.ireturn, 1) := by decide +kernel
theorem dX12_evalPart_75 : decode cX12_evalPart 75 = .ok (.aload_n 0, 1) := by decide +kernel
theorem dX12_evalPart_76 : decode cX12_evalPart 76 = .ok (.getfield 69, 3) := by decide +kernel
theorem dX12_evalPart_79 : decode cX12_evalPart 79 = .ok (.aload_n 0, 1) := by decide +kernel
theorem dX12_evalPart_80 : decode cX12_evalPart 80 = .ok (.getfield 47, 3) := by decide +kernel
theorem dX12_evalPart_83 : decode cX12_evalPart 83 = .ok (.aload_n 0, 1) := by decide +kernel
theorem dX12_evalPart_84 : decode cX12_evalPart 84 = .ok (.getfield 38, 3) := by decide +kernel
theorem dX12_evalPart_87 : decode cX12_evalPart 87 = .ok (.iload_n 1, 1) := by decide +kernel
theorem dX12_evalPart_88 : decode cX12_evalPart 88 = .ok (.iaload, 1) := by decide +kernel
theorem dX12_evalPart_89 : decode cX12_evalPart 89 = .ok (.iaload, 1) := by decide +kernel
theorem dX12_evalPart_90 : decode cX12_evalPart 90 = .ok (.iaload, 1) := by decide +kernel
theorem dX12_evalPart_91 : decode cX12_evalPart 91 = .ok (.ireturn, 1) := by decide +kernel
theorem dX12_evalPart_92 : decode cX12_evalPart 92 = .ok (.aload_n 0, 1) := by decide +kernel
theorem dX12_evalPart_93 : decode cX12_evalPart 93 = .ok (.aload_n 0, 1) := by decide +kernel
theorem dX12_evalPart_94 : decode cX12_evalPart 94 = .ok (.getfield 31, 3) := by decide +kernel
theorem dX12_evalPart_97 : decode cX12_evalPart 97 = .ok (.aload_n 0, 1) := by decide +kernel
theorem dX12_evalPart_98 : decode cX12_evalPart 98 = .ok (.getfield 28, 3) := by decide +kernel
theorem dX12_evalPart_101 : decode cX12_evalPart 101 = .ok (.iload_n 1, 1) := by decide +kernel
theorem dX12_evalPart_102 : decode cX12_evalPart 102 = .ok (.iaload, 1) := by decide +kernel
theorem dX12_evalPart_103 : decode cX12_evalPart 103 = .ok (.iaload, 1) := by decide +kernel
theorem dX12_evalPart_104 : decode cX12_evalPart 104 = .ok (.invokevirtual 269, 3) := by decide +kernel
theorem dX12_evalPart_107 : decode cX12_evalPart 107 = .ok (.istore_n 2, 1) := by decide +kernel
theorem dX12_evalPart_108 : decode cX12_evalPart 108 = .ok (.aload_n 0, 1) := by decide +kernel
theorem dX12_evalPart_109 : decode cX12_evalPart 109 = .ok (.getfield 38, 3) := by decide +kernel
theorem dX12_evalPart_112 : decode cX12_evalPart 112 = .ok (.iload_n 1, 1) := by decide +kernel
theorem dX12_evalPart_113 : decode cX12_evalPart 113 = .ok (.iaload, 1) := by decide +kernel
theorem dX12_evalPart_114 : decode cX12_evalPart 114 = .ok (.istore_n 3, 1) := by decide +kernel
theorem dX12_evalPart_115 : decode cX12_evalPart 115 = .ok (.aload_n 0, 1) := by decide +kernel
theorem dX12_evalPart_116 : decode cX12_evalPart 116 = .ok (.getfield 254, 3) := by decide +kernel
theorem dX12_evalPart_119 : decode cX12_evalPart 119 = .ok (.ifCond .ne 33, 3) := by decide +kernel
theorem dX12_evalPart_122 : decode cX12_evalPart 122 = .ok (.iload_n 2, 1) := by decide +kernel
theorem dX12_evalPart_123 : decode cX12_evalPart 123 = .ok (.ifCond .lt 13, 3) := by decide +kernel
theorem dX12_evalPart_126 : decode cX12_evalPart 126 = .ok (.iload_n 2, 1) := by decide +kernel
theorem dX12_evalPart_127 : decode cX12_evalPart 127 = .ok (.aload_n 0, 1) := by decide +kernel
theorem dX12_evalPart_128 : decode cX12_evalPart 128 = .ok (.getfield 44, 3) := by decide +kernel
theorem dX12_evalPart_131 : decode cX12_evalPart 131 = .ok (.iload_n 3, 1) := by decide +kernel
theorem dX12_evalPart_132 : decode cX12_evalPart 132 = .ok (.iaload, 1) := by decide +kernel
theorem dX12_evalPart_133 : decode cX12_evalPart 133 = .ok (.if_icmp .lt 19, 3) := by decide +kernel
theorem dX12_evalPart_136 : decode cX12_evalPart 136 = .ok (.aload_n 0, 1) := by decide +kernel
theorem dX12_evalPart_137 : decode cX12_evalPart 137 = .ok (.iconst 1, 1) := by decide +kernel
theorem dX12_evalPart_138 : decode cX12_evalPart 138 = .ok (.aload_n 0, 1) := by decide +kernel
theorem dX12_evalPart_139 : decode cX12_evalPart 139 = .ok (.getfield 25, 3) := by decide +kernel
theorem dX12_evalPart_142 : decode cX12_evalPart 142 = .ok (.aload_n 0, 1) := by decide +kernel
theorem dX12_evalPart_143 : decode cX12_evalPart 143 = .ok (.getfield 28, 3) := by decide +kernel
theorem dX12_evalPart_146 : decode cX12_evalPart 146 = .ok (.iload_n 1, 1) := by decide +kernel
theorem dX12_evalPart_147 : decode cX12_evalPart 147 = .ok (.iaload, 1) := by decide +kernel
theorem dX12_evalPart_148 : decode cX12_evalPart 148 = .ok (.iaload, 1) := by decide +kernel
theorem dX12_evalPart_149 : decode cX12_evalPart 149 = .ok (.invokevirtual 276, 3) := by decide +kernel
theorem dX12_evalPart_152 : decode cX12_evalPart 152 = .ok (.aload_n 0, 1) := by decide +kernel
theorem dX12_evalPart_153 : decode cX12_evalPart 153 = .ok (.getfield 254, 3) := by decide +kernel
theorem dX12_evalPart_156 : decode cX12_evalPart 156 = .ok (.ifCond .ne 19, 3) := by decide +kernel
theorem dX12_evalPart_159 : decode cX12_evalPart 159 = .ok (.aload_n 0, 1) := by decide +kernel
theorem dX12_evalPart_160 : decode cX12_evalPart 160 = .ok (.getfield 69, 3) := by decide +kernel
theorem dX12_evalPart_163 : decode cX12_evalPart 163 = .ok (.aload_n 0, 1) := by decide +kernel
theorem dX12_evalPart_164 : decode cX12_evalPart 164 = .ok (.getfield 47, 3) := by decide +kernel
theorem dX12_evalPart_167 : decode cX12_evalPart 167 = .ok (.iload_n 3, 1) := by decide +kernel
theorem dX12_evalPart_168 : decode cX12_evalPart 168 = .ok (.iaload, 1) := by decide +kernel
theorem dX12_evalPart_169 : decode cX12_evalPart 169 = .ok (.iload_n 2, 1) := by decide +kernel
theorem dX12_evalPart_170 : decode cX12_evalPart 170 = .ok (.iadd, 1) := by decide +kernel
theorem dX12_evalPart_171 : decode cX12_evalPart 171 = .ok (.iaload, 1) := by decide +kernel
theorem dX12_evalPart_172 : decode cX12_evalPart 172 = .ok (.goto 4, 3) := by decide +kernel
theorem dX12_evalPart_175 : decode cX12_evalPart 175 = .ok (.iconst 0, 1) := by decide +kernel
theorem dX12_evalPart_176 : decode cX12_evalPart 176 = .ok (.ireturn, 1) := by decide +kernel
theorem dX12_evalPart_177 : decode cX12_evalPart 177 = .ok (.aload_n 0, 1) := by decide +kernel
theorem dX12_evalPart_178 : decode cX12_evalPart 178 = .ok (.aload_n 0, 1) := by decide +kernel
theorem dX12_evalPart_179 : decode cX12_evalPart 179 = .ok (.getfield 28, 3) := by decide +kernel
theorem dX12_evalPart_182 : decode cX12_evalPart 182 = .ok (.iload_n 1, 1) := by decide +kernel
theorem dX12_evalPart_183 : decode cX12_evalPart 183 = .ok (.iaload, 1) := by decide +kernel
theorem dX12_evalPart_184 : decode cX12_evalPart 184 = .ok (.invokevirtual 269, 3) := by decide +kernel
theorem dX12_evalPart_187 : decode cX12_evalPart 187 = .ok (.ineg, 1) := by decide +kernel
theorem dX12_evalPart_188 : decode cX12_evalPart 188 = .ok (.ireturn, 1) := by decide +kernel
theorem dX12_evalPart_189 : decode cX12_evalPart 189 = .ok (.aload_n 0, 1) := by decide +kernel
theorem dX12_evalPart_190 : decode cX12_evalPart 190 = .ok (.aload_n 0, 1) := by decide +kernel
theorem dX12_evalPart_191 : decode cX12_evalPart 191 = .ok (.getfield 28, 3) := by decide +kernel
theorem dX12_evalPart_194 : decode cX12_evalPart 194 = .ok (.iload_n 1, 1) := by decide +kernel
theorem dX12_evalPart_195 : decode cX12_evalPart 195 = .ok (.iaload, 1) := by decide +kernel
theorem dX12_evalPart_196 : decode cX12_evalPart 196 = .ok (.invokevirtual 269, 3) := by decide +kernel
theorem dX12_evalPart_199 : decode cX12_evalPart 199 = .ok (.iconst (-1), 1) := by decide +kernel
theorem dX12_evalPart_200 : decode cX12_evalPart 200 = .ok (.ixor, 1) := by decide +kernel
theorem dX12_evalPart_201 : decode cX12_evalPart 201 = .ok (.ireturn, 1) := by decide +kernel
theorem dX12_evalPart_202 : decode cX12_evalPart 202 = .ok (.aload_n 0, 1) := by decide +kernel
theorem dX12_evalPart_203 : decode cX12_evalPart 203 = .ok (.aload_n 0, 1) := by decide +kernel
theorem dX12_evalPart_204 : decode cX12_evalPart 204 = .ok (.getfield 28, 3) := by decide +kernel
theorem dX12_evalPart_207 : decode cX12_evalPart 207 = .ok (.iload_n 1, 1) := by decide +kernel
theorem dX12_evalPart_208 : decode cX12_evalPart 208 = .ok (.iaload, 1) := by decide +kernel
theorem dX12_evalPart_209 : decode cX12_evalPart 209 = .ok (.invokevirtual 269, 3) := by decide +kernel
theorem dX12_evalPart_212 : decode cX12_evalPart 212 = .ok (.ifCond .ne 7, 3) := by decide +kernel
theorem dX12_evalPart_215 : decode cX12_evalPart 215 = .ok (.iconst 1, 1) := by decide +kernel
theorem dX12_evalPart_216 : decode cX12_evalPart 216 = .ok (.goto 4, 3) := by decide +kernel
theorem dX12_evalPart_219 : decode cX12_evalPart 219 = .ok (.iconst 0, 1) := by decide +kernel
theorem dX12_evalPart_220 : decode cX12_evalPart 220 = .ok (.ireturn, 1) := by decide +kernel
theorem dX12_step_0 : decode cX12_step 0 = .ok (.aload_n 0, 1) := by decide +kernel
theorem dX12_step_1 : decode cX12_step 1 = .ok (.getfield 254, 3) := by decide +kernel
theorem dX12_step_4 : decode cX12_step 4 = .ok (.ifCond .eq 5, 3) := by decide +kernel
theorem dX12_step_7 : decode cX12_step 7 = .ok (.iconst 0, 1) := by decide +kernel
theorem dX12_step_8 : decode cX12_step 8 = .ok (.ireturn, 1) := by decide +kernel
theorem dX12_step_9 : decode cX12_step 9 = .ok (.iload_n 1, 1) := by decide +kernel
theorem dX12_step_10 : decode cX12_step 10 = .ok (.ifCond .ne 23, 3) := by decide +kernel
theorem dX12_step_13 : decode cX12_step 13 = .ok (.aload_n 0, 1) := by decide +kernel
theorem dX12_step_14 : decode cX12_step 14 = .ok (.getfield 279, 3) := by decide +kernel
theorem dX12_step_17 : decode cX12_step 17 = .ok (.aload_n 0, 1) := by decide +kernel
theorem dX12_step_18 : decode cX12_step 18 = .ok (.getfield 282, 3) := by decide +kernel
theorem dX12_step_21 : decode cX12_step 21 = .ok (.if_icmp .ne 12, 3) := by decide +kernel
theorem dX12_step_24 : decode cX12_step 24 = .ok (.aload_n 0, 1) := by decide +kernel
theorem dX12_step_25 : decode cX12_step 25 = .ok (.iconst 2, 1) := by decide +kernel
theorem dX12_step_26 : decode cX12_step 26 = .ok (.iload_n 2, 1) := by decide +kernel
theorem dX12_step_27 : decode cX12_step 27 = .ok (.invokevirtual 276, 3) := by decide +kernel
theorem dX12_step_30 : decode cX12_step 30 = .ok (.goto 21, 3) := by decide +kernel
theorem dX12_step_33 : decode cX12_step 33 = .ok (.aload_n 0, 1) := by decide +kernel
theorem dX12_step_34 : decode cX12_step 34 = .ok (.dup, 1) := by decide +kernel
theorem dX12_step_35 : decode cX12_step 35 = .ok (.getfield 279, 3) := by decide +kernel
theorem dX12_step_38 : decode cX12_step 38 = .ok (.iload_n 1, 1) := by decide +kernel
theorem dX12_step_39 : decode cX12_step 39 = .ok (.ifCond .eq 7, 3) := by decide +kernel
theorem dX12_step_42 : decode cX12_step 42 = .ok (.iconst 0, 1) := by decide +kernel
theorem dX12_step_43 : decode cX12_step 43 = .ok (.goto 4, 3) := by decide +kernel
theorem dX12_step_46 : decode cX12_step 46 = .ok (.iconst 1, 1) := by decide +kernel
theorem dX12_step_47 : decode cX12_step 47 = .ok (.iadd, 1) := by decide +kernel
theorem dX12_step_48 : decode cX12_step 48 = .ok (.putfield 279, 3) := by decide +kernel
theorem dX12_step_51 : decode cX12_step 51 = .ok (.aload_n 0, 1) := by decide +kernel
theorem dX12_step_52 : decode cX12_step 52 = .ok (.getfield 254, 3) := by decide +kernel
theorem dX12_step_55 : decode cX12_step 55 = .ok (.ifCond .ne 7, 3) := by decide +kernel
theorem dX12_step_58 : decode cX12_step 58 = .ok (.iconst 1, 1) := by decide +kernel
theorem dX12_step_59 : decode cX12_step 59 = .ok (.goto 4, 3) := by decide +kernel
theorem dX12_step_62 : decode cX12_step 62 = .ok (.iconst 0, 1) := by decide +kernel
theorem dX12_step_63 : decode cX12_step 63 = .ok (.ireturn, 1) := by decide +kernel
theorem dX12_runAll_0 : decode cX12_runAll 0 = .ok (.aload_n 0, 1) := by decide +kernel
theorem dX12_runAll_1 : decode cX12_runAll 1 = .ok (.getfield 28, 3) := by decide +kernel
theorem dX12_runAll_4 : decode cX12_runAll 4 = .ok (.iload_n 1, 1) := by decide +kernel
theorem dX12_runAll_5 : decode cX12_runAll 5 = .ok (.iaload, 1) := by decide +kernel
theorem dX12_runAll_6 : decode cX12_runAll 6 = .ok (.istore_n 3, 1) := by decide +kernel
theorem dX12_runAll_7 : decode cX12_runAll 7 = .ok (.iload_n 3, 1) := by decide +kernel
theorem dX12_runAll_8 : decode cX12_runAll 8 = .ok (.iconst (-1), 1) := by decide +kernel
theorem dX12_runAll_9 : decode cX12_runAll 9 = .ok (.if_icmp .eq 60, 3) := by decide +kernel
theorem dX12_runAll_12 : decode cX12_runAll 12 = .ok (.aload_n 0, 1) := by decide +kernel
theorem dX12_runAll_13 : decode cX12_runAll 13 = .ok (.getfield 254, 3) := by decide +kernel
theorem dX12_runAll_16 : decode cX12_runAll 16 = .ok (.ifCond .ne 53, 3) := by decide +kernel
theorem dX12_runAll_19 : decode cX12_runAll 19 = .ok (.aload_n 0, 1) := by decide +kernel
theorem dX12_runAll_20 : decode cX12_runAll 20 = .ok (.getfield 22, 3) := by decide +kernel
theorem dX12_runAll_23 : decode cX12_runAll 23 = .ok (.iload_n 3, 1) := by decide +kernel
theorem dX12_runAll_24 : decode cX12_runAll 24 = .ok (.iaload, 1) := by decide +kernel
theorem dX12_runAll_25 : decode cX12_runAll 25 = .ok (.iconst 3, 1) := by decide +kernel
theorem dX12_runAll_26 : decode cX12_runAll 26 = .ok (.if_icmp .eq 33, 3) := by decide +kernel
theorem dX12_runAll_29 : decode cX12_runAll 29 = .ok (.aload_n 0, 1) := by decide +kernel
theorem dX12_runAll_30 : decode cX12_runAll 30 = .ok (.getfield 22, 3) := by decide +kernel
theorem dX12_runAll_33 : decode cX12_runAll 33 = .ok (.iload_n 3, 1) := by decide +kernel
theorem dX12_runAll_34 : decode cX12_runAll 34 = .ok (.iaload, 1) := by decide +kernel
theorem dX12_runAll_35 : decode cX12_runAll 35 = .ok (.iconst 4, 1) := by decide +kernel
theorem dX12_runAll_36 : decode cX12_runAll 36 = .ok (.if_icmp .eq 23, 3) := by decide +kernel
theorem dX12_runAll_39 : decode cX12_runAll 39 = .ok (.aload_n 0, 1) := by decide +kernel
theorem dX12_runAll_40 : decode cX12_runAll 40 = .ok (.iload_n 2, 1) := by decide +kernel
theorem dX12_runAll_41 : decode cX12_runAll 41 = .ok (.aload_n 0, 1) := by decide +kernel
theorem dX12_runAll_42 : decode cX12_runAll 42 = .ok (.getfield 25, 3) := by decide +kernel
theorem dX12_runAll_45 : decode cX12_runAll 45 = .ok (.iload_n 3, 1) := by decide +kernel
theorem dX12_runAll_46 : decode cX12_runAll 46 = .ok (.iaload, 1) := by decide +kernel
theorem dX12_runAll_47 : decode cX12_runAll 47 = .ok (.invokevirtual 285, 3) := by decide +kernel
theorem dX12_runAll_50 : decode cX12_runAll 50 = .ok (.ifCond .eq 9, 3) := by decide +kernel
theorem dX12_runAll_53 : decode cX12_runAll 53 = .ok (.aload_n 0, 1) := by decide +kernel
theorem dX12_runAll_54 : decode cX12_runAll 54 = .ok (.iload_n 3, 1) := by decide +kernel
theorem dX12_runAll_55 : decode cX12_runAll 55 = .ok (.iload_n 2, 1) := by decide +kernel
theorem dX12_runAll_56 : decode cX12_runAll 56 = .ok (.invokevirtual 289, 3) := by decide +kernel
theorem dX12_runAll_59 : decode cX12_runAll 59 = .ok (.aload_n 0, 1) := by decide +kernel
theorem dX12_runAll_60 : decode cX12_runAll 60 = .ok (.getfield 31, 3) := by decide +kernel
theorem dX12_runAll_63 : decode cX12_runAll 63 = .ok (.iload_n 3, 1) := by decide +kernel
theorem dX12_runAll_64 : decode cX12_runAll 64 = .ok (.iaload, 1) := by decide +kernel
theorem dX12_runAll_65 : decode cX12_runAll 65 = .ok (.istore_n 3, 1) := by decide +kernel
theorem dX12_runAll_66 : decode cX12_runAll 66 = .ok (.goto (-59), 3) := by decide +kernel
theorem dX12_runAll_69 : decode cX12_runAll 69 = .ok (.return_, 1) := by decide +kernel
theorem dX12_runOne_0 : decode cX12_runOne 0 = .ok (.aload_n 0, 1) := by decide +kernel
theorem dX12_runOne_1 : decode cX12_runOne 1 = .ok (.getfield 28, 3) := by decide +kernel
theorem dX12_runOne_4 : decode cX12_runOne 4 = .ok (.iload_n 1, 1) := by decide +kernel
theorem dX12_runOne_5 : decode cX12_runOne 5 = .ok (.iaload, 1) := by decide +kernel
theorem dX12_runOne_6 : decode cX12_runOne 6 = .ok (.istore_n 3, 1) := by decide +kernel
theorem dX12_runOne_7 : decode cX12_runOne 7 = .ok (.aload_n 0, 1) := by decide +kernel
theorem dX12_runOne_8 : decode cX12_runOne 8 = .ok (.getfield 22, 3) := by decide +kernel
theorem dX12_runOne_11 : decode cX12_runOne 11 = .ok (.iload_n 1, 1) := by decide +kernel
theorem dX12_runOne_12 : decode cX12_runOne 12 = .ok (.iaload, 1) := by decide +kernel
theorem dX12_runOne_13 : decode cX12_runOne 13 = .ok (.lookupswitch 285 #[(6, 177), (9, 242), (300, 43), (301, 78)], 43) := by decide +kernel
theorem dX12_runOne_56 : decode cX12_runOne 56 = .ok (.aload_n 0, 1) := by decide +kernel
theorem dX12_runOne_57 : decode cX12_runOne 57 = .ok (.iload_n 3, 1) := by decide +kernel
theorem dX12_runOne_58 : decode cX12_runOne 58 = .ok (.invokevirtual 269, 3) := by decide +kernel
theorem dX12_runOne_61 : decode cX12_runOne 61 = .ok (.istore 4, 2) := by decide +kernel
theorem dX12_runOne_63 : decode cX12_runOne 63 = .ok (.aload_n 0, 1) := by decide +kernel
theorem dX12_runOne_64 : decode cX12_runOne 64 = .ok (.getfield 254, 3) := by decide +kernel
theorem dX12_runOne_67 : decode cX12_runOne 67 = .ok (.ifCond .ne 310, 3) := by decide +kernel
theorem dX12_runOne_70 : decode cX12_runOne 70 = .ok (.aload_n 0, 1) := by decide +kernel
theorem dX12_runOne_71 : decode cX12_runOne 71 = .ok (.getfield 69, 3) := by decide +kernel
theorem dX12_runOne_74 : decode cX12_runOne 74 = .ok (.aload_n 0, 1) := by decide +kernel
theorem dX12_runOne_75 : decode cX12_runOne 75 = .ok (.getfield 47, 3) := by decide +kernel
theorem dX12_runOne_78 : decode cX12_runOne 78 = .ok (.aload_n 0, 1) := by decide +kernel
theorem dX12_runOne_79 : decode cX12_runOne 79 = .ok (.getfield 38, 3) := by decide +kernel
theorem dX12_runOne_82 : decode cX12_runOne 82 = .ok (.iload_n 1, 1) := by decide +kernel
theorem dX12_runOne_83 : decode cX12_runOne 83 = .ok (.iaload, 1) := by decide +kernel
theorem dX12_runOne_84 : decode cX12_runOne 84 = .ok (.iaload, 1) := by decide +kernel
theorem dX12_runOne_85 : decode cX12_runOne 85 = .ok (.iload 4, 2) := by decide +kernel
theorem dX12_runOne_87 : decode cX12_runOne 87 = .ok (.iastore, 1) := by decide +kernel
theorem dX12_runOne_88 : decode cX12_runOne 88 = .ok (.goto 289, 3) := by decide +kernel
theorem dX12_runOne_91 : decode cX12_runOne 91 = .ok (.aload_n 0, 1) := by decide +kernel
theorem dX12_runOne_92 : decode cX12_runOne 92 = .ok (.aload_n 0, 1) := by decide +kernel
theorem dX12_runOne_93 : decode cX12_runOne 93 = .ok (.getfield 31, 3) := by decide +kernel
theorem dX12_runOne_96 : decode cX12_runOne 96 = .ok (.iload_n 3, 1) := by decide +kernel
theorem dX12_runOne_97 : decode cX12_runOne 97 = .ok (.iaload, 1) := by decide +kernel
theorem dX12_runOne_98 : decode cX12_runOne 98 = .ok (.invokevirtual 269, 3) := by decide +kernel
theorem dX12_runOne_101 : decode cX12_runOne 101 = .ok (.istore 5, 2) := by decide +kernel
theorem dX12_runOne_103 : decode cX12_runOne 103 = .ok (.aload_n 0, 1) := by decide +kernel
theorem dX12_runOne_104 : decode cX12_runOne 104 = .ok (.getfield 254, 3) := by decide +kernel
theorem dX12_runOne_107 : decode cX12_runOne 107 = .ok (.ifCond .ne 35, 3) := by decide +kernel
theorem dX12_runOne_110 : decode cX12_runOne 110 = .ok (.iload 5, 2) := by decide +kernel
theorem dX12_runOne_112 : decode cX12_runOne 112 = .ok (.ifCond .lt 19, 3) := by decide +kernel
theorem dX12_runOne_115 : decode cX12_runOne 115 = .ok (.iload 5, 2) := by decide +kernel
theorem dX12_runOne_117 : decode cX12_runOne 117 = .ok (.aload_n 0, 1) := by decide +kernel
theorem dX12_runOne_118 : decode cX12_runOne 118 = .ok (.getfield 44, 3) := by decide +kernel
theorem dX12_runOne_121 : decode cX12_runOne 121 = .ok (.aload_n 0, 1) := by decide +kernel
theorem dX12_runOne_122 : decode cX12_runOne 122 = .ok (.getfield 38, 3) := by decide +kernel
theorem dX12_runOne_125 : decode cX12_runOne 125 = .ok (.iload_n 1, 1) := by decide +kernel
theorem dX12_runOne_126 : decode cX12_runOne 126 = .ok (.iaload, 1) := by decide +kernel
theorem dX12_runOne_127 : decode cX12_runOne 127 = .ok (.iaload, 1) := by decide +kernel
theorem dX12_runOne_128 : decode cX12_runOne 128 = .ok (.if_icmp .lt 14, 3) := by decide +kernel
theorem dX12_runOne_131 : decode cX12_runOne 131 = .ok (.aload_n 0, 1) := by decide +kernel
theorem dX12_runOne_132 : decode cX12_runOne 132 = .ok (.iconst 1, 1) := by decide +kernel
theorem dX12_runOne_133 : decode cX12_runOne 133 = .ok (.aload_n 0, 1) := by decide +kernel
theorem dX12_runOne_134 : decode cX12_runOne 134 = .ok (.getfield 25, 3) := by decide +kernel
theorem dX12_runOne_137 : decode cX12_runOne 137 = .ok (.iload_n 3, 1) := by decide +kernel
theorem dX12_runOne_138 : decode cX12_runOne 138 = .ok (.iaload, 1) := by decide +kernel
theorem dX12_runOne_139 : decode cX12_runOne 139 = .ok (.invokevirtual 276, 3) := by decide +kernel
theorem dX12_runOne_142 : decode cX12_runOne 142 = .ok (.aload_n 0, 1) := by decide +kernel
theorem dX12_runOne_143 : decode cX12_runOne 143 = .ok (.aload_n 0, 1) := by decide +kernel
theorem dX12_runOne_144 : decode cX12_runOne 144 = .ok (.getfield 31, 3) := by decide +kernel
theorem dX12_runOne_147 : decode cX12_runOne 147 = .ok (.aload_n 0, 1) := by decide +kernel
theorem dX12_runOne_148 : decode cX12_runOne 148 = .ok (.getfield 31, 3) := by decide +kernel
theorem dX12_runOne_151 : decode cX12_runOne 151 = .ok (.iload_n 3, 1) := by decide +kernel
theorem dX12_runOne_152 : decode cX12_runOne 152 = .ok (.iaload, 1) := by decide +kernel
theorem dX12_runOne_153 : decode cX12_runOne 153 = .ok (.iaload, 1) := by decide +kernel
theorem dX12_runOne_154 : decode cX12_runOne 154 = .ok (.invokevirtual 269, 3) := by decide +kernel
theorem dX12_runOne_157 : decode cX12_runOne 157 = .ok (.istore 6, 2) := by decide +kernel
theorem dX12_runOne_159 : decode cX12_runOne 159 = .ok (.aload_n 0, 1) := by decide +kernel
theorem dX12_runOne_160 : decode cX12_runOne 160 = .ok (.getfield 254, 3) := by decide +kernel
theorem dX12_runOne_163 : decode cX12_runOne 163 = .ok (.ifCond .ne 214, 3) := by decide +kernel
theorem dX12_runOne_166 : decode cX12_runOne 166 = .ok (.aload_n 0, 1) := by decide +kernel
theorem dX12_runOne_167 : decode cX12_runOne 167 = .ok (.getfield 69, 3) := by decide +kernel
theorem dX12_runOne_170 : decode cX12_runOne 170 = .ok (.aload_n 0, 1) := by decide +kernel
theorem dX12_runOne_171 : decode cX12_runOne 171 = .ok (.getfield 47, 3) := by decide +kernel
theorem dX12_runOne_174 : decode cX12_runOne 174 = .ok (.aload_n 0, 1) := by decide +kernel
theorem dX12_runOne_175 : decode cX12_runOne 175 = .ok (.getfield 38, 3) := by decide +kernel
theorem dX12_runOne_178 : decode cX12_runOne 178 = .ok (.iload_n 1, 1) := by decide +kernel
theorem dX12_runOne_179 : decode cX12_runOne 179 = .ok (.iaload, 1) := by decide +kernel
theorem dX12_runOne_180 : decode cX12_runOne 180 = .ok (.iaload, 1) := by decide +kernel
theorem dX12_runOne_181 : decode cX12_runOne 181 = .ok (.iload 5, 2) := by decide +kernel
theorem dX12_runOne_183 : decode cX12_runOne 183 = .ok (.iadd, 1) := by decide +kernel
theorem dX12_runOne_184 : decode cX12_runOne 184 = .ok (.iload 6, 2) := by decide +kernel
theorem dX12_runOne_186 : decode cX12_runOne 186 = .ok (.iastore, 1) := by decide +kernel
theorem dX12_runOne_187 : decode cX12_runOne 187 = .ok (.goto 190, 3) := by decide +kernel
theorem dX12_runOne_190 : decode cX12_runOne 190 = .ok (.aload_n 0, 1) := by decide +kernel
theorem dX12_runOne_191 : decode cX12_runOne 191 = .ok (.iload_n 3, 1) := by decide +kernel
theorem dX12_runOne_192 : decode cX12_runOne 192 = .ok (.invokevirtual 269, 3) := by decide +kernel
theorem dX12_runOne_195 : decode cX12_runOne 195 = .ok (.istore 7, 2) := by decide +kernel
theorem dX12_runOne_197 : decode cX12_runOne 197 = .ok (.aload_n 0, 1) := by decide +kernel
theorem dX12_runOne_198 : decode cX12_runOne 198 = .ok (.getfield 254, 3) := by decide +kernel
theorem dX12_runOne_201 : decode cX12_runOne 201 = .ok (.ifCond .ne 23, 3) := by decide +kernel
theorem dX12_runOne_204 : decode cX12_runOne 204 = .ok (.aload_n 0, 1) := by decide +kernel
theorem dX12_runOne_205 : decode cX12_runOne 205 = .ok (.getfield 292, 3) := by decide +kernel
theorem dX12_runOne_208 : decode cX12_runOne 208 = .ok (.bipush 100, 2) := by decide +kernel
theorem dX12_runOne_210 : decode cX12_runOne 210 = .ok (.if_icmp .ne 14, 3) := by decide +kernel
theorem dX12_runOne_213 : decode cX12_runOne 213 = .ok (.aload_n 0, 1) := by decide +kernel
theorem dX12_runOne_214 : decode cX12_runOne 214 = .ok (.iconst 3, 1) := by decide +kernel
theorem dX12_runOne_215 : decode cX12_runOne 215 = .ok (.aload_n 0, 1) := by decide +kernel
theorem dX12_runOne_216 : decode cX12_runOne 216 = .ok (.getfield 25, 3) := by decide +kernel
theorem dX12_runOne_219 : decode cX12_runOne 219 = .ok (.iload_n 1, 1) := by decide +kernel
theorem dX12_runOne_220 : decode cX12_runOne 220 = .ok (.iaload, 1) := by decide +kernel
theorem dX12_runOne_221 : decode cX12_runOne 221 = .ok (.invokevirtual 276, 3) := by decide +kernel
theorem dX12_runOne_224 : decode cX12_runOne 224 = .ok (.aload_n 0, 1) := by decide +kernel
theorem dX12_runOne_225 : decode cX12_runOne 225 = .ok (.getfield 254, 3) := by decide +kernel
theorem dX12_runOne_228 : decode cX12_runOne 228 = .ok (.ifCond .ne 149, 3) := by decide +kernel
theorem dX12_runOne_231 : decode cX12_runOne 231 = .ok (.aload_n 0, 1) := by decide +kernel
theorem dX12_runOne_232 : decode cX12_runOne 232 = .ok (.getfield 72, 3) := by decide +kernel
theorem dX12_runOne_235 : decode cX12_runOne 235 = .ok (.aload_n 0, 1) := by decide +kernel
theorem dX12_runOne_236 : decode cX12_runOne 236 = .ok (.getfield 292, 3) := by decide +kernel
theorem dX12_runOne_239 : decode cX12_runOne 239 = .ok (.iload 7, 2) := by decide +kernel
theorem dX12_runOne_241 : decode cX12_runOne 241 = .ok (.iastore, 1) := by decide +kernel
theorem dX12_runOne_242 : decode cX12_runOne 242 = .ok (.aload_n 0, 1) := by decide +kernel
theorem dX12_runOne_243 : decode cX12_runOne 243 = .ok (.dup, 1) := by decide +kernel
theorem dX12_runOne_244 : decode cX12_runOne 244 = .ok (.getfield 292, 3) := by decide +kernel
theorem dX12_runOne_247 : decode cX12_runOne 247 = .ok (.iconst 1, 1) := by decide +kernel
theorem dX12_runOne_248 : decode cX12_runOne 248 = .ok (.iadd, 1) := by decide +kernel
theorem dX12_runOne_249 : decode cX12_runOne 249 = .ok (.putfield 292, 3) := by decide +kernel
theorem dX12_runOne_252 : decode cX12_runOne 252 = .ok (.goto 125, 3) := by decide +kernel
theorem dX12_runOne_255 : decode cX12_runOne 255 = .ok (.aload_n 0, 1) := by decide +kernel
theorem dX12_runOne_256 : decode cX12_runOne 256 = .ok (.iload_n 2, 1) := by decide +kernel
theorem dX12_runOne_257 : decode cX12_runOne 257 = .ok (.aload_n 0, 1) := by decide +kernel
theorem dX12_runOne_258 : decode cX12_runOne 258 = .ok (.getfield 25, 3) := by decide +kernel
theorem dX12_runOne_261 : decode cX12_runOne 261 = .ok (.iload_n 1, 1) := by decide +kernel
theorem dX12_runOne_262 : decode cX12_runOne 262 = .ok (.iaload, 1) := by decide +kernel
theorem dX12_runOne_263 : decode cX12_runOne 263 = .ok (.invokevirtual 285, 3) := by decide +kernel
theorem dX12_runOne_266 : decode cX12_runOne 266 = .ok (.ifCond .eq 111, 3) := by decide +kernel
theorem dX12_runOne_269 : decode cX12_runOne 269 = .ok (.aload_n 0, 1) := by decide +kernel
theorem dX12_runOne_270 : decode cX12_runOne 270 = .ok (.iload_n 3, 1) := by decide +kernel
theorem dX12_runOne_271 : decode cX12_runOne 271 = .ok (.invokevirtual 269, 3) := by decide +kernel
theorem dX12_runOne_274 : decode cX12_runOne 274 = .ok (.ifCond .eq 103, 3) := by decide +kernel
theorem dX12_runOne_277 : decode cX12_runOne 277 = .ok (.aload_n 0, 1) := by decide +kernel
theorem dX12_runOne_278 : decode cX12_runOne 278 = .ok (.getfield 254, 3) := by decide +kernel
theorem dX12_runOne_281 : decode cX12_runOne 281 = .ok (.ifCond .ne 96, 3) := by decide +kernel
theorem dX12_runOne_284 : decode cX12_runOne 284 = .ok (.aload_n 0, 1) := by decide +kernel
theorem dX12_runOne_285 : decode cX12_runOne 285 = .ok (.aload_n 0, 1) := by decide +kernel
theorem dX12_runOne_286 : decode cX12_runOne 286 = .ok (.getfield 31, 3) := by decide +kernel
theorem dX12_runOne_289 : decode cX12_runOne 289 = .ok (.iload_n 3, 1) := by decide +kernel
theorem dX12_runOne_290 : decode cX12_runOne 290 = .ok (.iaload, 1) := by decide +kernel
theorem dX12_runOne_291 : decode cX12_runOne 291 = .ok (.iload_n 2, 1) := by decide +kernel
theorem dX12_runOne_292 : decode cX12_runOne 292 = .ok (.invokevirtual 295, 3) := by decide +kernel
theorem dX12_runOne_295 : decode cX12_runOne 295 = .ok (.goto (-40), 3) := by decide +kernel
theorem dX12_runOne_298 : decode cX12_runOne 298 = .ok (.aload_n 0, 1) := by decide +kernel
theorem dX12_runOne_299 : decode cX12_runOne 299 = .ok (.iload_n 3, 1) := by decide +kernel
theorem dX12_runOne_300 : decode cX12_runOne 300 = .ok (.invokevirtual 269, 3) := by decide +kernel
theorem dX12_runOne_303 : decode cX12_runOne 303 = .ok (.ifCond .eq 7, 3) := by decide +kernel
theorem dX12_runOne_306 : decode cX12_runOne 306 = .ok (.iconst 1, 1) := by decide +kernel
theorem dX12_runOne_307 : decode cX12_runOne 307 = .ok (.goto 4, 3) := by decide +kernel
theorem dX12_runOne_310 : decode cX12_runOne 310 = .ok (.iconst 0, 1) := by decide +kernel
theorem dX12_runOne_311 : decode cX12_runOne 311 = .ok (.istore 8, 2) := by decide +kernel
theorem dX12_runOne_313 : decode cX12_runOne 313 = .ok (.iload 8, 2) := by decide +kernel
theorem dX12_runOne_315 : decode cX12_runOne 315 = .ok (.ifCond .eq 12, 3) := by decide +kernel
theorem dX12_runOne_318 : decode cX12_runOne 318 = .ok (.aload_n 0, 1) := by decide +kernel
theorem dX12_runOne_319 : decode cX12_runOne 319 = .ok (.getfield 31, 3) := by decide +kernel
theorem dX12_runOne_322 : decode cX12_runOne 322 = .ok (.iload_n 3, 1) := by decide +kernel
theorem dX12_runOne_323 : decode cX12_runOne 323 = .ok (.iaload, 1) := by decide +kernel
theorem dX12_runOne_324 : decode cX12_runOne 324 = .ok (.goto 14, 3) := by decide +kernel
theorem dX12_runOne_327 : decode cX12_runOne 327 = .ok (.aload_n 0, 1) := by decide +kernel
theorem dX12_runOne_328 : decode cX12_runOne 328 = .ok (.getfield 31, 3) := by decide +kernel
theorem dX12_runOne_331 : decode cX12_runOne 331 = .ok (.aload_n 0, 1) := by decide +kernel
theorem dX12_runOne_332 : decode cX12_runOne 332 = .ok (.getfield 31, 3) := by decide +kernel
theorem dX12_runOne_335 : decode cX12_runOne 335 = .ok (.iload_n 3, 1) := by decide +kernel
theorem dX12_runOne_336 : decode cX12_runOne 336 = .ok (.iaload, 1) := by decide +kernel
theorem dX12_runOne_337 : decode cX12_runOne 337 = .ok (.iaload, 1) := by decide +kernel
theorem dX12_runOne_338 : decode cX12_runOne 338 = .ok (.istore 9, 2) := by decide +kernel
theorem dX12_runOne_340 : decode cX12_runOne 340 = .ok (.aload_n 0, 1) := by decide +kernel
theorem dX12_runOne_341 : decode cX12_runOne 341 = .ok (.getfield 254, 3) := by decide +kernel
theorem dX12_runOne_344 : decode cX12_runOne 344 = .ok (.ifCond .ne 33, 3) := by decide +kernel
theorem dX12_runOne_347 : decode cX12_runOne 347 = .ok (.iload 9, 2) := by decide +kernel
theorem dX12_runOne_349 : decode cX12_runOne 349 = .ok (.iconst (-1), 1) := by decide +kernel
theorem dX12_runOne_350 : decode cX12_runOne 350 = .ok (.if_icmp .eq 27, 3) := by decide +kernel
theorem dX12_runOne_353 : decode cX12_runOne 353 = .ok (.aload_n 0, 1) := by decide +kernel
theorem dX12_runOne_354 : decode cX12_runOne 354 = .ok (.iload 9, 2) := by decide +kernel
theorem dX12_runOne_356 : decode cX12_runOne 356 = .ok (.iload_n 2, 1) := by decide +kernel
theorem dX12_runOne_357 : decode cX12_runOne 357 = .ok (.ifCond .ne 12, 3) := by decide +kernel
theorem dX12_runOne_360 : decode cX12_runOne 360 = .ok (.aload_n 0, 1) := by decide +kernel
theorem dX12_runOne_361 : decode cX12_runOne 361 = .ok (.getfield 34, 3) := by decide +kernel
theorem dX12_runOne_364 : decode cX12_runOne 364 = .ok (.iload_n 1, 1) := by decide +kernel
theorem dX12_runOne_365 : decode cX12_runOne 365 = .ok (.baload, 1) := by decide +kernel
theorem dX12_runOne_366 : decode cX12_runOne 366 = .ok (.ifCond .eq 7, 3) := by decide +kernel
theorem dX12_runOne_369 : decode cX12_runOne 369 = .ok (.iconst 1, 1) := by decide +kernel
theorem dX12_runOne_370 : decode cX12_runOne 370 = .ok (.goto 4, 3) := by decide +kernel
theorem dX12_runOne_373 : decode cX12_runOne 373 = .ok (.iconst 0, 1) := by decide +kernel
theorem dX12_runOne_374 : decode cX12_runOne 374 = .ok (.invokevirtual 295, 3) := by decide +kernel
theorem dX12_runOne_377 : decode cX12_runOne 377 = .ok (.return_, 1) := by decide +kernel
theorem dX12_run_0 : decode cX12_run 0 = .ok (.aload_n 0, 1) := by decide +kernel
theorem dX12_run_1 : decode cX12_run 1 = .ok (.getfield 239, 3) := by decide +kernel
theorem dX12_run_4 : decode cX12_run 4 = .ok (.ifCond .eq 14, 3) := by decide +kernel
theorem dX12_run_7 : decode cX12_run 7 = .ok (.iload_n 1, 1) := by decide +kernel
theorem dX12_run_8 : decode cX12_run 8 = .ok (.ifCond .lt 10, 3) := by decide +kernel
theorem dX12_run_11 : decode cX12_run 11 = .ok (.iload_n 1, 1) := by decide +kernel
theorem dX12_run_12 : decode cX12_run 12 = .ok (.sipush 2000, 3) := by decide +kernel
theorem dX12_run_15 : decode cX12_run 15 = .ok (.if_icmp .le 5, 3) := by decide +kernel
theorem dX12_run_18 : decode cX12_run 18 = .ok (.iconst (-1), 1) := by decide +kernel
theorem dX12_run_19 : decode cX12_run 19 = .ok (.ireturn, 1) := by decide +kernel
theorem dX12_run_20 : decode cX12_run 20 = .ok (.iconst 0, 1) := by decide +kernel
theorem dX12_run_21 : decode cX12_run 21 = .ok (.istore_n 2, 1) := by decide +kernel
theorem dX12_run_22 : decode cX12_run 22 = .ok (.iload_n 2, 1) := by decide +kernel
theorem dX12_run_23 : decode cX12_run 23 = .ok (.sipush 200, 3) := by decide +kernel
theorem dX12_run_26 : decode cX12_run 26 = .ok (.if_icmp .ge 16, 3) := by decide +kernel
theorem dX12_run_29 : decode cX12_run 29 = .ok (.aload_n 0, 1) := by decide +kernel
theorem dX12_run_30 : decode cX12_run 30 = .ok (.getfield 69, 3) := by decide +kernel
theorem dX12_run_33 : decode cX12_run 33 = .ok (.iload_n 2, 1) := by decide +kernel
theorem dX12_run_34 : decode cX12_run 34 = .ok (.iconst 0, 1) := by decide +kernel
theorem dX12_run_35 : decode cX12_run 35 = .ok (.iastore, 1) := by decide +kernel
theorem dX12_run_36 : decode cX12_run 36 = .ok (.iinc 2 1, 3) := by decide +kernel
theorem dX12_run_39 : decode cX12_run 39 = .ok (.goto (-17), 3) := by decide +kernel
theorem dX12_run_42 : decode cX12_run 42 = .ok (.iconst 0, 1) := by decide +kernel
theorem dX12_run_43 : decode cX12_run 43 = .ok (.istore_n 2, 1) := by decide +kernel
theorem dX12_run_44 : decode cX12_run 44 = .ok (.iload_n 2, 1) := by decide +kernel
theorem dX12_run_45 : decode cX12_run 45 = .ok (.aload_n 0, 1) := by decide +kernel
theorem dX12_run_46 : decode cX12_run 46 = .ok (.getfield 210, 3) := by decide +kernel
theorem dX12_run_49 : decode cX12_run 49 = .ok (.if_icmp .ge 26, 3) := by decide +kernel
theorem dX12_run_52 : decode cX12_run 52 = .ok (.aload_n 0, 1) := by decide +kernel
theorem dX12_run_53 : decode cX12_run 53 = .ok (.getfield 69, 3) := by decide +kernel
theorem dX12_run_56 : decode cX12_run 56 = .ok (.aload_n 0, 1) := by decide +kernel
theorem dX12_run_57 : decode cX12_run 57 = .ok (.getfield 56, 3) := by decide +kernel
theorem dX12_run_60 : decode cX12_run 60 = .ok (.iload_n 2, 1) := by decide +kernel
theorem dX12_run_61 : decode cX12_run 61 = .ok (.iaload, 1) := by decide +kernel
theorem dX12_run_62 : decode cX12_run 62 = .ok (.aload_n 0, 1) := by decide +kernel
theorem dX12_run_63 : decode cX12_run 63 = .ok (.getfield 59, 3) := by decide +kernel
theorem dX12_run_66 : decode cX12_run 66 = .ok (.iload_n 2, 1) := by decide +kernel
theorem dX12_run_67 : decode cX12_run 67 = .ok (.iaload, 1) := by decide +kernel
theorem dX12_run_68 : decode cX12_run 68 = .ok (.iastore, 1) := by decide +kernel
theorem dX12_run_69 : decode cX12_run 69 = .ok (.iinc 2 1, 3) := by decide +kernel
theorem dX12_run_72 : decode cX12_run 72 = .ok (.goto (-28), 3) := by decide +kernel
theorem dX12_run_75 : decode cX12_run 75 = .ok (.aload_n 0, 1) := by decide +kernel
theorem dX12_run_76 : decode cX12_run 76 = .ok (.iconst 0, 1) := by decide +kernel
theorem dX12_run_77 : decode cX12_run 77 = .ok (.putfield 292, 3) := by decide +kernel
theorem dX12_run_80 : decode cX12_run 80 = .ok (.aload_n 0, 1) := by decide +kernel
theorem dX12_run_81 : decode cX12_run 81 = .ok (.iconst 0, 1) := by decide +kernel
theorem dX12_run_82 : decode cX12_run 82 = .ok (.putfield 279, 3) := by decide +kernel
theorem dX12_run_85 : decode cX12_run 85 = .ok (.aload_n 0, 1) := by decide +kernel
theorem dX12_run_86 : decode cX12_run 86 = .ok (.iload_n 1, 1) := by decide +kernel
theorem dX12_run_87 : decode cX12_run 87 = .ok (.putfield 282, 3) := by decide +kernel
theorem dX12_run_90 : decode cX12_run 90 = .ok (.aload_n 0, 1) := by decide +kernel
theorem dX12_run_91 : decode cX12_run 91 = .ok (.iconst 0, 1) := by decide +kernel
theorem dX12_run_92 : decode cX12_run 92 = .ok (.putfield 254, 3) := by decide +kernel
theorem dX12_run_95 : decode cX12_run 95 = .ok (.aload_n 0, 1) := by decide +kernel
theorem dX12_run_96 : decode cX12_run 96 = .ok (.iconst (-1), 1) := by decide +kernel
theorem dX12_run_97 : decode cX12_run 97 = .ok (.putfield 257, 3) := by decide +kernel
theorem dX12_run_100 : decode cX12_run 100 = .ok (.aload_n 0, 1) := by decide +kernel
theorem dX12_run_101 : decode cX12_run 101 = .ok (.aload_n 0, 1) := by decide +kernel
theorem dX12_run_102 : decode cX12_run 102 = .ok (.getfield 251, 3) := by decide +kernel
theorem dX12_run_105 : decode cX12_run 105 = .ok (.iconst 0, 1) := by decide +kernel
theorem dX12_run_106 : decode cX12_run 106 = .ok (.invokevirtual 295, 3) := by decide +kernel
theorem dX12_run_109 : decode cX12_run 109 = .ok (.aload_n 0, 1) := by decide +kernel
theorem dX12_run_110 : decode cX12_run 110 = .ok (.iconst 1, 1) := by decide +kernel
theorem dX12_run_111 : decode cX12_run 111 = .ok (.putfield 242, 3) := by decide +kernel
theorem dX12_run_114 : decode cX12_run 114 = .ok (.aload_n 0, 1) := by decide +kernel
theorem dX12_run_115 : decode cX12_run 115 = .ok (.getfield 254, 3) := by decide +kernel
theorem dX12_run_118 : decode cX12_run 118 = .ok (.ireturn, 1) := by decide +kernel
theorem dX12_ran_0 : decode cX12_ran 0 = .ok (.aload_n 0, 1) := by decide +kernel
theorem dX12_ran_1 : decode cX12_ran 1 = .ok (.getfield 242, 3) := by decide +kernel
theorem dX12_ran_4 : decode cX12_ran 4 = .ok (.ifCond .ne 7, 3) := by decide +kernel
theorem dX12_ran_7 : decode cX12_ran 7 = .ok (.iconst (-1), 1) := by decide +kernel
theorem dX12_ran_8 : decode cX12_ran 8 = .ok (.goto 39, 3) := by decide +kernel
theorem dX12_ran_11 : decode cX12_ran 11 = .ok (.iload_n 1, 1) := by decide +kernel
theorem dX12_ran_12 : decode cX12_ran 12 = .ok (.ifCond .ne 10, 3) := by decide +kernel
theorem dX12_ran_15 : decode cX12_ran 15 = .ok (.aload_n 0, 1) := by decide +kernel
theorem dX12_ran_16 : decode cX12_ran 16 = .ok (.getfield 257, 3) := by decide +kernel
theorem dX12_ran_19 : decode cX12_ran 19 = .ok (.goto 28, 3) := by decide +kernel
theorem dX12_ran_22 : decode cX12_ran 22 = .ok (.iload_n 1, 1) := by decide +kernel
theorem dX12_ran_23 : decode cX12_ran 23 = .ok (.iconst 1, 1) := by decide +kernel
theorem dX12_ran_24 : decode cX12_ran 24 = .ok (.if_icmp .ne 10, 3) := by decide +kernel
theorem dX12_ran_27 : decode cX12_ran 27 = .ok (.aload_n 0, 1) := by decide +kernel
theorem dX12_ran_28 : decode cX12_ran 28 = .ok (.getfield 279, 3) := by decide +kernel
theorem dX12_ran_31 : decode cX12_ran 31 = .ok (.goto 16, 3) := by decide +kernel
theorem dX12_ran_34 : decode cX12_ran 34 = .ok (.iload_n 1, 1) := by decide +kernel
theorem dX12_ran_35 : decode cX12_ran 35 = .ok (.iconst 2, 1) := by decide +kernel
theorem dX12_ran_36 : decode cX12_ran 36 = .ok (.if_icmp .ne 10, 3) := by decide +kernel
theorem dX12_ran_39 : decode cX12_ran 39 = .ok (.aload_n 0, 1) := by decide +kernel
theorem dX12_ran_40 : decode cX12_ran 40 = .ok (.getfield 292, 3) := by decide +kernel
theorem dX12_ran_43 : decode cX12_ran 43 = .ok (.goto 4, 3) := by decide +kernel
theorem dX12_ran_46 : decode cX12_ran 46 = .ok (.iconst (-1), 1) := by decide +kernel
theorem dX12_ran_47 : decode cX12_ran 47 = .ok (.ireturn, 1) := by decide +kernel
theorem dX12_out_0 : decode cX12_out 0 = .ok (.aload_n 0, 1) := by decide +kernel
theorem dX12_out_1 : decode cX12_out 1 = .ok (.getfield 242, 3) := by decide +kernel
theorem dX12_out_4 : decode cX12_out 4 = .ok (.ifCond .eq 15, 3) := by decide +kernel
theorem dX12_out_7 : decode cX12_out 7 = .ok (.iload_n 1, 1) := by decide +kernel
theorem dX12_out_8 : decode cX12_out 8 = .ok (.ifCond .lt 11, 3) := by decide +kernel
theorem dX12_out_11 : decode cX12_out 11 = .ok (.iload_n 1, 1) := by decide +kernel
theorem dX12_out_12 : decode cX12_out 12 = .ok (.aload_n 0, 1) := by decide +kernel
theorem dX12_out_13 : decode cX12_out 13 = .ok (.getfield 292, 3) := by decide +kernel
theorem dX12_out_16 : decode cX12_out 16 = .ok (.if_icmp .lt 7, 3) := by decide +kernel
theorem dX12_out_19 : decode cX12_out 19 = .ok (.iconst 0, 1) := by decide +kernel
theorem dX12_out_20 : decode cX12_out 20 = .ok (.goto 9, 3) := by decide +kernel
theorem dX12_out_23 : decode cX12_out 23 = .ok (.aload_n 0, 1) := by decide +kernel
theorem dX12_out_24 : decode cX12_out 24 = .ok (.getfield 72, 3) := by decide +kernel
theorem dX12_out_27 : decode cX12_out 27 = .ok (.iload_n 1, 1) := by decide +kernel
theorem dX12_out_28 : decode cX12_out 28 = .ok (.iaload, 1) := by decide +kernel
theorem dX12_out_29 : decode cX12_out 29 = .ok (.ireturn, 1) := by decide +kernel
theorem dX12_word_0 : decode cX12_word 0 = .ok (.aload_n 0, 1) := by decide +kernel
theorem dX12_word_1 : decode cX12_word 1 = .ok (.getfield 242, 3) := by decide +kernel
theorem dX12_word_4 : decode cX12_word 4 = .ok (.ifCond .eq 15, 3) := by decide +kernel
theorem dX12_word_7 : decode cX12_word 7 = .ok (.iload_n 1, 1) := by decide +kernel
theorem dX12_word_8 : decode cX12_word 8 = .ok (.ifCond .lt 11, 3) := by decide +kernel
theorem dX12_word_11 : decode cX12_word 11 = .ok (.iload_n 1, 1) := by decide +kernel
theorem dX12_word_12 : decode cX12_word 12 = .ok (.aload_n 0, 1) := by decide +kernel
theorem dX12_word_13 : decode cX12_word 13 = .ok (.getfield 207, 3) := by decide +kernel
theorem dX12_word_16 : decode cX12_word 16 = .ok (.if_icmp .lt 7, 3) := by decide +kernel
theorem dX12_word_19 : decode cX12_word 19 = .ok (.iconst 0, 1) := by decide +kernel
theorem dX12_word_20 : decode cX12_word 20 = .ok (.goto 9, 3) := by decide +kernel
theorem dX12_word_23 : decode cX12_word 23 = .ok (.aload_n 0, 1) := by decide +kernel
theorem dX12_word_24 : decode cX12_word 24 = .ok (.getfield 69, 3) := by decide +kernel
theorem dX12_word_27 : decode cX12_word 27 = .ok (.iload_n 1, 1) := by decide +kernel
theorem dX12_word_28 : decode cX12_word 28 = .ok (.iaload, 1) := by decide +kernel
theorem dX12_word_29 : decode cX12_word 29 = .ok (.ireturn, 1) := by decide +kernel
theorem dX12_quiet_0 : decode cX12_quiet 0 = .ok (.iconst 1, 1) := by decide +kernel
theorem dX12_quiet_1 : decode cX12_quiet 1 = .ok (.ireturn, 1) := by decide +kernel
theorem dX12_isPlace_0 : decode cX12_isPlace 0 = .ok (.iload_n 0, 1) := by decide +kernel
theorem dX12_isPlace_1 : decode cX12_isPlace 1 = .ok (.ifCond .lt 20, 3) := by decide +kernel
theorem dX12_isPlace_4 : decode cX12_isPlace 4 = .ok (.iload_n 0, 1) := by decide +kernel
theorem dX12_isPlace_5 : decode cX12_isPlace 5 = .ok (.sipush 16380, 3) := by decide +kernel
theorem dX12_isPlace_8 : decode cX12_isPlace 8 = .ok (.if_icmp .gt 13, 3) := by decide +kernel
theorem dX12_isPlace_11 : decode cX12_isPlace 11 = .ok (.iload_n 0, 1) := by decide +kernel
theorem dX12_isPlace_12 : decode cX12_isPlace 12 = .ok (.iconst 4, 1) := by decide +kernel
theorem dX12_isPlace_13 : decode cX12_isPlace 13 = .ok (.irem, 1) := by decide +kernel
theorem dX12_isPlace_14 : decode cX12_isPlace 14 = .ok (.ifCond .ne 7, 3) := by decide +kernel
theorem dX12_isPlace_17 : decode cX12_isPlace 17 = .ok (.iconst 1, 1) := by decide +kernel
theorem dX12_isPlace_18 : decode cX12_isPlace 18 = .ok (.goto 4, 3) := by decide +kernel
theorem dX12_isPlace_21 : decode cX12_isPlace 21 = .ok (.iconst 0, 1) := by decide +kernel
theorem dX12_isPlace_22 : decode cX12_isPlace 22 = .ok (.ireturn, 1) := by decide +kernel
theorem dX12_poke_0 : decode cX12_poke 0 = .ok (.iload_n 1, 1) := by decide +kernel
theorem dX12_poke_1 : decode cX12_poke 1 = .ok (.invokestatic 298, 3) := by decide +kernel
theorem dX12_poke_4 : decode cX12_poke 4 = .ok (.ifCond .ne 5, 3) := by decide +kernel
theorem dX12_poke_7 : decode cX12_poke 7 = .ok (.iconst 0, 1) := by decide +kernel
theorem dX12_poke_8 : decode cX12_poke 8 = .ok (.ireturn, 1) := by decide +kernel
theorem dX12_poke_9 : decode cX12_poke 9 = .ok (.aload_n 0, 1) := by decide +kernel
theorem dX12_poke_10 : decode cX12_poke 10 = .ok (.getfield 81, 3) := by decide +kernel
theorem dX12_poke_13 : decode cX12_poke 13 = .ok (.iload_n 1, 1) := by decide +kernel
theorem dX12_poke_14 : decode cX12_poke 14 = .ok (.iconst 4, 1) := by decide +kernel
theorem dX12_poke_15 : decode cX12_poke 15 = .ok (.idiv, 1) := by decide +kernel
theorem dX12_poke_16 : decode cX12_poke 16 = .ok (.iload_n 2, 1) := by decide +kernel
theorem dX12_poke_17 : decode cX12_poke 17 = .ok (.iastore, 1) := by decide +kernel
theorem dX12_poke_18 : decode cX12_poke 18 = .ok (.iconst 1, 1) := by decide +kernel
theorem dX12_poke_19 : decode cX12_poke 19 = .ok (.ireturn, 1) := by decide +kernel
theorem dX12_peek_0 : decode cX12_peek 0 = .ok (.iload_n 1, 1) := by decide +kernel
theorem dX12_peek_1 : decode cX12_peek 1 = .ok (.invokestatic 298, 3) := by decide +kernel
theorem dX12_peek_4 : decode cX12_peek 4 = .ok (.ifCond .eq 14, 3) := by decide +kernel
theorem dX12_peek_7 : decode cX12_peek 7 = .ok (.aload_n 0, 1) := by decide +kernel
theorem dX12_peek_8 : decode cX12_peek 8 = .ok (.getfield 81, 3) := by decide +kernel
theorem dX12_peek_11 : decode cX12_peek 11 = .ok (.iload_n 1, 1) := by decide +kernel
theorem dX12_peek_12 : decode cX12_peek 12 = .ok (.iconst 4, 1) := by decide +kernel
theorem dX12_peek_13 : decode cX12_peek 13 = .ok (.idiv, 1) := by decide +kernel
theorem dX12_peek_14 : decode cX12_peek 14 = .ok (.iaload, 1) := by decide +kernel
theorem dX12_peek_15 : decode cX12_peek 15 = .ok (.goto 4, 3) := by decide +kernel
theorem dX12_peek_18 : decode cX12_peek 18 = .ok (.iconst 0, 1) := by decide +kernel
theorem dX12_peek_19 : decode cX12_peek 19 = .ok (.ireturn, 1) := by decide +kernel
theorem dX12_set_0 : decode cX12_set 0 = .ok (.iload_n 1, 1) := by decide +kernel
theorem dX12_set_1 : decode cX12_set 1 = .ok (.ifCond .lt 9, 3) := by decide +kernel
theorem dX12_set_4 : decode cX12_set 4 = .ok (.iload_n 1, 1) := by decide +kernel
theorem dX12_set_5 : decode cX12_set 5 = .ok (.bipush 31, 2) := by decide +kernel
theorem dX12_set_7 : decode cX12_set 7 = .ok (.if_icmp .le 5, 3) := by decide +kernel
theorem dX12_set_10 : decode cX12_set 10 = .ok (.iconst 0, 1) := by decide +kernel
theorem dX12_set_11 : decode cX12_set 11 = .ok (.ireturn, 1) := by decide +kernel
theorem dX12_set_12 : decode cX12_set 12 = .ok (.aload_n 0, 1) := by decide +kernel
theorem dX12_set_13 : decode cX12_set 13 = .ok (.getfield 84, 3) := by decide +kernel
theorem dX12_set_16 : decode cX12_set 16 = .ok (.iload_n 1, 1) := by decide +kernel
theorem dX12_set_17 : decode cX12_set 17 = .ok (.iload_n 1, 1) := by decide +kernel
theorem dX12_set_18 : decode cX12_set 18 = .ok (.ifCond .ne 7, 3) := by decide +kernel
theorem dX12_set_21 : decode cX12_set 21 = .ok (.iconst 0, 1) := by decide +kernel
theorem dX12_set_22 : decode cX12_set 22 = .ok (.goto 4, 3) := by decide +kernel
theorem dX12_set_25 : decode cX12_set 25 = .ok (.iload_n 2, 1) := by decide +kernel
theorem dX12_set_26 : decode cX12_set 26 = .ok (.iastore, 1) := by decide +kernel
theorem dX12_set_27 : decode cX12_set 27 = .ok (.iconst 1, 1) := by decide +kernel
theorem dX12_set_28 : decode cX12_set 28 = .ok (.ireturn, 1) := by decide +kernel
theorem dX12_get_0 : decode cX12_get 0 = .ok (.iload_n 1, 1) := by decide +kernel
theorem dX12_get_1 : decode cX12_get 1 = .ok (.ifCond .lt 9, 3) := by decide +kernel
theorem dX12_get_4 : decode cX12_get 4 = .ok (.iload_n 1, 1) := by decide +kernel
theorem dX12_get_5 : decode cX12_get 5 = .ok (.bipush 31, 2) := by decide +kernel
theorem dX12_get_7 : decode cX12_get 7 = .ok (.if_icmp .le 7, 3) := by decide +kernel
theorem dX12_get_10 : decode cX12_get 10 = .ok (.iconst 0, 1) := by decide +kernel
theorem dX12_get_11 : decode cX12_get 11 = .ok (.goto 9, 3) := by decide +kernel
theorem dX12_get_14 : decode cX12_get 14 = .ok (.aload_n 0, 1) := by decide +kernel
theorem dX12_get_15 : decode cX12_get 15 = .ok (.getfield 84, 3) := by decide +kernel
theorem dX12_get_18 : decode cX12_get 18 = .ok (.iload_n 1, 1) := by decide +kernel
theorem dX12_get_19 : decode cX12_get 19 = .ok (.iaload, 1) := by decide +kernel
theorem dX12_get_20 : decode cX12_get 20 = .ok (.ireturn, 1) := by decide +kernel
theorem dX12_start_0 : decode cX12_start 0 = .ok (.iload_n 1, 1) := by decide +kernel
theorem dX12_start_1 : decode cX12_start 1 = .ok (.invokestatic 298, 3) := by decide +kernel
theorem dX12_start_4 : decode cX12_start 4 = .ok (.ifCond .ne 5, 3) := by decide +kernel
theorem dX12_start_7 : decode cX12_start 7 = .ok (.iconst 0, 1) := by decide +kernel
theorem dX12_start_8 : decode cX12_start 8 = .ok (.ireturn, 1) := by decide +kernel
theorem dX12_start_9 : decode cX12_start 9 = .ok (.aload_n 0, 1) := by decide +kernel
theorem dX12_start_10 : decode cX12_start 10 = .ok (.iload_n 1, 1) := by decide +kernel
theorem dX12_start_11 : decode cX12_start 11 = .ok (.putfield 301, 3) := by decide +kernel
theorem dX12_start_14 : decode cX12_start 14 = .ok (.aload_n 0, 1) := by decide +kernel
theorem dX12_start_15 : decode cX12_start 15 = .ok (.iconst 0, 1) := by decide +kernel
theorem dX12_start_16 : decode cX12_start 16 = .ok (.putfield 304, 3) := by decide +kernel
theorem dX12_start_19 : decode cX12_start 19 = .ok (.aload_n 0, 1) := by decide +kernel
theorem dX12_start_20 : decode cX12_start 20 = .ok (.iconst 0, 1) := by decide +kernel
theorem dX12_start_21 : decode cX12_start 21 = .ok (.putfield 307, 3) := by decide +kernel
theorem dX12_start_24 : decode cX12_start 24 = .ok (.aload_n 0, 1) := by decide +kernel
theorem dX12_start_25 : decode cX12_start 25 = .ok (.iconst 0, 1) := by decide +kernel
theorem dX12_start_26 : decode cX12_start 26 = .ok (.putfield 310, 3) := by decide +kernel
theorem dX12_start_29 : decode cX12_start 29 = .ok (.aload_n 0, 1) := by decide +kernel
theorem dX12_start_30 : decode cX12_start 30 = .ok (.lconst 0, 1) := by decide +kernel
theorem dX12_start_31 : decode cX12_start 31 = .ok (.putfield 313, 3) := by decide +kernel
theorem dX12_start_34 : decode cX12_start 34 = .ok (.iconst 0, 1) := by decide +kernel
theorem dX12_start_35 : decode cX12_start 35 = .ok (.istore_n 2, 1) := by decide +kernel
theorem dX12_start_36 : decode cX12_start 36 = .ok (.iload_n 2, 1) := by decide +kernel
theorem dX12_start_37 : decode cX12_start 37 = .ok (.bipush 32, 2) := by decide +kernel
theorem dX12_start_39 : decode cX12_start 39 = .ok (.if_icmp .ge 16, 3) := by decide +kernel
theorem dX12_start_42 : decode cX12_start 42 = .ok (.aload_n 0, 1) := by decide +kernel
theorem dX12_start_43 : decode cX12_start 43 = .ok (.getfield 87, 3) := by decide +kernel
theorem dX12_start_46 : decode cX12_start 46 = .ok (.iload_n 2, 1) := by decide +kernel
theorem dX12_start_47 : decode cX12_start 47 = .ok (.iconst 0, 1) := by decide +kernel
theorem dX12_start_48 : decode cX12_start 48 = .ok (.iastore, 1) := by decide +kernel
theorem dX12_start_49 : decode cX12_start 49 = .ok (.iinc 2 1, 3) := by decide +kernel
theorem dX12_start_52 : decode cX12_start 52 = .ok (.goto (-16), 3) := by decide +kernel
theorem dX12_start_55 : decode cX12_start 55 = .ok (.iconst 1, 1) := by decide +kernel
theorem dX12_start_56 : decode cX12_start 56 = .ok (.ireturn, 1) := by decide +kernel
theorem dX12_event_0 : decode cX12_event 0 = .ok (.aload_n 0, 1) := by decide +kernel
theorem dX12_event_1 : decode cX12_event 1 = .ok (.aload_n 0, 1) := by decide +kernel
theorem dX12_event_2 : decode cX12_event 2 = .ok (.getfield 313, 3) := by decide +kernel
theorem dX12_event_5 : decode cX12_event 5 = .ok (.ldc2_w 317, 3) := by decide +kernel
theorem dX12_event_8 : decode cX12_event 8 = .ok (.lmul, 1) := by decide +kernel
theorem dX12_event_9 : decode cX12_event 9 = .ok (.lload_n 1, 1) := by decide +kernel
theorem dX12_event_10 : decode cX12_event 10 = .ok (.ladd, 1) := by decide +kernel
theorem dX12_event_11 : decode cX12_event 11 = .ok (.lconst 1, 1) := by decide +kernel
theorem dX12_event_12 : decode cX12_event 12 = .ok (.ladd, 1) := by decide +kernel
theorem dX12_event_13 : decode cX12_event 13 = .ok (.putfield 313, 3) := by decide +kernel
theorem dX12_event_16 : decode cX12_event 16 = .ok (.return_, 1) := by decide +kernel
theorem dX12_access_0 : decode cX12_access 0 = .ok (.iload_n 1, 1) := by decide +kernel
theorem dX12_access_1 : decode cX12_access 1 = .ok (.bipush 16, 2) := by decide +kernel
theorem dX12_access_3 : decode cX12_access 3 = .ok (.idiv, 1) := by decide +kernel
theorem dX12_access_4 : decode cX12_access 4 = .ok (.iconst 1, 1) := by decide +kernel
theorem dX12_access_5 : decode cX12_access 5 = .ok (.iadd, 1) := by decide +kernel
theorem dX12_access_6 : decode cX12_access 6 = .ok (.istore_n 2, 1) := by decide +kernel
theorem dX12_access_7 : decode cX12_access 7 = .ok (.iload_n 1, 1) := by decide +kernel
theorem dX12_access_8 : decode cX12_access 8 = .ok (.bipush 16, 2) := by decide +kernel
theorem dX12_access_10 : decode cX12_access 10 = .ok (.idiv, 1) := by decide +kernel
theorem dX12_access_11 : decode cX12_access 11 = .ok (.bipush 16, 2) := by decide +kernel
theorem dX12_access_13 : decode cX12_access 13 = .ok (.irem, 1) := by decide +kernel
theorem dX12_access_14 : decode cX12_access 14 = .ok (.istore_n 3, 1) := by decide +kernel
theorem dX12_access_15 : decode cX12_access 15 = .ok (.aload_n 0, 1) := by decide +kernel
theorem dX12_access_16 : decode cX12_access 16 = .ok (.getfield 87, 3) := by decide +kernel
theorem dX12_access_19 : decode cX12_access 19 = .ok (.iconst 2, 1) := by decide +kernel
theorem dX12_access_20 : decode cX12_access 20 = .ok (.iload_n 3, 1) := by decide +kernel
theorem dX12_access_21 : decode cX12_access 21 = .ok (.imul, 1) := by decide +kernel
theorem dX12_access_22 : decode cX12_access 22 = .ok (.iaload, 1) := by decide +kernel
theorem dX12_access_23 : decode cX12_access 23 = .ok (.iload_n 2, 1) := by decide +kernel
theorem dX12_access_24 : decode cX12_access 24 = .ok (.if_icmp .ne 4, 3) := by decide +kernel
theorem dX12_access_27 : decode cX12_access 27 = .ok (.return_, 1) := by decide +kernel
theorem dX12_access_28 : decode cX12_access 28 = .ok (.aload_n 0, 1) := by decide +kernel
theorem dX12_access_29 : decode cX12_access 29 = .ok (.getfield 87, 3) := by decide +kernel
theorem dX12_access_32 : decode cX12_access 32 = .ok (.iconst 2, 1) := by decide +kernel
theorem dX12_access_33 : decode cX12_access 33 = .ok (.iload_n 3, 1) := by decide +kernel
theorem dX12_access_34 : decode cX12_access 34 = .ok (.imul, 1) := by decide +kernel
theorem dX12_access_35 : decode cX12_access 35 = .ok (.iconst 1, 1) := by decide +kernel
theorem dX12_access_36 : decode cX12_access 36 = .ok (.iadd, 1) := by decide +kernel
theorem dX12_access_37 : decode cX12_access 37 = .ok (.iaload, 1) := by decide +kernel
theorem dX12_access_38 : decode cX12_access 38 = .ok (.iload_n 2, 1) := by decide +kernel
theorem dX12_access_39 : decode cX12_access 39 = .ok (.if_icmp .eq 24, 3) := by decide +kernel
theorem dX12_access_42 : decode cX12_access 42 = .ok (.aload_n 0, 1) := by decide +kernel
theorem dX12_access_43 : decode cX12_access 43 = .ok (.dup, 1) := by decide +kernel
theorem dX12_access_44 : decode cX12_access 44 = .ok (.getfield 310, 3) := by decide +kernel
theorem dX12_access_47 : decode cX12_access 47 = .ok (.iconst 1, 1) := by decide +kernel
theorem dX12_access_48 : decode cX12_access 48 = .ok (.iadd, 1) := by decide +kernel
theorem dX12_access_49 : decode cX12_access 49 = .ok (.putfield 310, 3) := by decide +kernel
theorem dX12_access_52 : decode cX12_access 52 = .ok (.aload_n 0, 1) := by decide +kernel
theorem dX12_access_53 : decode cX12_access 53 = .ok (.dup, 1) := by decide +kernel
theorem dX12_access_54 : decode cX12_access 54 = .ok (.getfield 307, 3) := by decide +kernel
theorem dX12_access_57 : decode cX12_access 57 = .ok (.bipush 20, 2) := by decide +kernel
theorem dX12_access_59 : decode cX12_access 59 = .ok (.iadd, 1) := by decide +kernel
theorem dX12_access_60 : decode cX12_access 60 = .ok (.putfield 307, 3) := by decide +kernel
theorem dX12_access_63 : decode cX12_access 63 = .ok (.aload_n 0, 1) := by decide +kernel
theorem dX12_access_64 : decode cX12_access 64 = .ok (.getfield 87, 3) := by decide +kernel
theorem dX12_access_67 : decode cX12_access 67 = .ok (.iconst 2, 1) := by decide +kernel
theorem dX12_access_68 : decode cX12_access 68 = .ok (.iload_n 3, 1) := by decide +kernel
theorem dX12_access_69 : decode cX12_access 69 = .ok (.imul, 1) := by decide +kernel
theorem dX12_access_70 : decode cX12_access 70 = .ok (.iconst 1, 1) := by decide +kernel
theorem dX12_access_71 : decode cX12_access 71 = .ok (.iadd, 1) := by decide +kernel
theorem dX12_access_72 : decode cX12_access 72 = .ok (.aload_n 0, 1) := by decide +kernel
theorem dX12_access_73 : decode cX12_access 73 = .ok (.getfield 87, 3) := by decide +kernel
theorem dX12_access_76 : decode cX12_access 76 = .ok (.iconst 2, 1) := by decide +kernel
theorem dX12_access_77 : decode cX12_access 77 = .ok (.iload_n 3, 1) := by decide +kernel
theorem dX12_access_78 : decode cX12_access 78 = .ok (.imul, 1) := by decide +kernel
theorem dX12_access_79 : decode cX12_access 79 = .ok (.iaload, 1) := by decide +kernel
theorem dX12_access_80 : decode cX12_access 80 = .ok (.iastore, 1) := by decide +kernel
theorem dX12_access_81 : decode cX12_access 81 = .ok (.aload_n 0, 1) := by decide +kernel
theorem dX12_access_82 : decode cX12_access 82 = .ok (.getfield 87, 3) := by decide +kernel
theorem dX12_access_85 : decode cX12_access 85 = .ok (.iconst 2, 1) := by decide +kernel
theorem dX12_access_86 : decode cX12_access 86 = .ok (.iload_n 3, 1) := by decide +kernel
theorem dX12_access_87 : decode cX12_access 87 = .ok (.imul, 1) := by decide +kernel
theorem dX12_access_88 : decode cX12_access 88 = .ok (.iload_n 2, 1) := by decide +kernel
theorem dX12_access_89 : decode cX12_access 89 = .ok (.iastore, 1) := by decide +kernel
theorem dX12_access_90 : decode cX12_access 90 = .ok (.return_, 1) := by decide +kernel
theorem dX12_write_0 : decode cX12_write 0 = .ok (.aload_n 0, 1) := by decide +kernel
theorem dX12_write_1 : decode cX12_write 1 = .ok (.getfield 84, 3) := by decide +kernel
theorem dX12_write_4 : decode cX12_write 4 = .ok (.iload_n 1, 1) := by decide +kernel
theorem dX12_write_5 : decode cX12_write 5 = .ok (.iload_n 1, 1) := by decide +kernel
theorem dX12_write_6 : decode cX12_write 6 = .ok (.ifCond .ne 7, 3) := by decide +kernel
theorem dX12_write_9 : decode cX12_write 9 = .ok (.iconst 0, 1) := by decide +kernel
theorem dX12_write_10 : decode cX12_write 10 = .ok (.goto 4, 3) := by decide +kernel
theorem dX12_write_13 : decode cX12_write 13 = .ok (.iload_n 2, 1) := by decide +kernel
theorem dX12_write_14 : decode cX12_write 14 = .ok (.iastore, 1) := by decide +kernel
theorem dX12_write_15 : decode cX12_write 15 = .ok (.return_, 1) := by decide +kernel
theorem dX12_reckon_0 : decode cX12_reckon 0 = .ok (.iload_n 0, 1) := by decide +kernel
theorem dX12_reckon_1 : decode cX12_reckon 1 = .ok (.tableswitch 122 0 6 #[43, 57, 64, 75, 94, 98, 118], 43) := by decide +kernel
theorem dX12_reckon_44 : decode cX12_reckon 44 = .ok (.iload_n 1, 1) := by decide +kernel
theorem dX12_reckon_45 : decode cX12_reckon 45 = .ok (.ifCond .eq 9, 3) := by decide +kernel
theorem dX12_reckon_48 : decode cX12_reckon 48 = .ok (.iload_n 2, 1) := by decide +kernel
theorem dX12_reckon_49 : decode cX12_reckon 49 = .ok (.iload_n 3, 1) := by decide +kernel
theorem dX12_reckon_50 : decode cX12_reckon 50 = .ok (.isub, 1) := by decide +kernel
theorem dX12_reckon_51 : decode cX12_reckon 51 = .ok (.goto 6, 3) := by decide +kernel
theorem dX12_reckon_54 : decode cX12_reckon 54 = .ok (.iload_n 2, 1) := by decide +kernel
theorem dX12_reckon_55 : decode cX12_reckon 55 = .ok (.iload_n 3, 1) := by decide +kernel
theorem dX12_reckon_56 : decode cX12_reckon 56 = .ok (.iadd, 1) := by decide +kernel
theorem dX12_reckon_57 : decode cX12_reckon 57 = .ok (.ireturn, 1) := by decide +kernel
theorem dX12_reckon_58 : decode cX12_reckon 58 = .ok (.iload_n 2, 1) := by decide +kernel
theorem dX12_reckon_59 : decode cX12_reckon 59 = .ok (.iload_n 3, 1) := by decide +kernel
theorem dX12_reckon_60 : decode cX12_reckon 60 = .ok (.bipush 31, 2) := by decide +kernel
theorem dX12_reckon_62 : decode cX12_reckon 62 = .ok (.iand, 1) := by decide +kernel
theorem dX12_reckon_63 : decode cX12_reckon 63 = .ok (.ishl, 1) := by decide +kernel
theorem dX12_reckon_64 : decode cX12_reckon 64 = .ok (.ireturn, 1) := by decide +kernel
theorem dX12_reckon_65 : decode cX12_reckon 65 = .ok (.iload_n 2, 1) := by decide +kernel
theorem dX12_reckon_66 : decode cX12_reckon 66 = .ok (.iload_n 3, 1) := by decide +kernel
theorem dX12_reckon_67 : decode cX12_reckon 67 = .ok (.if_icmp .ge 7, 3) := by decide +kernel
theorem dX12_reckon_70 : decode cX12_reckon 70 = .ok (.iconst 1, 1) := by decide +kernel
theorem dX12_reckon_71 : decode cX12_reckon 71 = .ok (.goto 4, 3) := by decide +kernel
theorem dX12_reckon_74 : decode cX12_reckon 74 = .ok (.iconst 0, 1) := by decide +kernel
theorem dX12_reckon_75 : decode cX12_reckon 75 = .ok (.ireturn, 1) := by decide +kernel
theorem dX12_reckon_76 : decode cX12_reckon 76 = .ok (.iload_n 2, 1) := by decide +kernel
theorem dX12_reckon_77 : decode cX12_reckon 77 = .ok (.ldc_w 319, 3) := by decide +kernel
theorem dX12_reckon_80 : decode cX12_reckon 80 = .ok (.ixor, 1) := by decide +kernel
theorem dX12_reckon_81 : decode cX12_reckon 81 = .ok (.iload_n 3, 1) := by decide +kernel
theorem dX12_reckon_82 : decode cX12_reckon 82 = .ok (.ldc_w 319, 3) := by decide +kernel
theorem dX12_reckon_85 : decode cX12_reckon 85 = .ok (.ixor, 1) := by decide +kernel
theorem dX12_reckon_86 : decode cX12_reckon 86 = .ok (.if_icmp .ge 7, 3) := by decide +kernel
theorem dX12_reckon_89 : decode cX12_reckon 89 = .ok (.iconst 1, 1) := by decide +kernel
theorem dX12_reckon_90 : decode cX12_reckon 90 = .ok (.goto 4, 3) := by decide +kernel
theorem dX12_reckon_93 : decode cX12_reckon 93 = .ok (.iconst 0, 1) := by decide +kernel
theorem dX12_reckon_94 : decode cX12_reckon 94 = .ok (.ireturn, 1) := by decide +kernel
theorem dX12_reckon_95 : decode cX12_reckon 95 = .ok (.iload_n 2, 1) := by decide +kernel
theorem dX12_reckon_96 : decode cX12_reckon 96 = .ok (.iload_n 3, 1) := by decide +kernel
theorem dX12_reckon_97 : decode cX12_reckon 97 = .ok (.ixor, 1) := by decide +kernel
theorem dX12_reckon_98 : decode cX12_reckon 98 = .ok (.ireturn, 1) := by decide +kernel
theorem dX12_reckon_99 : decode cX12_reckon 99 = .ok (.iload_n 1, 1) := by decide +kernel
theorem dX12_reckon_100 : decode cX12_reckon 100 = .ok (.ifCond .eq 12, 3) := by decide +kernel
theorem dX12_reckon_103 : decode cX12_reckon 103 = .ok (.iload_n 2, 1) := by decide +kernel
theorem dX12_reckon_104 : decode cX12_reckon 104 = .ok (.iload_n 3, 1) := by decide +kernel
theorem dX12_reckon_105 : decode cX12_reckon 105 = .ok (.bipush 31, 2) := by decide +kernel
theorem dX12_reckon_107 : decode cX12_reckon 107 = .ok (.iand, 1) := by decide +kernel
theorem dX12_reckon_108 : decode cX12_reckon 108 = .ok (.ishr, 1) := by decide +kernel
theorem dX12_reckon_109 : decode cX12_reckon 109 = .ok (.goto 9, 3) := by decide +kernel
theorem dX12_reckon_112 : decode cX12_reckon 112 = .ok (.iload_n 2, 1) := by decide +kernel
theorem dX12_reckon_113 : decode cX12_reckon 113 = .ok (.iload_n 3, 1) := by decide +kernel
theorem dX12_reckon_114 : decode cX12_reckon 114 = .ok (.bipush 31, 2) := by decide +kernel
theorem dX12_reckon_116 : decode cX12_reckon 116 = .ok (.iand, 1) := by decide +kernel
theorem dX12_reckon_117 : decode cX12_reckon 117 = .ok (.iushr, 1) := by decide +kernel
theorem dX12_reckon_118 : decode cX12_reckon 118 = .ok (.ireturn, 1) := by decide +kernel
theorem dX12_reckon_119 : decode cX12_reckon 119 = .ok (.iload_n 2, 1) := by decide +kernel
theorem dX12_reckon_120 : decode cX12_reckon 120 = .ok (.iload_n 3, 1) := by decide +kernel
theorem dX12_reckon_121 : decode cX12_reckon 121 = .ok (.ior, 1) := by decide +kernel
theorem dX12_reckon_122 : decode cX12_reckon 122 = .ok (.ireturn, 1) := by decide +kernel
theorem dX12_reckon_123 : decode cX12_reckon 123 = .ok (.iload_n 2, 1) := by decide +kernel
theorem dX12_reckon_124 : decode cX12_reckon 124 = .ok (.iload_n 3, 1) := by decide +kernel
theorem dX12_reckon_125 : decode cX12_reckon 125 = .ok (.iand, 1) := by decide +kernel
theorem dX12_reckon_126 : decode cX12_reckon 126 = .ok (.ireturn, 1) := by decide +kernel
theorem dX12_multiply_0 : decode cX12_multiply 0 = .ok (.iload_n 1, 1) := by decide +kernel
theorem dX12_multiply_1 : decode cX12_multiply 1 = .ok (.i2l, 1) := by decide +kernel
theorem dX12_multiply_2 : decode cX12_multiply 2 = .ok (.ldc2_w 320, 3) := by decide +kernel
theorem dX12_multiply_5 : decode cX12_multiply 5 = .ok (.land, 1) := by decide +kernel
theorem dX12_multiply_6 : decode cX12_multiply 6 = .ok (.lstore_n 3, 1) := by decide +kernel
theorem dX12_multiply_7 : decode cX12_multiply 7 = .ok (.iload_n 2, 1) := by decide +kernel
theorem dX12_multiply_8 : decode cX12_multiply 8 = .ok (.i2l, 1) := by decide +kernel
theorem dX12_multiply_9 : decode cX12_multiply 9 = .ok (.ldc2_w 320, 3) := by decide +kernel
theorem dX12_multiply_12 : decode cX12_multiply 12 = .ok (.land, 1) := by decide +kernel
theorem dX12_multiply_13 : decode cX12_multiply 13 = .ok (.lstore 5, 2) := by decide +kernel
theorem dX12_multiply_15 : decode cX12_multiply 15 = .ok (.iload_n 0, 1) := by decide +kernel
theorem dX12_multiply_16 : decode cX12_multiply 16 = .ok (.tableswitch 115 0 6 #[44, 48, 58, 68, 77, 89, 103], 44) := by decide +kernel
theorem dX12_multiply_60 : decode cX12_multiply 60 = .ok (.iload_n 1, 1) := by decide +kernel
theorem dX12_multiply_61 : decode cX12_multiply 61 = .ok (.iload_n 2, 1) := by decide +kernel
theorem dX12_multiply_62 : decode cX12_multiply 62 = .ok (.imul, 1) := by decide +kernel
theorem dX12_multiply_63 : decode cX12_multiply 63 = .ok (.ireturn, 1) := by decide +kernel
theorem dX12_multiply_64 : decode cX12_multiply 64 = .ok (.iload_n 1, 1) := by decide +kernel
theorem dX12_multiply_65 : decode cX12_multiply 65 = .ok (.i2l, 1) := by decide +kernel
theorem dX12_multiply_66 : decode cX12_multiply 66 = .ok (.iload_n 2, 1) := by decide +kernel
theorem dX12_multiply_67 : decode cX12_multiply 67 = .ok (.i2l, 1) := by decide +kernel
theorem dX12_multiply_68 : decode cX12_multiply 68 = .ok (.lmul, 1) := by decide +kernel
theorem dX12_multiply_69 : decode cX12_multiply 69 = .ok (.bipush 32, 2) := by decide +kernel
theorem dX12_multiply_71 : decode cX12_multiply 71 = .ok (.lshr, 1) := by decide +kernel
theorem dX12_multiply_72 : decode cX12_multiply 72 = .ok (.l2i, 1) := by decide +kernel
theorem dX12_multiply_73 : decode cX12_multiply 73 = .ok (.ireturn, 1) := by decide +kernel
theorem dX12_multiply_74 : decode cX12_multiply 74 = .ok (.iload_n 1, 1) := by decide +kernel
theorem dX12_multiply_75 : decode cX12_multiply 75 = .ok (.i2l, 1) := by decide +kernel
theorem dX12_multiply_76 : decode cX12_multiply 76 = .ok (.lload 5, 2) := by decide +kernel
theorem dX12_multiply_78 : decode cX12_multiply 78 = .ok (.lmul, 1) := by decide +kernel
theorem dX12_multiply_79 : decode cX12_multiply 79 = .ok (.bipush 32, 2) := by decide +kernel
theorem dX12_multiply_81 : decode cX12_multiply 81 = .ok (.lshr, 1) := by decide +kernel
theorem dX12_multiply_82 : decode cX12_multiply 82 = .ok (.l2i, 1) := by decide +kernel
theorem dX12_multiply_83 : decode cX12_multiply 83 = .ok (.ireturn, 1) := by decide +kernel
theorem dX12_multiply_84 : decode cX12_multiply 84 = .ok (.lload_n 3, 1) := by decide +kernel
theorem dX12_multiply_85 : decode cX12_multiply 85 = .ok (.lload 5, 2) := by decide +kernel
theorem dX12_multiply_87 : decode cX12_multiply 87 = .ok (.lmul, 1) := by decide +kernel
theorem dX12_multiply_88 : decode cX12_multiply 88 = .ok (.bipush 32, 2) := by decide +kernel
theorem dX12_multiply_90 : decode cX12_multiply 90 = .ok (.lushr, 1) := by decide +kernel
theorem dX12_multiply_91 : decode cX12_multiply 91 = .ok (.l2i, 1) := by decide +kernel
theorem dX12_multiply_92 : decode cX12_multiply 92 = .ok (.ireturn, 1) := by decide +kernel
theorem dX12_multiply_93 : decode cX12_multiply 93 = .ok (.iload_n 2, 1) := by decide +kernel
theorem dX12_multiply_94 : decode cX12_multiply 94 = .ok (.ifCond .ne 7, 3) := by decide +kernel
theorem dX12_multiply_97 : decode cX12_multiply 97 = .ok (.iconst (-1), 1) := by decide +kernel
theorem dX12_multiply_98 : decode cX12_multiply 98 = .ok (.goto 6, 3) := by decide +kernel
theorem dX12_multiply_101 : decode cX12_multiply 101 = .ok (.iload_n 1, 1) := by decide +kernel
theorem dX12_multiply_102 : decode cX12_multiply 102 = .ok (.iload_n 2, 1) := by decide +kernel
theorem dX12_multiply_103 : decode cX12_multiply 103 = .ok (.idiv, 1) := by decide +kernel
theorem dX12_multiply_104 : decode cX12_multiply 104 = .ok (.ireturn, 1) := by decide +kernel
theorem dX12_multiply_105 : decode cX12_multiply 105 = .ok (.iload_n 2, 1) := by decide +kernel
theorem dX12_multiply_106 : decode cX12_multiply 106 = .ok (.ifCond .ne 7, 3) := by decide +kernel
theorem dX12_multiply_109 : decode cX12_multiply 109 = .ok (.iconst (-1), 1) := by decide +kernel
theorem dX12_multiply_110 : decode cX12_multiply 110 = .ok (.goto 8, 3) := by decide +kernel
theorem dX12_multiply_113 : decode cX12_multiply 113 = .ok (.lload_n 3, 1) := by decide +kernel
theorem dX12_multiply_114 : decode cX12_multiply 114 = .ok (.lload 5, 2) := by decide +kernel
theorem dX12_multiply_116 : decode cX12_multiply 116 = .ok (.ldiv, 1) := by decide +kernel
theorem dX12_multiply_117 : decode cX12_multiply 117 = .ok (.l2i, 1) := by decide +kernel
theorem dX12_multiply_118 : decode cX12_multiply 118 = .ok (.ireturn, 1) := by decide +kernel
theorem dX12_multiply_119 : decode cX12_multiply 119 = .ok (.iload_n 2, 1) := by decide +kernel
theorem dX12_multiply_120 : decode cX12_multiply 120 = .ok (.ifCond .ne 7, 3) := by decide +kernel
theorem dX12_multiply_123 : decode cX12_multiply 123 = .ok (.iload_n 1, 1) := by decide +kernel
theorem dX12_multiply_124 : decode cX12_multiply 124 = .ok (.goto 6, 3) := by decide +kernel
theorem dX12_multiply_127 : decode cX12_multiply 127 = .ok (.iload_n 1, 1) := by decide +kernel
theorem dX12_multiply_128 : decode cX12_multiply 128 = .ok (.iload_n 2, 1) := by decide +kernel
theorem dX12_multiply_129 : decode cX12_multiply 129 = .ok (.irem, 1) := by decide +kernel
theorem dX12_multiply_130 : decode cX12_multiply 130 = .ok (.ireturn, 1) := by decide +kernel
theorem dX12_multiply_131 : decode cX12_multiply 131 = .ok (.iload_n 2, 1) := by decide +kernel
theorem dX12_multiply_132 : decode cX12_multiply 132 = .ok (.ifCond .ne 7, 3) := by decide +kernel
theorem dX12_multiply_135 : decode cX12_multiply 135 = .ok (.iload_n 1, 1) := by decide +kernel
theorem dX12_multiply_136 : decode cX12_multiply 136 = .ok (.goto 8, 3) := by decide +kernel
theorem dX12_multiply_139 : decode cX12_multiply 139 = .ok (.lload_n 3, 1) := by decide +kernel
theorem dX12_multiply_140 : decode cX12_multiply 140 = .ok (.lload 5, 2) := by decide +kernel
theorem dX12_multiply_142 : decode cX12_multiply 142 = .ok (.lrem, 1) := by decide +kernel
theorem dX12_multiply_143 : decode cX12_multiply 143 = .ok (.l2i, 1) := by decide +kernel
theorem dX12_multiply_144 : decode cX12_multiply 144 = .ok (.ireturn, 1) := by decide +kernel
theorem dX12_order_0 : decode cX12_order 0 = .ok (.aload_n 0, 1) := by decide +kernel
theorem dX12_order_1 : decode cX12_order 1 = .ok (.getfield 301, 3) := by decide +kernel
theorem dX12_order_4 : decode cX12_order 4 = .ok (.invokestatic 298, 3) := by decide +kernel
theorem dX12_order_7 : decode cX12_order 7 = .ok (.ifCond .ne 5, 3) := by decide +kernel
theorem dX12_order_10 : decode cX12_order 10 = .ok (.iconst 3, 1) := by decide +kernel
theorem dX12_order_11 : decode cX12_order 11 = .ok (.ireturn, 1) := by decide +kernel
theorem dX12_order_12 : decode cX12_order 12 = .ok (.aload_n 0, 1) := by decide +kernel
theorem dX12_order_13 : decode cX12_order 13 = .ok (.getfield 81, 3) := by decide +kernel
theorem dX12_order_16 : decode cX12_order 16 = .ok (.aload_n 0, 1) := by decide +kernel
theorem dX12_order_17 : decode cX12_order 17 = .ok (.getfield 301, 3) := by decide +kernel
theorem dX12_order_20 : decode cX12_order 20 = .ok (.iconst 4, 1) := by decide +kernel
theorem dX12_order_21 : decode cX12_order 21 = .ok (.idiv, 1) := by decide +kernel
theorem dX12_order_22 : decode cX12_order 22 = .ok (.iaload, 1) := by decide +kernel
theorem dX12_order_23 : decode cX12_order 23 = .ok (.istore_n 1, 1) := by decide +kernel
theorem dX12_order_24 : decode cX12_order 24 = .ok (.iload_n 1, 1) := by decide +kernel
theorem dX12_order_25 : decode cX12_order 25 = .ok (.bipush 127, 2) := by decide +kernel
theorem dX12_order_27 : decode cX12_order 27 = .ok (.iand, 1) := by decide +kernel
theorem dX12_order_28 : decode cX12_order 28 = .ok (.istore_n 2, 1) := by decide +kernel
theorem dX12_order_29 : decode cX12_order 29 = .ok (.iload_n 1, 1) := by decide +kernel
theorem dX12_order_30 : decode cX12_order 30 = .ok (.bipush 7, 2) := by decide +kernel
theorem dX12_order_32 : decode cX12_order 32 = .ok (.ishr, 1) := by decide +kernel
theorem dX12_order_33 : decode cX12_order 33 = .ok (.bipush 31, 2) := by decide +kernel
theorem dX12_order_35 : decode cX12_order 35 = .ok (.iand, 1) := by decide +kernel
theorem dX12_order_36 : decode cX12_order 36 = .ok (.istore_n 3, 1) := by decide +kernel
theorem dX12_order_37 : decode cX12_order 37 = .ok (.iload_n 1, 1) := by decide +kernel
theorem dX12_order_38 : decode cX12_order 38 = .ok (.bipush 12, 2) := by decide +kernel
theorem dX12_order_40 : decode cX12_order 40 = .ok (.ishr, 1) := by decide +kernel
theorem dX12_order_41 : decode cX12_order 41 = .ok (.bipush 7, 2) := by decide +kernel
theorem dX12_order_43 : decode cX12_order 43 = .ok (.iand, 1) := by decide +kernel
theorem dX12_order_44 : decode cX12_order 44 = .ok (.istore 4, 2) := by decide +kernel
theorem dX12_order_46 : decode cX12_order 46 = .ok (.aload_n 0, 1) := by decide +kernel
theorem dX12_order_47 : decode cX12_order 47 = .ok (.getfield 84, 3) := by decide +kernel
theorem dX12_order_50 : decode cX12_order 50 = .ok (.iload_n 1, 1) := by decide +kernel
theorem dX12_order_51 : decode cX12_order 51 = .ok (.bipush 15, 2) := by decide +kernel
theorem dX12_order_53 : decode cX12_order 53 = .ok (.ishr, 1) := by decide +kernel
theorem dX12_order_54 : decode cX12_order 54 = .ok (.bipush 31, 2) := by decide +kernel
theorem dX12_order_56 : decode cX12_order 56 = .ok (.iand, 1) := by decide +kernel
theorem dX12_order_57 : decode cX12_order 57 = .ok (.iaload, 1) := by decide +kernel
theorem dX12_order_58 : decode cX12_order 58 = .ok (.istore 5, 2) := by decide +kernel
theorem dX12_order_60 : decode cX12_order 60 = .ok (.aload_n 0, 1) := by decide +kernel
theorem dX12_order_61 : decode cX12_order 61 = .ok (.getfield 84, 3) := by decide +kernel
theorem dX12_order_64 : decode cX12_order 64 = .ok (.iload_n 1, 1) := by decide +kernel
theorem dX12_order_65 : decode cX12_order 65 = .ok (.bipush 20, 2) := by decide +kernel
theorem dX12_order_67 : decode cX12_order 67 = .ok (.ishr, 1) := by decide +kernel
theorem dX12_order_68 : decode cX12_order 68 = .ok (.bipush 31, 2) := by decide +kernel
theorem dX12_order_70 : decode cX12_order 70 = .ok (.iand, 1) := by decide +kernel
theorem dX12_order_71 : decode cX12_order 71 = .ok (.iaload, 1) := by decide +kernel
theorem dX12_order_72 : decode cX12_order 72 = .ok (.istore 6, 2) := by decide +kernel
theorem dX12_order_74 : decode cX12_order 74 = .ok (.iload_n 1, 1) := by decide +kernel
theorem dX12_order_75 : decode cX12_order 75 = .ok (.bipush 25, 2) := by decide +kernel
theorem dX12_order_77 : decode cX12_order 77 = .ok (.iushr, 1) := by decide +kernel
theorem dX12_order_78 : decode cX12_order 78 = .ok (.istore 7, 2) := by decide +kernel
theorem dX12_order_80 : decode cX12_order 80 = .ok (.iload_n 1, 1) := by decide +kernel
theorem dX12_order_81 : decode cX12_order 81 = .ok (.bipush 20, 2) := by decide +kernel
theorem dX12_order_83 : decode cX12_order 83 = .ok (.ishr, 1) := by decide +kernel
theorem dX12_order_84 : decode cX12_order 84 = .ok (.istore 8, 2) := by decide +kernel
theorem dX12_order_86 : decode cX12_order 86 = .ok (.aload_n 0, 1) := by decide +kernel
theorem dX12_order_87 : decode cX12_order 87 = .ok (.getfield 301, 3) := by decide +kernel
theorem dX12_order_90 : decode cX12_order 90 = .ok (.iconst 4, 1) := by decide +kernel
theorem dX12_order_91 : decode cX12_order 91 = .ok (.iadd, 1) := by decide +kernel
theorem dX12_order_92 : decode cX12_order 92 = .ok (.istore 9, 2) := by decide +kernel
theorem dX12_order_94 : decode cX12_order 94 = .ok (.iconst 0, 1) := by decide +kernel
theorem dX12_order_95 : decode cX12_order 95 = .ok (.istore 10, 2) := by decide +kernel
theorem dX12_order_97 : decode cX12_order 97 = .ok (.iconst 0, 1) := by decide +kernel
theorem dX12_order_98 : decode cX12_order 98 = .ok (.istore 11, 2) := by decide +kernel
theorem dX12_order_100 : decode cX12_order 100 = .ok (.iconst 1, 1) := by decide +kernel
theorem dX12_order_101 : decode cX12_order 101 = .ok (.istore 12, 2) := by decide +kernel
theorem dX12_order_103 : decode cX12_order 103 = .ok (.iconst (-1), 1) := by decide +kernel
theorem dX12_order_104 : decode cX12_order 104 = .ok (.istore 13, 2) := by decide +kernel
theorem dX12_order_106 : decode cX12_order 106 = .ok (.iconst 0, 1) := by decide +kernel
theorem dX12_order_107 : decode cX12_order 107 = .ok (.istore 14, 2) := by decide +kernel
theorem dX12_order_109 : decode cX12_order 109 = .ok (.iload_n 1, 1) := by decide +kernel
theorem dX12_order_110 : decode cX12_order 110 = .ok (.bipush 115, 2) := by decide +kernel
theorem dX12_order_112 : decode cX12_order 112 = .ok (.if_icmp .ne 5, 3) := by decide +kernel
theorem dX12_order_115 : decode cX12_order 115 = .ok (.iconst 1, 1) := by decide +kernel
theorem dX12_order_116 : decode cX12_order 116 = .ok (.ireturn, 1) := by decide +kernel
theorem dX12_order_117 : decode cX12_order 117 = .ok (.iload_n 2, 1) := by decide +kernel
theorem dX12_order_118 : decode cX12_order 118 = .ok (.bipush 55, 2) := by decide +kernel
theorem dX12_order_120 : decode cX12_order 120 = .ok (.if_icmp .ne 13, 3) := by decide +kernel
theorem dX12_order_123 : decode cX12_order 123 = .ok (.iload_n 1, 1) := by decide +kernel
theorem dX12_order_124 : decode cX12_order 124 = .ok (.sipush (-4096), 3) := by decide +kernel
theorem dX12_order_127 : decode cX12_order 127 = .ok (.iand, 1) := by decide +kernel
theorem dX12_order_128 : decode cX12_order 128 = .ok (.istore 11, 2) := by decide +kernel
theorem dX12_order_130 : decode cX12_order 130 = .ok (.goto 527, 3) := by decide +kernel
theorem dX12_order_133 : decode cX12_order 133 = .ok (.iload_n 2, 1) := by decide +kernel
theorem dX12_order_134 : decode cX12_order 134 = .ok (.bipush 23, 2) := by decide +kernel
theorem dX12_order_136 : decode cX12_order 136 = .ok (.if_icmp .ne 18, 3) := by decide +kernel
theorem dX12_order_139 : decode cX12_order 139 = .ok (.aload_n 0, 1) := by decide +kernel
theorem dX12_order_140 : decode cX12_order 140 = .ok (.getfield 301, 3) := by decide +kernel
theorem dX12_order_143 : decode cX12_order 143 = .ok (.iload_n 1, 1) := by decide +kernel
theorem dX12_order_144 : decode cX12_order 144 = .ok (.sipush (-4096), 3) := by decide +kernel
theorem dX12_order_147 : decode cX12_order 147 = .ok (.iand, 1) := by decide +kernel
theorem dX12_order_148 : decode cX12_order 148 = .ok (.iadd, 1) := by decide +kernel
theorem dX12_order_149 : decode cX12_order 149 = .ok (.istore 11, 2) := by decide +kernel
theorem dX12_order_151 : decode cX12_order 151 = .ok (.goto 506, 3) := by decide +kernel
theorem dX12_order_154 : decode cX12_order 154 = .ok (.iload_n 2, 1) := by decide +kernel
theorem dX12_order_155 : decode cX12_order 155 = .ok (.bipush 111, 2) := by decide +kernel
theorem dX12_order_157 : decode cX12_order 157 = .ok (.if_icmp .ne 51, 3) := by decide +kernel
theorem dX12_order_160 : decode cX12_order 160 = .ok (.iload 9, 2) := by decide +kernel
theorem dX12_order_162 : decode cX12_order 162 = .ok (.istore 11, 2) := by decide +kernel
theorem dX12_order_164 : decode cX12_order 164 = .ok (.iconst 1, 1) := by decide +kernel
theorem dX12_order_165 : decode cX12_order 165 = .ok (.istore 10, 2) := by decide +kernel
theorem dX12_order_167 : decode cX12_order 167 = .ok (.aload_n 0, 1) := by decide +kernel
theorem dX12_order_168 : decode cX12_order 168 = .ok (.getfield 301, 3) := by decide +kernel
theorem dX12_order_171 : decode cX12_order 171 = .ok (.iload_n 1, 1) := by decide +kernel
theorem dX12_order_172 : decode cX12_order 172 = .ok (.bipush 31, 2) := by decide +kernel
theorem dX12_order_174 : decode cX12_order 174 = .ok (.ishr, 1) := by decide +kernel
theorem dX12_order_175 : decode cX12_order 175 = .ok (.bipush 20, 2) := by decide +kernel
theorem dX12_order_177 : decode cX12_order 177 = .ok (.ishl, 1) := by decide +kernel
theorem dX12_order_178 : decode cX12_order 178 = .ok (.iload_n 1, 1) := by decide +kernel
theorem dX12_order_179 : decode cX12_order 179 = .ok (.ldc_w 322, 3) := by decide +kernel
theorem dX12_order_182 : decode cX12_order 182 = .ok (.iand, 1) := by decide +kernel
theorem dX12_order_183 : decode cX12_order 183 = .ok (.ior, 1) := by decide +kernel
theorem dX12_order_184 : decode cX12_order 184 = .ok (.iload_n 1, 1) := by decide +kernel
theorem dX12_order_185 : decode cX12_order 185 = .ok (.bipush 9, 2) := by decide +kernel
theorem dX12_order_187 : decode cX12_order 187 = .ok (.ishr, 1) := by decide +kernel
theorem dX12_order_188 : decode cX12_order 188 = .ok (.sipush 2048, 3) := by decide +kernel
theorem dX12_order_191 : decode cX12_order 191 = .ok (.iand, 1) := by decide +kernel
theorem dX12_order_192 : decode cX12_order 192 = .ok (.ior, 1) := by decide +kernel
theorem dX12_order_193 : decode cX12_order 193 = .ok (.iload_n 1, 1) := by decide +kernel
theorem dX12_order_194 : decode cX12_order 194 = .ok (.bipush 20, 2) := by decide +kernel
theorem dX12_order_196 : decode cX12_order 196 = .ok (.ishr, 1) := by decide +kernel
theorem dX12_order_197 : decode cX12_order 197 = .ok (.sipush 2046, 3) := by decide +kernel
theorem dX12_order_200 : decode cX12_order 200 = .ok (.iand, 1) := by decide +kernel
theorem dX12_order_201 : decode cX12_order 201 = .ok (.ior, 1) := by decide +kernel
theorem dX12_order_202 : decode cX12_order 202 = .ok (.iadd, 1) := by decide +kernel
theorem dX12_order_203 : decode cX12_order 203 = .ok (.istore 9, 2) := by decide +kernel
theorem dX12_order_205 : decode cX12_order 205 = .ok (.goto 452, 3) := by decide +kernel
theorem dX12_order_208 : decode cX12_order 208 = .ok (.iload_n 2, 1) := by decide +kernel
theorem dX12_order_209 : decode cX12_order 209 = .ok (.bipush 103, 2) := by decide +kernel
theorem dX12_order_211 : decode cX12_order 211 = .ok (.if_icmp .ne 28, 3) := by decide +kernel
theorem dX12_order_214 : decode cX12_order 214 = .ok (.iload 4, 2) := by decide +kernel
theorem dX12_order_216 : decode cX12_order 216 = .ok (.ifCond .ne 23, 3) := by decide +kernel
theorem dX12_order_219 : decode cX12_order 219 = .ok (.iload 9, 2) := by decide +kernel
theorem dX12_order_221 : decode cX12_order 221 = .ok (.istore 11, 2) := by decide +kernel
theorem dX12_order_223 : decode cX12_order 223 = .ok (.iconst 1, 1) := by decide +kernel
theorem dX12_order_224 : decode cX12_order 224 = .ok (.istore 10, 2) := by decide +kernel
theorem dX12_order_226 : decode cX12_order 226 = .ok (.iload 5, 2) := by decide +kernel
theorem dX12_order_228 : decode cX12_order 228 = .ok (.iload 8, 2) := by decide +kernel
theorem dX12_order_230 : decode cX12_order 230 = .ok (.iadd, 1) := by decide +kernel
theorem dX12_order_231 : decode cX12_order 231 = .ok (.bipush (-2), 2) := by decide +kernel
theorem dX12_order_233 : decode cX12_order 233 = .ok (.iand, 1) := by decide +kernel
theorem dX12_order_234 : decode cX12_order 234 = .ok (.istore 9, 2) := by decide +kernel
theorem dX12_order_236 : decode cX12_order 236 = .ok (.goto 421, 3) := by decide +kernel
theorem dX12_order_239 : decode cX12_order 239 = .ok (.iload_n 2, 1) := by decide +kernel
theorem dX12_order_240 : decode cX12_order 240 = .ok (.bipush 99, 2) := by decide +kernel
theorem dX12_order_242 : decode cX12_order 242 = .ok (.if_icmp .ne 167, 3) := by decide +kernel
theorem dX12_order_245 : decode cX12_order 245 = .ok (.iload 4, 2) := by decide +kernel
theorem dX12_order_247 : decode cX12_order 247 = .ok (.iconst 2, 1) := by decide +kernel
theorem dX12_order_248 : decode cX12_order 248 = .ok (.if_icmp .eq 161, 3) := by decide +kernel
theorem dX12_order_251 : decode cX12_order 251 = .ok (.iload 4, 2) := by decide +kernel
theorem dX12_order_253 : decode cX12_order 253 = .ok (.iconst 3, 1) := by decide +kernel
theorem dX12_order_254 : decode cX12_order 254 = .ok (.if_icmp .eq 155, 3) := by decide +kernel
theorem dX12_order_257 : decode cX12_order 257 = .ok (.iload 4, 2) := by decide +kernel
theorem dX12_order_259 : decode cX12_order 259 = .ok (.bipush 6, 2) := by decide +kernel
theorem dX12_order_261 : decode cX12_order 261 = .ok (.if_icmp .ge 18, 3) := by decide +kernel
theorem dX12_order_264 : decode cX12_order 264 = .ok (.iload 5, 2) := by decide +kernel
theorem dX12_order_266 : decode cX12_order 266 = .ok (.iload 6, 2) := by decide +kernel
theorem dX12_order_268 : decode cX12_order 268 = .ok (.if_icmp .ge 7, 3) := by decide +kernel
theorem dX12_order_271 : decode cX12_order 271 = .ok (.iconst 1, 1) := by decide +kernel
theorem dX12_order_272 : decode cX12_order 272 = .ok (.goto 27, 3) := by decide +kernel
theorem dX12_order_275 : decode cX12_order 275 = .ok (.iconst 0, 1) := by decide +kernel
theorem dX12_order_276 : decode cX12_order 276 = .ok (.goto 23, 3) := by decide +kernel
theorem dX12_order_279 : decode cX12_order 279 = .ok (.iload 5, 2) := by decide +kernel
theorem dX12_order_281 : decode cX12_order 281 = .ok (.ldc_w 319, 3) := by decide +kernel
theorem dX12_order_284 : decode cX12_order 284 = .ok (.ixor, 1) := by decide +kernel
theorem dX12_order_285 : decode cX12_order 285 = .ok (.iload 6, 2) := by decide +kernel
theorem dX12_order_287 : decode cX12_order 287 = .ok (.ldc_w 319, 3) := by decide +kernel
theorem dX12_order_290 : decode cX12_order 290 = .ok (.ixor, 1) := by decide +kernel
theorem dX12_order_291 : decode cX12_order 291 = .ok (.if_icmp .ge 7, 3) := by decide +kernel
theorem dX12_order_294 : decode cX12_order 294 = .ok (.iconst 1, 1) := by decide +kernel
theorem dX12_order_295 : decode cX12_order 295 = .ok (.goto 4, 3) := by decide +kernel
theorem dX12_order_298 : decode cX12_order 298 = .ok (.iconst 0, 1) := by decide +kernel
theorem dX12_order_299 : decode cX12_order 299 = .ok (.istore 15, 2) := by decide +kernel
theorem dX12_order_301 : decode cX12_order 301 = .ok (.iload 4, 2) := by decide +kernel
theorem dX12_order_303 : decode cX12_order 303 = .ok (.iconst 2, 1) := by decide +kernel
theorem dX12_order_304 : decode cX12_order 304 = .ok (.if_icmp .ge 18, 3) := by decide +kernel
theorem dX12_order_307 : decode cX12_order 307 = .ok (.iload 5, 2) := by decide +kernel
theorem dX12_order_309 : decode cX12_order 309 = .ok (.iload 6, 2) := by decide +kernel
theorem dX12_order_311 : decode cX12_order 311 = .ok (.if_icmp .ne 7, 3) := by decide +kernel
theorem dX12_order_314 : decode cX12_order 314 = .ok (.iconst 1, 1) := by decide +kernel
theorem dX12_order_315 : decode cX12_order 315 = .ok (.goto 9, 3) := by decide +kernel
theorem dX12_order_318 : decode cX12_order 318 = .ok (.iconst 0, 1) := by decide +kernel
theorem dX12_order_319 : decode cX12_order 319 = .ok (.goto 5, 3) := by decide +kernel
theorem dX12_order_322 : decode cX12_order 322 = .ok (.iload 15, 2) := by decide +kernel
theorem dX12_order_324 : decode cX12_order 324 = .ok (.istore 16, 2) := by decide +kernel
theorem dX12_order_326 : decode cX12_order 326 = .ok (.iload 4, 2) := by decide +kernel
theorem dX12_order_328 : decode cX12_order 328 = .ok (.iconst 2, 1) := by decide +kernel
theorem dX12_order_329 : decode cX12_order 329 = .ok (.irem, 1) := by decide +kernel
theorem dX12_order_330 : decode cX12_order 330 = .ok (.ifCond .ne 8, 3) := by decide +kernel
theorem dX12_order_333 : decode cX12_order 333 = .ok (.iload 16, 2) := by decide +kernel
theorem dX12_order_335 : decode cX12_order 335 = .ok (.goto 13, 3) := by decide +kernel
theorem dX12_order_338 : decode cX12_order 338 = .ok (.iload 16, 2) := by decide +kernel
theorem dX12_order_340 : decode cX12_order 340 = .ok (.ifCond .ne 7, 3) := by decide +kernel
theorem dX12_order_343 : decode cX12_order 343 = .ok (.iconst 1, 1) := by decide +kernel
theorem dX12_order_344 : decode cX12_order 344 = .ok (.goto 4, 3) := by decide +kernel
theorem dX12_order_347 : decode cX12_order 347 = .ok (.iconst 0, 1) := by decide +kernel
theorem dX12_order_348 : decode cX12_order 348 = .ok (.istore 10, 2) := by decide +kernel
theorem dX12_order_350 : decode cX12_order 350 = .ok (.iconst 0, 1) := by decide +kernel
theorem dX12_order_351 : decode cX12_order 351 = .ok (.istore 12, 2) := by decide +kernel
theorem dX12_order_353 : decode cX12_order 353 = .ok (.iload_n 1, 1) := by decide +kernel
theorem dX12_order_354 : decode cX12_order 354 = .ok (.bipush 31, 2) := by decide +kernel
theorem dX12_order_356 : decode cX12_order 356 = .ok (.ishr, 1) := by decide +kernel
theorem dX12_order_357 : decode cX12_order 357 = .ok (.bipush 12, 2) := by decide +kernel
theorem dX12_order_359 : decode cX12_order 359 = .ok (.ishl, 1) := by decide +kernel
theorem dX12_order_360 : decode cX12_order 360 = .ok (.iload_n 1, 1) := by decide +kernel
theorem dX12_order_361 : decode cX12_order 361 = .ok (.iconst 4, 1) := by decide +kernel
theorem dX12_order_362 : decode cX12_order 362 = .ok (.ishl, 1) := by decide +kernel
theorem dX12_order_363 : decode cX12_order 363 = .ok (.sipush 2048, 3) := by decide +kernel
theorem dX12_order_366 : decode cX12_order 366 = .ok (.iand, 1) := by decide +kernel
theorem dX12_order_367 : decode cX12_order 367 = .ok (.ior, 1) := by decide +kernel
theorem dX12_order_368 : decode cX12_order 368 = .ok (.iload_n 1, 1) := by decide +kernel
theorem dX12_order_369 : decode cX12_order 369 = .ok (.bipush 20, 2) := by decide +kernel
theorem dX12_order_371 : decode cX12_order 371 = .ok (.ishr, 1) := by decide +kernel
theorem dX12_order_372 : decode cX12_order 372 = .ok (.sipush 2016, 3) := by decide +kernel
theorem dX12_order_375 : decode cX12_order 375 = .ok (.iand, 1) := by decide +kernel
theorem dX12_order_376 : decode cX12_order 376 = .ok (.ior, 1) := by decide +kernel
theorem dX12_order_377 : decode cX12_order 377 = .ok (.iload_n 1, 1) := by decide +kernel
theorem dX12_order_378 : decode cX12_order 378 = .ok (.bipush 7, 2) := by decide +kernel
theorem dX12_order_380 : decode cX12_order 380 = .ok (.ishr, 1) := by decide +kernel
theorem dX12_order_381 : decode cX12_order 381 = .ok (.bipush 30, 2) := by decide +kernel
theorem dX12_order_383 : decode cX12_order 383 = .ok (.iand, 1) := by decide +kernel
theorem dX12_order_384 : decode cX12_order 384 = .ok (.ior, 1) := by decide +kernel
theorem dX12_order_385 : decode cX12_order 385 = .ok (.istore 17, 2) := by decide +kernel
theorem dX12_order_387 : decode cX12_order 387 = .ok (.iload 10, 2) := by decide +kernel
theorem dX12_order_389 : decode cX12_order 389 = .ok (.ifCond .eq 13, 3) := by decide +kernel
theorem dX12_order_392 : decode cX12_order 392 = .ok (.aload_n 0, 1) := by decide +kernel
theorem dX12_order_393 : decode cX12_order 393 = .ok (.getfield 301, 3) := by decide +kernel
theorem dX12_order_396 : decode cX12_order 396 = .ok (.iload 17, 2) := by decide +kernel
theorem dX12_order_398 : decode cX12_order 398 = .ok (.iadd, 1) := by decide +kernel
theorem dX12_order_399 : decode cX12_order 399 = .ok (.goto 5, 3) := by decide +kernel
theorem dX12_order_402 : decode cX12_order 402 = .ok (.iload 9, 2) := by decide +kernel
theorem dX12_order_404 : decode cX12_order 404 = .ok (.istore 9, 2) := by decide +kernel
theorem dX12_order_406 : decode cX12_order 406 = .ok (.goto 251, 3) := by decide +kernel
theorem dX12_order_409 : decode cX12_order 409 = .ok (.iload_n 2, 1) := by decide +kernel
theorem dX12_order_410 : decode cX12_order 410 = .ok (.iconst 3, 1) := by decide +kernel
theorem dX12_order_411 : decode cX12_order 411 = .ok (.if_icmp .ne 40, 3) := by decide +kernel
theorem dX12_order_414 : decode cX12_order 414 = .ok (.iload 4, 2) := by decide +kernel
theorem dX12_order_416 : decode cX12_order 416 = .ok (.iconst 2, 1) := by decide +kernel
theorem dX12_order_417 : decode cX12_order 417 = .ok (.if_icmp .ne 34, 3) := by decide +kernel
theorem dX12_order_420 : decode cX12_order 420 = .ok (.iload 5, 2) := by decide +kernel
theorem dX12_order_422 : decode cX12_order 422 = .ok (.iload 8, 2) := by decide +kernel
theorem dX12_order_424 : decode cX12_order 424 = .ok (.iadd, 1) := by decide +kernel
theorem dX12_order_425 : decode cX12_order 425 = .ok (.istore 13, 2) := by decide +kernel
theorem dX12_order_427 : decode cX12_order 427 = .ok (.iload 13, 2) := by decide +kernel
theorem dX12_order_429 : decode cX12_order 429 = .ok (.invokestatic 298, 3) := by decide +kernel
theorem dX12_order_432 : decode cX12_order 432 = .ok (.ifCond .ne 5, 3) := by decide +kernel
theorem dX12_order_435 : decode cX12_order 435 = .ok (.iconst 3, 1) := by decide +kernel
theorem dX12_order_436 : decode cX12_order 436 = .ok (.ireturn, 1) := by decide +kernel
theorem dX12_order_437 : decode cX12_order 437 = .ok (.aload_n 0, 1) := by decide +kernel
theorem dX12_order_438 : decode cX12_order 438 = .ok (.getfield 81, 3) := by decide +kernel
theorem dX12_order_441 : decode cX12_order 441 = .ok (.iload 13, 2) := by decide +kernel
theorem dX12_order_443 : decode cX12_order 443 = .ok (.iconst 4, 1) := by decide +kernel
theorem dX12_order_444 : decode cX12_order 444 = .ok (.idiv, 1) := by decide +kernel
theorem dX12_order_445 : decode cX12_order 445 = .ok (.iaload, 1) := by decide +kernel
theorem dX12_order_446 : decode cX12_order 446 = .ok (.istore 11, 2) := by decide +kernel
theorem dX12_order_448 : decode cX12_order 448 = .ok (.goto 209, 3) := by decide +kernel
theorem dX12_order_451 : decode cX12_order 451 = .ok (.iload_n 2, 1) := by decide +kernel
theorem dX12_order_452 : decode cX12_order 452 = .ok (.bipush 35, 2) := by decide +kernel
theorem dX12_order_454 : decode cX12_order 454 = .ok (.if_icmp .ne 38, 3) := by decide +kernel
theorem dX12_order_457 : decode cX12_order 457 = .ok (.iload 4, 2) := by decide +kernel
theorem dX12_order_459 : decode cX12_order 459 = .ok (.iconst 2, 1) := by decide +kernel
theorem dX12_order_460 : decode cX12_order 460 = .ok (.if_icmp .ne 32, 3) := by decide +kernel
theorem dX12_order_463 : decode cX12_order 463 = .ok (.iload 5, 2) := by decide +kernel
theorem dX12_order_465 : decode cX12_order 465 = .ok (.iload_n 1, 1) := by decide +kernel
theorem dX12_order_466 : decode cX12_order 466 = .ok (.bipush 25, 2) := by decide +kernel
theorem dX12_order_468 : decode cX12_order 468 = .ok (.ishr, 1) := by decide +kernel
theorem dX12_order_469 : decode cX12_order 469 = .ok (.iconst 5, 1) := by decide +kernel
theorem dX12_order_470 : decode cX12_order 470 = .ok (.ishl, 1) := by decide +kernel
theorem dX12_order_471 : decode cX12_order 471 = .ok (.iload_n 3, 1) := by decide +kernel
theorem dX12_order_472 : decode cX12_order 472 = .ok (.ior, 1) := by decide +kernel
theorem dX12_order_473 : decode cX12_order 473 = .ok (.iadd, 1) := by decide +kernel
theorem dX12_order_474 : decode cX12_order 474 = .ok (.istore 13, 2) := by decide +kernel
theorem dX12_order_476 : decode cX12_order 476 = .ok (.iload 13, 2) := by decide +kernel
theorem dX12_order_478 : decode cX12_order 478 = .ok (.invokestatic 298, 3) := by decide +kernel
theorem dX12_order_481 : decode cX12_order 481 = .ok (.ifCond .ne 5, 3) := by decide +kernel
theorem dX12_order_484 : decode cX12_order 484 = .ok (.iconst 3, 1) := by decide +kernel
theorem dX12_order_485 : decode cX12_order 485 = .ok (.ireturn, 1) := by decide +kernel
theorem dX12_order_486 : decode cX12_order 486 = .ok (.iconst 0, 1) := by decide +kernel
theorem dX12_order_487 : decode cX12_order 487 = .ok (.istore 12, 2) := by decide +kernel
theorem dX12_order_489 : decode cX12_order 489 = .ok (.goto 168, 3) := by decide +kernel
theorem dX12_order_492 : decode cX12_order 492 = .ok (.iload_n 2, 1) := by decide +kernel
theorem dX12_order_493 : decode cX12_order 493 = .ok (.bipush 19, 2) := by decide +kernel
theorem dX12_order_495 : decode cX12_order 495 = .ok (.if_icmp .ne 65, 3) := by decide +kernel
theorem dX12_order_498 : decode cX12_order 498 = .ok (.iload 4, 2) := by decide +kernel
theorem dX12_order_500 : decode cX12_order 500 = .ok (.iconst 1, 1) := by decide +kernel
theorem dX12_order_501 : decode cX12_order 501 = .ok (.if_icmp .eq 9, 3) := by decide +kernel
theorem dX12_order_504 : decode cX12_order 504 = .ok (.iload 4, 2) := by decide +kernel
theorem dX12_order_506 : decode cX12_order 506 = .ok (.iconst 5, 1) := by decide +kernel
theorem dX12_order_507 : decode cX12_order 507 = .ok (.if_icmp .ne 21, 3) := by decide +kernel
theorem dX12_order_510 : decode cX12_order 510 = .ok (.iload 7, 2) := by decide +kernel
theorem dX12_order_512 : decode cX12_order 512 = .ok (.ifCond .eq 16, 3) := by decide +kernel
theorem dX12_order_515 : decode cX12_order 515 = .ok (.iload 4, 2) := by decide +kernel
theorem dX12_order_517 : decode cX12_order 517 = .ok (.iconst 5, 1) := by decide +kernel
theorem dX12_order_518 : decode cX12_order 518 = .ok (.if_icmp .ne 42, 3) := by decide +kernel
theorem dX12_order_521 : decode cX12_order 521 = .ok (.iload 7, 2) := by decide +kernel
theorem dX12_order_523 : decode cX12_order 523 = .ok (.bipush 32, 2) := by decide +kernel
theorem dX12_order_525 : decode cX12_order 525 = .ok (.if_icmp .ne 35, 3) := by decide +kernel
theorem dX12_order_528 : decode cX12_order 528 = .ok (.iload 4, 2) := by decide +kernel
theorem dX12_order_530 : decode cX12_order 530 = .ok (.iload 4, 2) := by decide +kernel
theorem dX12_order_532 : decode cX12_order 532 = .ok (.iconst 5, 1) := by decide +kernel
theorem dX12_order_533 : decode cX12_order 533 = .ok (.if_icmp .ne 14, 3) := by decide +kernel
theorem dX12_order_536 : decode cX12_order 536 = .ok (.iload 7, 2) := by decide +kernel
theorem dX12_order_538 : decode cX12_order 538 = .ok (.bipush 32, 2) := by decide +kernel
theorem dX12_order_540 : decode cX12_order 540 = .ok (.if_icmp .ne 7, 3) := by decide +kernel
theorem dX12_order_543 : decode cX12_order 543 = .ok (.iconst 1, 1) := by decide +kernel
theorem dX12_order_544 : decode cX12_order 544 = .ok (.goto 4, 3) := by decide +kernel
theorem dX12_order_547 : decode cX12_order 547 = .ok (.iconst 0, 1) := by decide +kernel
theorem dX12_order_548 : decode cX12_order 548 = .ok (.iload 5, 2) := by decide +kernel
theorem dX12_order_550 : decode cX12_order 550 = .ok (.iload 8, 2) := by decide +kernel
theorem dX12_order_552 : decode cX12_order 552 = .ok (.invokestatic 323, 3) := by decide +kernel
theorem dX12_order_555 : decode cX12_order 555 = .ok (.istore 11, 2) := by decide +kernel
theorem dX12_order_557 : decode cX12_order 557 = .ok (.goto 100, 3) := by decide +kernel
theorem dX12_order_560 : decode cX12_order 560 = .ok (.iload_n 2, 1) := by decide +kernel
theorem dX12_order_561 : decode cX12_order 561 = .ok (.bipush 51, 2) := by decide +kernel
theorem dX12_order_563 : decode cX12_order 563 = .ok (.if_icmp .ne 52, 3) := by decide +kernel
theorem dX12_order_566 : decode cX12_order 566 = .ok (.iload 7, 2) := by decide +kernel
theorem dX12_order_568 : decode cX12_order 568 = .ok (.ifCond .eq 21, 3) := by decide +kernel
theorem dX12_order_571 : decode cX12_order 571 = .ok (.iload 7, 2) := by decide +kernel
theorem dX12_order_573 : decode cX12_order 573 = .ok (.bipush 32, 2) := by decide +kernel
theorem dX12_order_575 : decode cX12_order 575 = .ok (.if_icmp .ne 40, 3) := by decide +kernel
theorem dX12_order_578 : decode cX12_order 578 = .ok (.iload 4, 2) := by decide +kernel
theorem dX12_order_580 : decode cX12_order 580 = .ok (.ifCond .eq 9, 3) := by decide +kernel
theorem dX12_order_583 : decode cX12_order 583 = .ok (.iload 4, 2) := by decide +kernel
theorem dX12_order_585 : decode cX12_order 585 = .ok (.iconst 5, 1) := by decide +kernel
theorem dX12_order_586 : decode cX12_order 586 = .ok (.if_icmp .ne 29, 3) := by decide +kernel
theorem dX12_order_589 : decode cX12_order 589 = .ok (.iload 4, 2) := by decide +kernel
theorem dX12_order_591 : decode cX12_order 591 = .ok (.iload 7, 2) := by decide +kernel
theorem dX12_order_593 : decode cX12_order 593 = .ok (.bipush 32, 2) := by decide +kernel
theorem dX12_order_595 : decode cX12_order 595 = .ok (.if_icmp .ne 7, 3) := by decide +kernel
theorem dX12_order_598 : decode cX12_order 598 = .ok (.iconst 1, 1) := by decide +kernel
theorem dX12_order_599 : decode cX12_order 599 = .ok (.goto 4, 3) := by decide +kernel
theorem dX12_order_602 : decode cX12_order 602 = .ok (.iconst 0, 1) := by decide +kernel
theorem dX12_order_603 : decode cX12_order 603 = .ok (.iload 5, 2) := by decide +kernel
theorem dX12_order_605 : decode cX12_order 605 = .ok (.iload 6, 2) := by decide +kernel
theorem dX12_order_607 : decode cX12_order 607 = .ok (.invokestatic 323, 3) := by decide +kernel
theorem dX12_order_610 : decode cX12_order 610 = .ok (.istore 11, 2) := by decide +kernel
theorem dX12_order_612 : decode cX12_order 612 = .ok (.goto 45, 3) := by decide +kernel
theorem dX12_order_615 : decode cX12_order 615 = .ok (.iload_n 2, 1) := by decide +kernel
theorem dX12_order_616 : decode cX12_order 616 = .ok (.bipush 51, 2) := by decide +kernel
theorem dX12_order_618 : decode cX12_order 618 = .ok (.if_icmp .ne 37, 3) := by decide +kernel
theorem dX12_order_621 : decode cX12_order 621 = .ok (.iload 7, 2) := by decide +kernel
theorem dX12_order_623 : decode cX12_order 623 = .ok (.iconst 1, 1) := by decide +kernel
theorem dX12_order_624 : decode cX12_order 624 = .ok (.if_icmp .ne 31, 3) := by decide +kernel
theorem dX12_order_627 : decode cX12_order 627 = .ok (.iload 4, 2) := by decide +kernel
theorem dX12_order_629 : decode cX12_order 629 = .ok (.iload 5, 2) := by decide +kernel
theorem dX12_order_631 : decode cX12_order 631 = .ok (.iload 6, 2) := by decide +kernel
theorem dX12_order_633 : decode cX12_order 633 = .ok (.invokestatic 327, 3) := by decide +kernel
theorem dX12_order_636 : decode cX12_order 636 = .ok (.istore 11, 2) := by decide +kernel
theorem dX12_order_638 : decode cX12_order 638 = .ok (.iload 4, 2) := by decide +kernel
theorem dX12_order_640 : decode cX12_order 640 = .ok (.iconst 4, 1) := by decide +kernel
theorem dX12_order_641 : decode cX12_order 641 = .ok (.if_icmp .ge 7, 3) := by decide +kernel
theorem dX12_order_644 : decode cX12_order 644 = .ok (.iconst 3, 1) := by decide +kernel
theorem dX12_order_645 : decode cX12_order 645 = .ok (.goto 5, 3) := by decide +kernel
theorem dX12_order_648 : decode cX12_order 648 = .ok (.bipush 32, 2) := by decide +kernel
theorem dX12_order_650 : decode cX12_order 650 = .ok (.istore 14, 2) := by decide +kernel
theorem dX12_order_652 : decode cX12_order 652 = .ok (.goto 5, 3) := by decide +kernel
theorem dX12_order_655 : decode cX12_order 655 = .ok (.iconst 2, 1) := by decide +kernel
theorem dX12_order_656 : decode cX12_order 656 = .ok (.ireturn, 1) := by decide +kernel
theorem dX12_order_657 : decode cX12_order 657 = .ok (.aload_n 0, 1) := by decide +kernel
theorem dX12_order_658 : decode cX12_order 658 = .ok (.aload_n 0, 1) := by decide +kernel
theorem dX12_order_659 : decode cX12_order 659 = .ok (.getfield 301, 3) := by decide +kernel
theorem dX12_order_662 : decode cX12_order 662 = .ok (.invokevirtual 330, 3) := by decide +kernel
theorem dX12_order_665 : decode cX12_order 665 = .ok (.aload_n 0, 1) := by decide +kernel
theorem dX12_order_666 : decode cX12_order 666 = .ok (.aload_n 0, 1) := by decide +kernel
theorem dX12_order_667 : decode cX12_order 667 = .ok (.getfield 301, 3) := by decide +kernel
theorem dX12_order_670 : decode cX12_order 670 = .ok (.i2l, 1) := by decide +kernel
theorem dX12_order_671 : decode cX12_order 671 = .ok (.invokevirtual 333, 3) := by decide +kernel
theorem dX12_order_674 : decode cX12_order 674 = .ok (.iload 13, 2) := by decide +kernel
theorem dX12_order_676 : decode cX12_order 676 = .ok (.iconst (-1), 1) := by decide +kernel
theorem dX12_order_677 : decode cX12_order 677 = .ok (.if_icmp .eq 32, 3) := by decide +kernel
theorem dX12_order_680 : decode cX12_order 680 = .ok (.aload_n 0, 1) := by decide +kernel
theorem dX12_order_681 : decode cX12_order 681 = .ok (.iload 13, 2) := by decide +kernel
theorem dX12_order_683 : decode cX12_order 683 = .ok (.invokevirtual 330, 3) := by decide +kernel
theorem dX12_order_686 : decode cX12_order 686 = .ok (.aload_n 0, 1) := by decide +kernel
theorem dX12_order_687 : decode cX12_order 687 = .ok (.iload 13, 2) := by decide +kernel
theorem dX12_order_689 : decode cX12_order 689 = .ok (.i2l, 1) := by decide +kernel
theorem dX12_order_690 : decode cX12_order 690 = .ok (.invokevirtual 333, 3) := by decide +kernel
theorem dX12_order_693 : decode cX12_order 693 = .ok (.iload 12, 2) := by decide +kernel
theorem dX12_order_695 : decode cX12_order 695 = .ok (.ifCond .ne 14, 3) := by decide +kernel
theorem dX12_order_698 : decode cX12_order 698 = .ok (.aload_n 0, 1) := by decide +kernel
theorem dX12_order_699 : decode cX12_order 699 = .ok (.getfield 81, 3) := by decide +kernel
theorem dX12_order_702 : decode cX12_order 702 = .ok (.iload 13, 2) := by decide +kernel
theorem dX12_order_704 : decode cX12_order 704 = .ok (.iconst 4, 1) := by decide +kernel
theorem dX12_order_705 : decode cX12_order 705 = .ok (.idiv, 1) := by decide +kernel
theorem dX12_order_706 : decode cX12_order 706 = .ok (.iload 6, 2) := by decide +kernel
theorem dX12_order_708 : decode cX12_order 708 = .ok (.iastore, 1) := by decide +kernel
theorem dX12_order_709 : decode cX12_order 709 = .ok (.iload 14, 2) := by decide +kernel
theorem dX12_order_711 : decode cX12_order 711 = .ok (.bipush 32, 2) := by decide +kernel
theorem dX12_order_713 : decode cX12_order 713 = .ok (.if_icmp .ne 17, 3) := by decide +kernel
theorem dX12_order_716 : decode cX12_order 716 = .ok (.aload_n 0, 1) := by decide +kernel
theorem dX12_order_717 : decode cX12_order 717 = .ok (.iload 5, 2) := by decide +kernel
theorem dX12_order_719 : decode cX12_order 719 = .ok (.i2l, 1) := by decide +kernel
theorem dX12_order_720 : decode cX12_order 720 = .ok (.invokevirtual 333, 3) := by decide +kernel
theorem dX12_order_723 : decode cX12_order 723 = .ok (.aload_n 0, 1) := by decide +kernel
theorem dX12_order_724 : decode cX12_order 724 = .ok (.iload 6, 2) := by decide +kernel
theorem dX12_order_726 : decode cX12_order 726 = .ok (.i2l, 1) := by decide +kernel
theorem dX12_order_727 : decode cX12_order 727 = .ok (.invokevirtual 333, 3) := by decide +kernel
theorem dX12_order_730 : decode cX12_order 730 = .ok (.aload_n 0, 1) := by decide +kernel
theorem dX12_order_731 : decode cX12_order 731 = .ok (.dup, 1) := by decide +kernel
theorem dX12_order_732 : decode cX12_order 732 = .ok (.getfield 307, 3) := by decide +kernel
theorem dX12_order_735 : decode cX12_order 735 = .ok (.iconst 1, 1) := by decide +kernel
theorem dX12_order_736 : decode cX12_order 736 = .ok (.iload 14, 2) := by decide +kernel
theorem dX12_order_738 : decode cX12_order 738 = .ok (.iadd, 1) := by decide +kernel
theorem dX12_order_739 : decode cX12_order 739 = .ok (.iload 10, 2) := by decide +kernel
theorem dX12_order_741 : decode cX12_order 741 = .ok (.ifCond .eq 7, 3) := by decide +kernel
theorem dX12_order_744 : decode cX12_order 744 = .ok (.iconst 1, 1) := by decide +kernel
theorem dX12_order_745 : decode cX12_order 745 = .ok (.goto 4, 3) := by decide +kernel
theorem dX12_order_748 : decode cX12_order 748 = .ok (.iconst 0, 1) := by decide +kernel
theorem dX12_order_749 : decode cX12_order 749 = .ok (.iadd, 1) := by decide +kernel
theorem dX12_order_750 : decode cX12_order 750 = .ok (.iadd, 1) := by decide +kernel
theorem dX12_order_751 : decode cX12_order 751 = .ok (.putfield 307, 3) := by decide +kernel
theorem dX12_order_754 : decode cX12_order 754 = .ok (.iload 12, 2) := by decide +kernel
theorem dX12_order_756 : decode cX12_order 756 = .ok (.ifCond .eq 10, 3) := by decide +kernel
theorem dX12_order_759 : decode cX12_order 759 = .ok (.aload_n 0, 1) := by decide +kernel
theorem dX12_order_760 : decode cX12_order 760 = .ok (.iload_n 3, 1) := by decide +kernel
theorem dX12_order_761 : decode cX12_order 761 = .ok (.iload 11, 2) := by decide +kernel
theorem dX12_order_763 : decode cX12_order 763 = .ok (.invokevirtual 337, 3) := by decide +kernel
theorem dX12_order_766 : decode cX12_order 766 = .ok (.aload_n 0, 1) := by decide +kernel
theorem dX12_order_767 : decode cX12_order 767 = .ok (.iload 9, 2) := by decide +kernel
theorem dX12_order_769 : decode cX12_order 769 = .ok (.putfield 301, 3) := by decide +kernel
theorem dX12_order_772 : decode cX12_order 772 = .ok (.aload_n 0, 1) := by decide +kernel
theorem dX12_order_773 : decode cX12_order 773 = .ok (.dup, 1) := by decide +kernel
theorem dX12_order_774 : decode cX12_order 774 = .ok (.getfield 304, 3) := by decide +kernel
theorem dX12_order_777 : decode cX12_order 777 = .ok (.iconst 1, 1) := by decide +kernel
theorem dX12_order_778 : decode cX12_order 778 = .ok (.iadd, 1) := by decide +kernel
theorem dX12_order_779 : decode cX12_order 779 = .ok (.putfield 304, 3) := by decide +kernel
theorem dX12_order_782 : decode cX12_order 782 = .ok (.iconst 0, 1) := by decide +kernel
theorem dX12_order_783 : decode cX12_order 783 = .ok (.ireturn, 1) := by decide +kernel
theorem dX12_go_0 : decode cX12_go 0 = .ok (.iload_n 1, 1) := by decide +kernel
theorem dX12_go_1 : decode cX12_go 1 = .ok (.ifCond .lt 10, 3) := by decide +kernel
theorem dX12_go_4 : decode cX12_go 4 = .ok (.iload_n 1, 1) := by decide +kernel
theorem dX12_go_5 : decode cX12_go 5 = .ok (.sipush 2000, 3) := by decide +kernel
theorem dX12_go_8 : decode cX12_go 8 = .ok (.if_icmp .le 5, 3) := by decide +kernel
theorem dX12_go_11 : decode cX12_go 11 = .ok (.iconst (-1), 1) := by decide +kernel
theorem dX12_go_12 : decode cX12_go 12 = .ok (.ireturn, 1) := by decide +kernel
theorem dX12_go_13 : decode cX12_go 13 = .ok (.iconst 0, 1) := by decide +kernel
theorem dX12_go_14 : decode cX12_go 14 = .ok (.istore_n 2, 1) := by decide +kernel
theorem dX12_go_15 : decode cX12_go 15 = .ok (.iconst 0, 1) := by decide +kernel
theorem dX12_go_16 : decode cX12_go 16 = .ok (.istore_n 3, 1) := by decide +kernel
theorem dX12_go_17 : decode cX12_go 17 = .ok (.iload_n 3, 1) := by decide +kernel
theorem dX12_go_18 : decode cX12_go 18 = .ok (.iload_n 1, 1) := by decide +kernel
theorem dX12_go_19 : decode cX12_go 19 = .ok (.if_icmp .ge 18, 3) := by decide +kernel
theorem dX12_go_22 : decode cX12_go 22 = .ok (.iload_n 2, 1) := by decide +kernel
theorem dX12_go_23 : decode cX12_go 23 = .ok (.ifCond .ne 14, 3) := by decide +kernel
theorem dX12_go_26 : decode cX12_go 26 = .ok (.aload_n 0, 1) := by decide +kernel
theorem dX12_go_27 : decode cX12_go 27 = .ok (.invokevirtual 340, 3) := by decide +kernel
theorem dX12_go_30 : decode cX12_go 30 = .ok (.istore_n 2, 1) := by decide +kernel
theorem dX12_go_31 : decode cX12_go 31 = .ok (.iinc 3 1, 3) := by decide +kernel
theorem dX12_go_34 : decode cX12_go 34 = .ok (.goto (-17), 3) := by decide +kernel
theorem dX12_go_37 : decode cX12_go 37 = .ok (.iload_n 2, 1) := by decide +kernel
theorem dX12_go_38 : decode cX12_go 38 = .ok (.ireturn, 1) := by decide +kernel
theorem dX12_state_0 : decode cX12_state 0 = .ok (.iload_n 1, 1) := by decide +kernel
theorem dX12_state_1 : decode cX12_state 1 = .ok (.ifCond .ne 10, 3) := by decide +kernel
theorem dX12_state_4 : decode cX12_state 4 = .ok (.aload_n 0, 1) := by decide +kernel
theorem dX12_state_5 : decode cX12_state 5 = .ok (.getfield 301, 3) := by decide +kernel
theorem dX12_state_8 : decode cX12_state 8 = .ok (.goto 40, 3) := by decide +kernel
theorem dX12_state_11 : decode cX12_state 11 = .ok (.iload_n 1, 1) := by decide +kernel
theorem dX12_state_12 : decode cX12_state 12 = .ok (.iconst 1, 1) := by decide +kernel
theorem dX12_state_13 : decode cX12_state 13 = .ok (.if_icmp .ne 10, 3) := by decide +kernel
theorem dX12_state_16 : decode cX12_state 16 = .ok (.aload_n 0, 1) := by decide +kernel
theorem dX12_state_17 : decode cX12_state 17 = .ok (.getfield 304, 3) := by decide +kernel
theorem dX12_state_20 : decode cX12_state 20 = .ok (.goto 28, 3) := by decide +kernel
theorem dX12_state_23 : decode cX12_state 23 = .ok (.iload_n 1, 1) := by decide +kernel
theorem dX12_state_24 : decode cX12_state 24 = .ok (.iconst 2, 1) := by decide +kernel
theorem dX12_state_25 : decode cX12_state 25 = .ok (.if_icmp .ne 10, 3) := by decide +kernel
theorem dX12_state_28 : decode cX12_state 28 = .ok (.aload_n 0, 1) := by decide +kernel
theorem dX12_state_29 : decode cX12_state 29 = .ok (.getfield 307, 3) := by decide +kernel
theorem dX12_state_32 : decode cX12_state 32 = .ok (.goto 16, 3) := by decide +kernel
theorem dX12_state_35 : decode cX12_state 35 = .ok (.iload_n 1, 1) := by decide +kernel
theorem dX12_state_36 : decode cX12_state 36 = .ok (.iconst 3, 1) := by decide +kernel
theorem dX12_state_37 : decode cX12_state 37 = .ok (.if_icmp .ne 10, 3) := by decide +kernel
theorem dX12_state_40 : decode cX12_state 40 = .ok (.aload_n 0, 1) := by decide +kernel
theorem dX12_state_41 : decode cX12_state 41 = .ok (.getfield 310, 3) := by decide +kernel
theorem dX12_state_44 : decode cX12_state 44 = .ok (.goto 4, 3) := by decide +kernel
theorem dX12_state_47 : decode cX12_state 47 = .ok (.iconst (-1), 1) := by decide +kernel
theorem dX12_state_48 : decode cX12_state 48 = .ok (.ireturn, 1) := by decide +kernel
theorem dX12_trail_0 : decode cX12_trail 0 = .ok (.aload_n 0, 1) := by decide +kernel
theorem dX12_trail_1 : decode cX12_trail 1 = .ok (.getfield 313, 3) := by decide +kernel
theorem dX12_trail_4 : decode cX12_trail 4 = .ok (.lreturn, 1) := by decide +kernel
abbrev MX12_access : aw_M := (yX12_access, cX12_access, 4, none)
theorem codX12_access : Cond.code yX12_access cX12_access 4 none ∈ aw_T := aw_in 1828 (by decide +kernel) rfl
theorem iniX12 : Cond.initialized RX12 ∈ aw_T := aw_in 124 (by decide +kernel) rfl
theorem insX12_access : Cond.instanceMethod yX12_access ∈ aw_T := aw_in 1827 (by decide +kernel) rfl
theorem selX12_access : Cond.selects RX12 yX12_access yX12_access ∈ aw_T := aw_in 109 (by decide +kernel) rfl
abbrev MX12_add : aw_M := (yX12_add, cX12_add, 4, none)
theorem codX12_add : Cond.code yX12_add cX12_add 4 none ∈ aw_T := aw_in 1649 (by decide +kernel) rfl
theorem insX12_add : Cond.instanceMethod yX12_add ∈ aw_T := aw_in 1648 (by decide +kernel) rfl
theorem selX12_add : Cond.selects RX12 yX12_add yX12_add ∈ aw_T := aw_in 82 (by decide +kernel) rfl
abbrev MX12_block : aw_M := (yX12_block, cX12_block, 3, (some .int))
theorem codX12_block : Cond.code yX12_block cX12_block 3 (some .int) ∈ aw_T := aw_in 1676 (by decide +kernel) rfl
theorem insX12_block : Cond.instanceMethod yX12_block ∈ aw_T := aw_in 1675 (by decide +kernel) rfl
theorem selX12_block : Cond.selects RX12 yX12_block yX12_block ∈ aw_T := aw_in 88 (by decide +kernel) rfl
abbrev MX12_byteAt : aw_M := (yX12_byteAt, cX12_byteAt, 2, (some .int))
theorem codX12_byteAt : Cond.code yX12_byteAt cX12_byteAt 2 (some .int) ∈ aw_T := aw_in 1605 (by decide +kernel) rfl
theorem insX12_byteAt : Cond.instanceMethod yX12_byteAt ∈ aw_T := aw_in 1604 (by decide +kernel) rfl
theorem selX12_byteAt : Cond.selects RX12 yX12_byteAt yX12_byteAt ∈ aw_T := aw_in 76 (by decide +kernel) rfl
abbrev MX12_check : aw_M := (yX12_check, cX12_check, 4, none)
theorem codX12_check : Cond.code yX12_check cX12_check 4 none ∈ aw_T := aw_in 1708 (by decide +kernel) rfl
theorem insX12_check : Cond.instanceMethod yX12_check ∈ aw_T := aw_in 1707 (by decide +kernel) rfl
theorem selX12_check : Cond.selects RX12 yX12_check yX12_check ∈ aw_T := aw_in 96 (by decide +kernel) rfl
abbrev MX12_checkAll : aw_M := (yX12_checkAll, cX12_checkAll, 4, none)
theorem codX12_checkAll : Cond.code yX12_checkAll cX12_checkAll 4 none ∈ aw_T := aw_in 1680 (by decide +kernel) rfl
theorem insX12_checkAll : Cond.instanceMethod yX12_checkAll ∈ aw_T := aw_in 1679 (by decide +kernel) rfl
theorem selX12_checkAll : Cond.selects RX12 yX12_checkAll yX12_checkAll ∈ aw_T := aw_in 89 (by decide +kernel) rfl
abbrev MX12_checkOne : aw_M := (yX12_checkOne, cX12_checkOne, 8, none)
theorem codX12_checkOne : Cond.code yX12_checkOne cX12_checkOne 8 none ∈ aw_T := aw_in 1700 (by decide +kernel) rfl
theorem insX12_checkOne : Cond.instanceMethod yX12_checkOne ∈ aw_T := aw_in 1699 (by decide +kernel) rfl
theorem selX12_checkOne : Cond.selects RX12 yX12_checkOne yX12_checkOne ∈ aw_T := aw_in 94 (by decide +kernel) rfl
abbrev MX12_checkPart : aw_M := (yX12_checkPart, cX12_checkPart, 5, none)
theorem codX12_checkPart : Cond.code yX12_checkPart cX12_checkPart 5 none ∈ aw_T := aw_in 1716 (by decide +kernel) rfl
theorem insX12_checkPart : Cond.instanceMethod yX12_checkPart ∈ aw_T := aw_in 1715 (by decide +kernel) rfl
theorem selX12_checkPart : Cond.selects RX12 yX12_checkPart yX12_checkPart ∈ aw_T := aw_in 98 (by decide +kernel) rfl
abbrev MX12_count : aw_M := (yX12_count, cX12_count, 2, (some .int))
theorem codX12_count : Cond.code yX12_count cX12_count 2 (some .int) ∈ aw_T := aw_in 1724 (by decide +kernel) rfl
theorem insX12_count : Cond.instanceMethod yX12_count ∈ aw_T := aw_in 1722 (by decide +kernel) rfl
theorem selX12_count : Cond.selects RX12 yX12_count yX12_count ∈ aw_T := aw_in 1723 (by decide +kernel) rfl
abbrev MX12_cut : aw_M := (yX12_cut, cX12_cut, 4, none)
theorem codX12_cut : Cond.code yX12_cut cX12_cut 4 none ∈ aw_T := aw_in 1601 (by decide +kernel) rfl
theorem insX12_cut : Cond.instanceMethod yX12_cut ∈ aw_T := aw_in 1600 (by decide +kernel) rfl
theorem selX12_cut : Cond.selects RX12 yX12_cut yX12_cut ∈ aw_T := aw_in 75 (by decide +kernel) rfl
abbrev MX12_declare : aw_M := (yX12_declare, cX12_declare, 7, none)
theorem codX12_declare : Cond.code yX12_declare cX12_declare 7 none ∈ aw_T := aw_in 1684 (by decide +kernel) rfl
theorem insX12_declare : Cond.instanceMethod yX12_declare ∈ aw_T := aw_in 1683 (by decide +kernel) rfl
theorem selX12_declare : Cond.selects RX12 yX12_declare yX12_declare ∈ aw_T := aw_in 90 (by decide +kernel) rfl
abbrev MX12_eval : aw_M := (yX12_eval, cX12_eval, 5, (some .int))
theorem codX12_eval : Cond.code yX12_eval cX12_eval 5 (some .int) ∈ aw_T := aw_in 1752 (by decide +kernel) rfl
theorem insX12_eval : Cond.instanceMethod yX12_eval ∈ aw_T := aw_in 1751 (by decide +kernel) rfl
theorem selX12_eval : Cond.selects RX12 yX12_eval yX12_eval ∈ aw_T := aw_in 103 (by decide +kernel) rfl
abbrev MX12_evalPart : aw_M := (yX12_evalPart, cX12_evalPart, 4, (some .int))
theorem codX12_evalPart : Cond.code yX12_evalPart cX12_evalPart 4 (some .int) ∈ aw_T := aw_in 1756 (by decide +kernel) rfl
theorem insX12_evalPart : Cond.instanceMethod yX12_evalPart ∈ aw_T := aw_in 1755 (by decide +kernel) rfl
theorem selX12_evalPart : Cond.selects RX12 yX12_evalPart yX12_evalPart ∈ aw_T := aw_in 104 (by decide +kernel) rfl
abbrev MX12_event : aw_M := (yX12_event, cX12_event, 3, none)
theorem codX12_event : Cond.code yX12_event cX12_event 3 none ∈ aw_T := aw_in 1832 (by decide +kernel) rfl
theorem insX12_event : Cond.instanceMethod yX12_event ∈ aw_T := aw_in 1831 (by decide +kernel) rfl
theorem selX12_event : Cond.selects RX12 yX12_event yX12_event ∈ aw_T := aw_in 110 (by decide +kernel) rfl
abbrev MX12_expr : aw_M := (yX12_expr, cX12_expr, 2, (some .int))
theorem codX12_expr : Cond.code yX12_expr cX12_expr 2 (some .int) ∈ aw_T := aw_in 1661 (by decide +kernel) rfl
theorem insX12_expr : Cond.instanceMethod yX12_expr ∈ aw_T := aw_in 1660 (by decide +kernel) rfl
theorem selX12_expr : Cond.selects RX12 yX12_expr yX12_expr ∈ aw_T := aw_in 85 (by decide +kernel) rfl
abbrev MX12_feed : aw_M := (yX12_feed, cX12_feed, 8, (some .int))
theorem codX12_feed : Cond.code yX12_feed cX12_feed 8 (some .int) ∈ aw_T := aw_in 1593 (by decide +kernel) rfl
theorem insX12_feed : Cond.instanceMethod yX12_feed ∈ aw_T := aw_in 1591 (by decide +kernel) rfl
theorem selX12_feed : Cond.selects RX12 yX12_feed yX12_feed ∈ aw_T := aw_in 1592 (by decide +kernel) rfl
abbrev MX12_find : aw_M := (yX12_find, cX12_find, 5, (some .int))
theorem codX12_find : Cond.code yX12_find cX12_find 5 (some .int) ∈ aw_T := aw_in 1688 (by decide +kernel) rfl
theorem insX12_find : Cond.instanceMethod yX12_find ∈ aw_T := aw_in 1687 (by decide +kernel) rfl
theorem selX12_find : Cond.selects RX12 yX12_find yX12_find ∈ aw_T := aw_in 91 (by decide +kernel) rfl
abbrev MX12_get : aw_M := (yX12_get, cX12_get, 2, (some .int))
theorem codX12_get : Cond.code yX12_get cX12_get 2 (some .int) ∈ aw_T := aw_in 1803 (by decide +kernel) rfl
theorem insX12_get : Cond.instanceMethod yX12_get ∈ aw_T := aw_in 1801 (by decide +kernel) rfl
theorem selX12_get : Cond.selects RX12 yX12_get yX12_get ∈ aw_T := aw_in 1802 (by decide +kernel) rfl
abbrev MX12_go : aw_M := (yX12_go, cX12_go, 4, (some .int))
theorem codX12_go : Cond.code yX12_go cX12_go 4 (some .int) ∈ aw_T := aw_in 1811 (by decide +kernel) rfl
theorem insX12_go : Cond.instanceMethod yX12_go ∈ aw_T := aw_in 1809 (by decide +kernel) rfl
theorem selX12_go : Cond.selects RX12 yX12_go yX12_go ∈ aw_T := aw_in 1810 (by decide +kernel) rfl
abbrev MX12_input : aw_M := (yX12_input, cX12_input, 3, (some .boolean))
theorem codX12_input : Cond.code yX12_input cX12_input 3 (some .boolean) ∈ aw_T := aw_in 1728 (by decide +kernel) rfl
theorem insX12_input : Cond.instanceMethod yX12_input ∈ aw_T := aw_in 1726 (by decide +kernel) rfl
theorem selX12_input : Cond.selects RX12 yX12_input yX12_input ∈ aw_T := aw_in 1727 (by decide +kernel) rfl
abbrev MX12_is : aw_M := (yX12_is, cX12_is, 6, (some .boolean))
theorem codX12_is : Cond.code yX12_is cX12_is 6 (some .boolean) ∈ aw_T := aw_in 1624 (by decide +kernel) rfl
theorem insX12_is : Cond.instanceMethod yX12_is ∈ aw_T := aw_in 1623 (by decide +kernel) rfl
theorem selX12_is : Cond.selects RX12 yX12_is yX12_is ∈ aw_T := aw_in 79 (by decide +kernel) rfl
abbrev MX12_isDigit : aw_M := (yX12_isDigit, cX12_isDigit, 1, (some .boolean))
theorem codX12_isDigit : Cond.code yX12_isDigit cX12_isDigit 1 (some .boolean) ∈ aw_T := aw_in 1615 (by decide +kernel) rfl
theorem sttX12_isDigit : Cond.static yX12_isDigit ∈ aw_T := aw_in 1614 (by decide +kernel) rfl
abbrev MX12_isLetter : aw_M := (yX12_isLetter, cX12_isLetter, 1, (some .boolean))
theorem codX12_isLetter : Cond.code yX12_isLetter cX12_isLetter 1 (some .boolean) ∈ aw_T := aw_in 1612 (by decide +kernel) rfl
theorem sttX12_isLetter : Cond.static yX12_isLetter ∈ aw_T := aw_in 1611 (by decide +kernel) rfl
abbrev MX12_isPlace : aw_M := (yX12_isPlace, cX12_isPlace, 1, (some .boolean))
theorem codX12_isPlace : Cond.code yX12_isPlace cX12_isPlace 1 (some .boolean) ∈ aw_T := aw_in 1791 (by decide +kernel) rfl
theorem sttX12_isPlace : Cond.static yX12_isPlace ∈ aw_T := aw_in 1790 (by decide +kernel) rfl
abbrev MX12_leftmost : aw_M := (yX12_leftmost, cX12_leftmost, 3, (some .int))
theorem codX12_leftmost : Cond.code yX12_leftmost cX12_leftmost 3 (some .int) ∈ aw_T := aw_in 1712 (by decide +kernel) rfl
theorem insX12_leftmost : Cond.instanceMethod yX12_leftmost ∈ aw_T := aw_in 1711 (by decide +kernel) rfl
theorem selX12_leftmost : Cond.selects RX12 yX12_leftmost yX12_leftmost ∈ aw_T := aw_in 97 (by decide +kernel) rfl
abbrev MX12_level : aw_M := (yX12_level, cX12_level, 5, (some .int))
theorem codX12_level : Cond.code yX12_level cX12_level 5 (some .int) ∈ aw_T := aw_in 1665 (by decide +kernel) rfl
theorem insX12_level : Cond.instanceMethod yX12_level ∈ aw_T := aw_in 1664 (by decide +kernel) rfl
theorem selX12_level : Cond.selects RX12 yX12_level yX12_level ∈ aw_T := aw_in 86 (by decide +kernel) rfl
abbrev MX12_load : aw_M := (yX12_load, cX12_load, 3, (some .int))
theorem codX12_load : Cond.code yX12_load cX12_load 3 (some .int) ∈ aw_T := aw_in 1597 (by decide +kernel) rfl
theorem insX12_load : Cond.instanceMethod yX12_load ∈ aw_T := aw_in 1595 (by decide +kernel) rfl
theorem selX12_load : Cond.selects RX12 yX12_load yX12_load ∈ aw_T := aw_in 1596 (by decide +kernel) rfl
abbrev MX12_multiply : aw_M := (yX12_multiply, cX12_multiply, 7, (some .int))
theorem codX12_multiply : Cond.code yX12_multiply cX12_multiply 7 (some .int) ∈ aw_T := aw_in 1823 (by decide +kernel) rfl
theorem sttX12_multiply : Cond.static yX12_multiply ∈ aw_T := aw_in 1822 (by decide +kernel) rfl
abbrev MX12_name : aw_M := (yX12_name, cX12_name, 3, (some .int))
theorem codX12_name : Cond.code yX12_name cX12_name 3 (some .int) ∈ aw_T := aw_in 1704 (by decide +kernel) rfl
theorem insX12_name : Cond.instanceMethod yX12_name ∈ aw_T := aw_in 1703 (by decide +kernel) rfl
theorem selX12_name : Cond.selects RX12 yX12_name yX12_name ∈ aw_T := aw_in 95 (by decide +kernel) rfl
abbrev MX12_node : aw_M := (yX12_node, cX12_node, 3, (some .int))
theorem codX12_node : Cond.code yX12_node cX12_node 3 (some .int) ∈ aw_T := aw_in 1645 (by decide +kernel) rfl
theorem insX12_node : Cond.instanceMethod yX12_node ∈ aw_T := aw_in 1644 (by decide +kernel) rfl
theorem selX12_node : Cond.selects RX12 yX12_node yX12_node ∈ aw_T := aw_in 81 (by decide +kernel) rfl
abbrev MX12_number : aw_M := (yX12_number, cX12_number, 5, (some .int))
theorem codX12_number : Cond.code yX12_number cX12_number 5 (some .int) ∈ aw_T := aw_in 1696 (by decide +kernel) rfl
theorem insX12_number : Cond.instanceMethod yX12_number ∈ aw_T := aw_in 1695 (by decide +kernel) rfl
theorem selX12_number : Cond.selects RX12 yX12_number yX12_number ∈ aw_T := aw_in 93 (by decide +kernel) rfl
abbrev MX12_order : aw_M := (yX12_order, cX12_order, 18, (some .int))
set_option maxRecDepth 20000 in
theorem codX12_order : Cond.code yX12_order cX12_order 18 (some .int) ∈ aw_T := aw_in 1815 rfl rfl
theorem insX12_order : Cond.instanceMethod yX12_order ∈ aw_T := aw_in 1814 (by decide +kernel) rfl
theorem selX12_order : Cond.selects RX12 yX12_order yX12_order ∈ aw_T := aw_in 108 (by decide +kernel) rfl
abbrev MX12_out : aw_M := (yX12_out, cX12_out, 2, (some .int))
theorem codX12_out : Cond.code yX12_out cX12_out 2 (some .int) ∈ aw_T := aw_in 1776 (by decide +kernel) rfl
theorem insX12_out : Cond.instanceMethod yX12_out ∈ aw_T := aw_in 1774 (by decide +kernel) rfl
theorem selX12_out : Cond.selects RX12 yX12_out yX12_out ∈ aw_T := aw_in 1775 (by decide +kernel) rfl
abbrev MX12_peek : aw_M := (yX12_peek, cX12_peek, 2, (some .int))
theorem codX12_peek : Cond.code yX12_peek cX12_peek 2 (some .int) ∈ aw_T := aw_in 1795 (by decide +kernel) rfl
theorem insX12_peek : Cond.instanceMethod yX12_peek ∈ aw_T := aw_in 1793 (by decide +kernel) rfl
theorem selX12_peek : Cond.selects RX12 yX12_peek yX12_peek ∈ aw_T := aw_in 1794 (by decide +kernel) rfl
abbrev MX12_poke : aw_M := (yX12_poke, cX12_poke, 3, (some .boolean))
theorem codX12_poke : Cond.code yX12_poke cX12_poke 3 (some .boolean) ∈ aw_T := aw_in 1788 (by decide +kernel) rfl
theorem insX12_poke : Cond.instanceMethod yX12_poke ∈ aw_T := aw_in 1786 (by decide +kernel) rfl
theorem selX12_poke : Cond.selects RX12 yX12_poke yX12_poke ∈ aw_T := aw_in 1787 (by decide +kernel) rfl
abbrev MX12_program : aw_M := (yX12_program, cX12_program, 4, (some .int))
theorem codX12_program : Cond.code yX12_program cX12_program 4 (some .int) ∈ aw_T := aw_in 1641 (by decide +kernel) rfl
theorem insX12_program : Cond.instanceMethod yX12_program ∈ aw_T := aw_in 1640 (by decide +kernel) rfl
theorem selX12_program : Cond.selects RX12 yX12_program yX12_program ∈ aw_T := aw_in 80 (by decide +kernel) rfl
abbrev MX12_quiet : aw_M := (yX12_quiet, cX12_quiet, 1, (some .boolean))
theorem codX12_quiet : Cond.code yX12_quiet cX12_quiet 1 (some .boolean) ∈ aw_T := aw_in 1784 (by decide +kernel) rfl
theorem insX12_quiet : Cond.instanceMethod yX12_quiet ∈ aw_T := aw_in 1782 (by decide +kernel) rfl
theorem selX12_quiet : Cond.selects RX12 yX12_quiet yX12_quiet ∈ aw_T := aw_in 1783 (by decide +kernel) rfl
abbrev MX12_quotient : aw_M := (yX12_quotient, cX12_quotient, 3, (some .int))
theorem codX12_quotient : Cond.code yX12_quotient cX12_quotient 3 (some .int) ∈ aw_T := aw_in 1764 (by decide +kernel) rfl
theorem insX12_quotient : Cond.instanceMethod yX12_quotient ∈ aw_T := aw_in 1763 (by decide +kernel) rfl
theorem selX12_quotient : Cond.selects RX12 yX12_quotient yX12_quotient ∈ aw_T := aw_in 106 (by decide +kernel) rfl
abbrev MX12_ran : aw_M := (yX12_ran, cX12_ran, 2, (some .int))
theorem codX12_ran : Cond.code yX12_ran cX12_ran 2 (some .int) ∈ aw_T := aw_in 1772 (by decide +kernel) rfl
theorem insX12_ran : Cond.instanceMethod yX12_ran ∈ aw_T := aw_in 1770 (by decide +kernel) rfl
theorem selX12_ran : Cond.selects RX12 yX12_ran yX12_ran ∈ aw_T := aw_in 1771 (by decide +kernel) rfl
abbrev MX12_rank : aw_M := (yX12_rank, cX12_rank, 1, (some .int))
theorem codX12_rank : Cond.code yX12_rank cX12_rank 1 (some .int) ∈ aw_T := aw_in 1672 (by decide +kernel) rfl
theorem sttX12_rank : Cond.static yX12_rank ∈ aw_T := aw_in 1671 (by decide +kernel) rfl
abbrev MX12_reckon : aw_M := (yX12_reckon, cX12_reckon, 4, (some .int))
theorem codX12_reckon : Cond.code yX12_reckon cX12_reckon 4 (some .int) ∈ aw_T := aw_in 1820 (by decide +kernel) rfl
theorem sttX12_reckon : Cond.static yX12_reckon ∈ aw_T := aw_in 1819 (by decide +kernel) rfl
abbrev MX12_rest : aw_M := (yX12_rest, cX12_rest, 3, (some .int))
theorem codX12_rest : Cond.code yX12_rest cX12_rest 3 (some .int) ∈ aw_T := aw_in 1768 (by decide +kernel) rfl
theorem insX12_rest : Cond.instanceMethod yX12_rest ∈ aw_T := aw_in 1767 (by decide +kernel) rfl
theorem selX12_rest : Cond.selects RX12 yX12_rest yX12_rest ∈ aw_T := aw_in 107 (by decide +kernel) rfl
abbrev MX12_run : aw_M := (yX12_run, cX12_run, 3, (some .int))
theorem codX12_run : Cond.code yX12_run cX12_run 3 (some .int) ∈ aw_T := aw_in 1732 (by decide +kernel) rfl
theorem insX12_run : Cond.instanceMethod yX12_run ∈ aw_T := aw_in 1730 (by decide +kernel) rfl
theorem selX12_run : Cond.selects RX12 yX12_run yX12_run ∈ aw_T := aw_in 1731 (by decide +kernel) rfl
abbrev MX12_runAll : aw_M := (yX12_runAll, cX12_runAll, 4, none)
theorem codX12_runAll : Cond.code yX12_runAll cX12_runAll 4 none ∈ aw_T := aw_in 1736 (by decide +kernel) rfl
theorem insX12_runAll : Cond.instanceMethod yX12_runAll ∈ aw_T := aw_in 1735 (by decide +kernel) rfl
theorem selX12_runAll : Cond.selects RX12 yX12_runAll yX12_runAll ∈ aw_T := aw_in 99 (by decide +kernel) rfl
abbrev MX12_runOne : aw_M := (yX12_runOne, cX12_runOne, 10, none)
theorem codX12_runOne : Cond.code yX12_runOne cX12_runOne 10 none ∈ aw_T := aw_in 1748 (by decide +kernel) rfl
theorem insX12_runOne : Cond.instanceMethod yX12_runOne ∈ aw_T := aw_in 1747 (by decide +kernel) rfl
theorem selX12_runOne : Cond.selects RX12 yX12_runOne yX12_runOne ∈ aw_T := aw_in 102 (by decide +kernel) rfl
abbrev MX12_set : aw_M := (yX12_set, cX12_set, 3, (some .boolean))
theorem codX12_set : Cond.code yX12_set cX12_set 3 (some .boolean) ∈ aw_T := aw_in 1799 (by decide +kernel) rfl
theorem insX12_set : Cond.instanceMethod yX12_set ∈ aw_T := aw_in 1797 (by decide +kernel) rfl
theorem selX12_set : Cond.selects RX12 yX12_set yX12_set ∈ aw_T := aw_in 1798 (by decide +kernel) rfl
abbrev MX12_start : aw_M := (yX12_start, cX12_start, 3, (some .boolean))
theorem codX12_start : Cond.code yX12_start cX12_start 3 (some .boolean) ∈ aw_T := aw_in 1807 (by decide +kernel) rfl
theorem insX12_start : Cond.instanceMethod yX12_start ∈ aw_T := aw_in 1805 (by decide +kernel) rfl
theorem selX12_start : Cond.selects RX12 yX12_start yX12_start ∈ aw_T := aw_in 1806 (by decide +kernel) rfl
abbrev MX12_state : aw_M := (yX12_state, cX12_state, 2, (some .int))
theorem codX12_state : Cond.code yX12_state cX12_state 2 (some .int) ∈ aw_T := aw_in 1841 (by decide +kernel) rfl
theorem insX12_state : Cond.instanceMethod yX12_state ∈ aw_T := aw_in 1839 (by decide +kernel) rfl
theorem selX12_state : Cond.selects RX12 yX12_state yX12_state ∈ aw_T := aw_in 1840 (by decide +kernel) rfl
abbrev MX12_statement : aw_M := (yX12_statement, cX12_statement, 4, (some .int))
theorem codX12_statement : Cond.code yX12_statement cX12_statement 4 (some .int) ∈ aw_T := aw_in 1657 (by decide +kernel) rfl
theorem insX12_statement : Cond.instanceMethod yX12_statement ∈ aw_T := aw_in 1656 (by decide +kernel) rfl
theorem selX12_statement : Cond.selects RX12 yX12_statement yX12_statement ∈ aw_T := aw_in 84 (by decide +kernel) rfl
abbrev MX12_step : aw_M := (yX12_step, cX12_step, 3, (some .boolean))
theorem codX12_step : Cond.code yX12_step cX12_step 3 (some .boolean) ∈ aw_T := aw_in 1740 (by decide +kernel) rfl
theorem insX12_step : Cond.instanceMethod yX12_step ∈ aw_T := aw_in 1739 (by decide +kernel) rfl
theorem selX12_step : Cond.selects RX12 yX12_step yX12_step ∈ aw_T := aw_in 100 (by decide +kernel) rfl
abbrev MX12_stop : aw_M := (yX12_stop, cX12_stop, 3, none)
theorem codX12_stop : Cond.code yX12_stop cX12_stop 3 none ∈ aw_T := aw_in 1744 (by decide +kernel) rfl
theorem insX12_stop : Cond.instanceMethod yX12_stop ∈ aw_T := aw_in 1743 (by decide +kernel) rfl
theorem selX12_stop : Cond.selects RX12 yX12_stop yX12_stop ∈ aw_T := aw_in 101 (by decide +kernel) rfl
abbrev MX12_take : aw_M := (yX12_take, cX12_take, 2, (some .int))
theorem codX12_take : Cond.code yX12_take cX12_take 2 (some .int) ∈ aw_T := aw_in 1653 (by decide +kernel) rfl
theorem insX12_take : Cond.instanceMethod yX12_take ∈ aw_T := aw_in 1652 (by decide +kernel) rfl
theorem selX12_take : Cond.selects RX12 yX12_take yX12_take ∈ aw_T := aw_in 83 (by decide +kernel) rfl
abbrev MX12_tokenAt : aw_M := (yX12_tokenAt, cX12_tokenAt, 8, (some .int))
theorem codX12_tokenAt : Cond.code yX12_tokenAt cX12_tokenAt 8 (some .int) ∈ aw_T := aw_in 1609 (by decide +kernel) rfl
theorem insX12_tokenAt : Cond.instanceMethod yX12_tokenAt ∈ aw_T := aw_in 1608 (by decide +kernel) rfl
theorem selX12_tokenAt : Cond.selects RX12 yX12_tokenAt yX12_tokenAt ∈ aw_T := aw_in 77 (by decide +kernel) rfl
abbrev MX12_told : aw_M := (yX12_told, cX12_told, 2, (some .int))
theorem codX12_told : Cond.code yX12_told cX12_told 2 (some .int) ∈ aw_T := aw_in 1720 (by decide +kernel) rfl
theorem insX12_told : Cond.instanceMethod yX12_told ∈ aw_T := aw_in 1718 (by decide +kernel) rfl
theorem selX12_told : Cond.selects RX12 yX12_told yX12_told ∈ aw_T := aw_in 1719 (by decide +kernel) rfl
abbrev MX12_trail : aw_M := (yX12_trail, cX12_trail, 1, (some .long))
theorem codX12_trail : Cond.code yX12_trail cX12_trail 1 (some .long) ∈ aw_T := aw_in 1845 (by decide +kernel) rfl
theorem insX12_trail : Cond.instanceMethod yX12_trail ∈ aw_T := aw_in 1843 (by decide +kernel) rfl
theorem selX12_trail : Cond.selects RX12 yX12_trail yX12_trail ∈ aw_T := aw_in 1844 (by decide +kernel) rfl
abbrev MX12_two : aw_M := (yX12_two, cX12_two, 4, (some .int))
theorem codX12_two : Cond.code yX12_two cX12_two 4 (some .int) ∈ aw_T := aw_in 1760 (by decide +kernel) rfl
theorem insX12_two : Cond.instanceMethod yX12_two ∈ aw_T := aw_in 1759 (by decide +kernel) rfl
theorem selX12_two : Cond.selects RX12 yX12_two yX12_two ∈ aw_T := aw_in 105 (by decide +kernel) rfl
abbrev MX12_unary : aw_M := (yX12_unary, cX12_unary, 4, (some .int))
theorem codX12_unary : Cond.code yX12_unary cX12_unary 4 (some .int) ∈ aw_T := aw_in 1669 (by decide +kernel) rfl
theorem insX12_unary : Cond.instanceMethod yX12_unary ∈ aw_T := aw_in 1668 (by decide +kernel) rfl
theorem selX12_unary : Cond.selects RX12 yX12_unary yX12_unary ∈ aw_T := aw_in 87 (by decide +kernel) rfl
abbrev MX12_word : aw_M := (yX12_word, cX12_word, 2, (some .int))
theorem codX12_word : Cond.code yX12_word cX12_word 2 (some .int) ∈ aw_T := aw_in 1780 (by decide +kernel) rfl
theorem insX12_word : Cond.instanceMethod yX12_word ∈ aw_T := aw_in 1778 (by decide +kernel) rfl
theorem selX12_word : Cond.selects RX12 yX12_word yX12_word ∈ aw_T := aw_in 1779 (by decide +kernel) rfl
abbrev MX12_wordOf : aw_M := (yX12_wordOf, cX12_wordOf, 3, (some .int))
theorem codX12_wordOf : Cond.code yX12_wordOf cX12_wordOf 3 (some .int) ∈ aw_T := aw_in 1619 (by decide +kernel) rfl
theorem insX12_wordOf : Cond.instanceMethod yX12_wordOf ∈ aw_T := aw_in 1618 (by decide +kernel) rfl
theorem selX12_wordOf : Cond.selects RX12 yX12_wordOf yX12_wordOf ∈ aw_T := aw_in 78 (by decide +kernel) rfl
abbrev MX12_write : aw_M := (yX12_write, cX12_write, 3, none)
theorem codX12_write : Cond.code yX12_write cX12_write 3 none ∈ aw_T := aw_in 1837 (by decide +kernel) rfl
theorem insX12_write : Cond.instanceMethod yX12_write ∈ aw_T := aw_in 1836 (by decide +kernel) rfl
theorem selX12_write : Cond.selects RX12 yX12_write yX12_write ∈ aw_T := aw_in 111 (by decide +kernel) rfl
abbrev MX12_wrong : aw_M := (yX12_wrong, cX12_wrong, 3, none)
theorem codX12_wrong : Cond.code yX12_wrong cX12_wrong 3 none ∈ aw_T := aw_in 1692 (by decide +kernel) rfl
theorem insX12_wrong : Cond.instanceMethod yX12_wrong ∈ aw_T := aw_in 1691 (by decide +kernel) rfl
theorem selX12_wrong : Cond.selects RX12 yX12_wrong yX12_wrong ∈ aw_T := aw_in 92 (by decide +kernel) rfl
theorem hX12_w : ∀ w ∈ u_ws RX12 TX12 50, w ∈ aw_T := by
  show ∀ w ∈ [u_lay RX12 TX12 0, u_lay RX12 TX12 1, u_lay RX12 TX12 2, u_lay RX12 TX12 3, u_lay RX12 TX12 4, u_lay RX12 TX12 5, u_lay RX12 TX12 6, u_lay RX12 TX12 7, u_lay RX12 TX12 8, u_lay RX12 TX12 9, u_lay RX12 TX12 10, u_lay RX12 TX12 11, u_lay RX12 TX12 12, u_lay RX12 TX12 13, u_lay RX12 TX12 14, u_lay RX12 TX12 15, u_lay RX12 TX12 16, u_lay RX12 TX12 17, u_lay RX12 TX12 18, u_lay RX12 TX12 19, u_lay RX12 TX12 20, u_lay RX12 TX12 21, u_lay RX12 TX12 22, u_lay RX12 TX12 23, u_lay RX12 TX12 24, u_lay RX12 TX12 25, u_lay RX12 TX12 26, u_lay RX12 TX12 27, u_lay RX12 TX12 28, u_lay RX12 TX12 29, u_lay RX12 TX12 30, u_lay RX12 TX12 31, u_lay RX12 TX12 32, u_lay RX12 TX12 33, u_lay RX12 TX12 34, u_lay RX12 TX12 35, u_lay RX12 TX12 36, u_lay RX12 TX12 37, u_lay RX12 TX12 38, u_lay RX12 TX12 39, u_lay RX12 TX12 40, u_lay RX12 TX12 41, u_lay RX12 TX12 42, u_lay RX12 TX12 43, u_lay RX12 TX12 44, u_lay RX12 TX12 45, u_lay RX12 TX12 46, u_lay RX12 TX12 47, u_lay RX12 TX12 48, u_lay RX12 TX12 49], w ∈ aw_T
  exact List.forall_mem_cons.mpr ⟨aw_in 1489 (by decide +kernel) rfl, List.forall_mem_cons.mpr ⟨aw_in 1491 (by decide +kernel) rfl, List.forall_mem_cons.mpr ⟨aw_in 1493 (by decide +kernel) rfl, List.forall_mem_cons.mpr ⟨aw_in 1495 (by decide +kernel) rfl, List.forall_mem_cons.mpr ⟨aw_in 1497 (by decide +kernel) rfl, List.forall_mem_cons.mpr ⟨aw_in 1499 (by decide +kernel) rfl, List.forall_mem_cons.mpr ⟨aw_in 1501 (by decide +kernel) rfl, List.forall_mem_cons.mpr ⟨aw_in 1503 (by decide +kernel) rfl, List.forall_mem_cons.mpr ⟨aw_in 1505 (by decide +kernel) rfl, List.forall_mem_cons.mpr ⟨aw_in 1507 (by decide +kernel) rfl, List.forall_mem_cons.mpr ⟨aw_in 1509 (by decide +kernel) rfl, List.forall_mem_cons.mpr ⟨aw_in 1511 (by decide +kernel) rfl, List.forall_mem_cons.mpr ⟨aw_in 1513 (by decide +kernel) rfl, List.forall_mem_cons.mpr ⟨aw_in 1515 (by decide +kernel) rfl, List.forall_mem_cons.mpr ⟨aw_in 1517 (by decide +kernel) rfl, List.forall_mem_cons.mpr ⟨aw_in 1519 (by decide +kernel) rfl, List.forall_mem_cons.mpr ⟨aw_in 1521 (by decide +kernel) rfl, List.forall_mem_cons.mpr ⟨aw_in 1523 (by decide +kernel) rfl, List.forall_mem_cons.mpr ⟨aw_in 1525 (by decide +kernel) rfl, List.forall_mem_cons.mpr ⟨aw_in 1527 (by decide +kernel) rfl, List.forall_mem_cons.mpr ⟨aw_in 1529 (by decide +kernel) rfl, List.forall_mem_cons.mpr ⟨aw_in 1531 (by decide +kernel) rfl, List.forall_mem_cons.mpr ⟨aw_in 1533 (by decide +kernel) rfl, List.forall_mem_cons.mpr ⟨aw_in 1535 (by decide +kernel) rfl, List.forall_mem_cons.mpr ⟨aw_in 1537 (by decide +kernel) rfl, List.forall_mem_cons.mpr ⟨aw_in 1539 (by decide +kernel) rfl, List.forall_mem_cons.mpr ⟨aw_in 1541 (by decide +kernel) rfl, List.forall_mem_cons.mpr ⟨aw_in 1543 (by decide +kernel) rfl, List.forall_mem_cons.mpr ⟨aw_in 1545 (by decide +kernel) rfl, List.forall_mem_cons.mpr ⟨aw_in 1547 (by decide +kernel) rfl, List.forall_mem_cons.mpr ⟨aw_in 1549 (by decide +kernel) rfl, List.forall_mem_cons.mpr ⟨aw_in 1551 (by decide +kernel) rfl, List.forall_mem_cons.mpr ⟨aw_in 1553 (by decide +kernel) rfl, List.forall_mem_cons.mpr ⟨aw_in 1555 (by decide +kernel) rfl, List.forall_mem_cons.mpr ⟨aw_in 1557 (by decide +kernel) rfl, List.forall_mem_cons.mpr ⟨aw_in 1559 (by decide +kernel) rfl, List.forall_mem_cons.mpr ⟨aw_in 1561 (by decide +kernel) rfl, List.forall_mem_cons.mpr ⟨aw_in 1563 (by decide +kernel) rfl, List.forall_mem_cons.mpr ⟨aw_in 1565 (by decide +kernel) rfl, List.forall_mem_cons.mpr ⟨aw_in 1567 (by decide +kernel) rfl, List.forall_mem_cons.mpr ⟨aw_in 1569 (by decide +kernel) rfl, List.forall_mem_cons.mpr ⟨aw_in 1571 (by decide +kernel) rfl, List.forall_mem_cons.mpr ⟨aw_in 1573 (by decide +kernel) rfl, List.forall_mem_cons.mpr ⟨aw_in 1575 (by decide +kernel) rfl, List.forall_mem_cons.mpr ⟨aw_in 1577 (by decide +kernel) rfl, List.forall_mem_cons.mpr ⟨aw_in 1579 (by decide +kernel) rfl, List.forall_mem_cons.mpr ⟨aw_in 1581 (by decide +kernel) rfl, List.forall_mem_cons.mpr ⟨aw_in 1583 (by decide +kernel) rfl, List.forall_mem_cons.mpr ⟨aw_in 1585 (by decide +kernel) rfl, List.forall_mem_cons.mpr ⟨aw_in 1587 (by decide +kernel) rfl, fun _ h => absurd h List.not_mem_nil⟩⟩⟩⟩⟩⟩⟩⟩⟩⟩⟩⟩⟩⟩⟩⟩⟩⟩⟩⟩⟩⟩⟩⟩⟩⟩⟩⟩⟩⟩⟩⟩⟩⟩⟩⟩⟩⟩⟩⟩⟩⟩⟩⟩⟩⟩⟩⟩⟩⟩
theorem hX12 : aw_C 12 RX12 TX12 50 tyX12 := ⟨rfl, hX12_w, tyX12_ok, nmX12⟩
theorem fX12_13 : aw_F RX12 13 12 3 (.array .int) true := aw_F.of hX12 3 (by decide) (aw_in 1442 (by decide +kernel) rfl) rfl rfl rfl
theorem fX12_151 : aw_F RX12 151 12 6 .int false := aw_F.of hX12 6 (by decide) (aw_in 1445 (by decide +kernel) rfl) rfl rfl rfl
theorem fX12_154 : aw_F RX12 154 12 7 .boolean false := aw_F.of hX12 7 (by decide) (aw_in 1446 (by decide +kernel) rfl) rfl rfl rfl
theorem fX12_158 : aw_F RX12 158 12 8 .int false := aw_F.of hX12 8 (by decide) (aw_in 1447 (by decide +kernel) rfl) rfl rfl rfl
theorem fX12_16 : aw_F RX12 16 12 4 (.array .int) true := aw_F.of hX12 4 (by decide) (aw_in 1443 (by decide +kernel) rfl) rfl rfl rfl
theorem fX12_189 : aw_F RX12 189 12 31 .int false := aw_F.of hX12 31 (by decide) (aw_in 1470 (by decide +kernel) rfl) rfl rfl rfl
theorem fX12_19 : aw_F RX12 19 12 5 (.array .int) true := aw_F.of hX12 5 (by decide) (aw_in 1444 (by decide +kernel) rfl) rfl rfl rfl
theorem fX12_192 : aw_F RX12 192 12 30 .int false := aw_F.of hX12 30 (by decide) (aw_in 1469 (by decide +kernel) rfl) rfl rfl rfl
theorem fX12_195 : aw_F RX12 195 12 15 .int false := aw_F.of hX12 15 (by decide) (aw_in 1454 (by decide +kernel) rfl) rfl rfl rfl
theorem fX12_207 : aw_F RX12 207 12 21 .int false := aw_F.of hX12 21 (by decide) (aw_in 1460 (by decide +kernel) rfl) rfl rfl rfl
theorem fX12_210 : aw_F RX12 210 12 22 .int false := aw_F.of hX12 22 (by decide) (aw_in 1461 (by decide +kernel) rfl) rfl rfl rfl
theorem fX12_213 : aw_F RX12 213 12 23 .int false := aw_F.of hX12 23 (by decide) (aw_in 1462 (by decide +kernel) rfl) rfl rfl rfl
theorem fX12_22 : aw_F RX12 22 12 9 (.array .int) true := aw_F.of hX12 9 (by decide) (aw_in 1448 (by decide +kernel) rfl) rfl rfl rfl
theorem fX12_239 : aw_F RX12 239 12 27 .boolean false := aw_F.of hX12 27 (by decide) (aw_in 1466 (by decide +kernel) rfl) rfl rfl rfl
theorem fX12_242 : aw_F RX12 242 12 32 .boolean false := aw_F.of hX12 32 (by decide) (aw_in 1471 (by decide +kernel) rfl) rfl rfl rfl
theorem fX12_25 : aw_F RX12 25 12 10 (.array .int) true := aw_F.of hX12 10 (by decide) (aw_in 1449 (by decide +kernel) rfl) rfl rfl rfl
theorem fX12_251 : aw_F RX12 251 12 26 .int false := aw_F.of hX12 26 (by decide) (aw_in 1465 (by decide +kernel) rfl) rfl rfl rfl
theorem fX12_254 : aw_F RX12 254 12 38 .int false := aw_F.of hX12 38 (by decide) (aw_in 1477 (by decide +kernel) rfl) rfl rfl rfl
theorem fX12_257 : aw_F RX12 257 12 39 .int false := aw_F.of hX12 39 (by decide) (aw_in 1478 (by decide +kernel) rfl) rfl rfl rfl
theorem fX12_279 : aw_F RX12 279 12 36 .int false := aw_F.of hX12 36 (by decide) (aw_in 1475 (by decide +kernel) rfl) rfl rfl rfl
theorem fX12_28 : aw_F RX12 28 12 11 (.array .int) true := aw_F.of hX12 11 (by decide) (aw_in 1450 (by decide +kernel) rfl) rfl rfl rfl
theorem fX12_282 : aw_F RX12 282 12 37 .int false := aw_F.of hX12 37 (by decide) (aw_in 1476 (by decide +kernel) rfl) rfl rfl rfl
theorem fX12_292 : aw_F RX12 292 12 35 .int false := aw_F.of hX12 35 (by decide) (aw_in 1474 (by decide +kernel) rfl) rfl rfl rfl
theorem fX12_301 : aw_F RX12 301 12 44 .int false := aw_F.of hX12 44 (by decide) (aw_in 1483 (by decide +kernel) rfl) rfl rfl rfl
theorem fX12_304 : aw_F RX12 304 12 45 .int false := aw_F.of hX12 45 (by decide) (aw_in 1484 (by decide +kernel) rfl) rfl rfl rfl
theorem fX12_307 : aw_F RX12 307 12 46 .int false := aw_F.of hX12 46 (by decide) (aw_in 1485 (by decide +kernel) rfl) rfl rfl rfl
theorem fX12_31 : aw_F RX12 31 12 12 (.array .int) true := aw_F.of hX12 12 (by decide) (aw_in 1451 (by decide +kernel) rfl) rfl rfl rfl
theorem fX12_310 : aw_F RX12 310 12 47 .int false := aw_F.of hX12 47 (by decide) (aw_in 1486 (by decide +kernel) rfl) rfl rfl rfl
theorem fX12_313 : aw_F RX12 313 12 48 .long false := aw_F.of hX12 48 (by decide) (aw_in 1487 (by decide +kernel) rfl) rfl rfl rfl
theorem fX12_34 : aw_F RX12 34 12 13 (.array .boolean) true := aw_F.of hX12 13 (by decide) (aw_in 1452 (by decide +kernel) rfl) rfl rfl rfl
theorem fX12_38 : aw_F RX12 38 12 14 (.array .int) true := aw_F.of hX12 14 (by decide) (aw_in 1453 (by decide +kernel) rfl) rfl rfl rfl
theorem fX12_41 : aw_F RX12 41 12 16 (.array .int) true := aw_F.of hX12 16 (by decide) (aw_in 1455 (by decide +kernel) rfl) rfl rfl rfl
theorem fX12_44 : aw_F RX12 44 12 17 (.array .int) true := aw_F.of hX12 17 (by decide) (aw_in 1456 (by decide +kernel) rfl) rfl rfl rfl
theorem fX12_47 : aw_F RX12 47 12 18 (.array .int) true := aw_F.of hX12 18 (by decide) (aw_in 1457 (by decide +kernel) rfl) rfl rfl rfl
theorem fX12_50 : aw_F RX12 50 12 19 (.array .boolean) true := aw_F.of hX12 19 (by decide) (aw_in 1458 (by decide +kernel) rfl) rfl rfl rfl
theorem fX12_53 : aw_F RX12 53 12 20 (.array .boolean) true := aw_F.of hX12 20 (by decide) (aw_in 1459 (by decide +kernel) rfl) rfl rfl rfl
theorem fX12_56 : aw_F RX12 56 12 24 (.array .int) true := aw_F.of hX12 24 (by decide) (aw_in 1463 (by decide +kernel) rfl) rfl rfl rfl
theorem fX12_59 : aw_F RX12 59 12 25 (.array .int) true := aw_F.of hX12 25 (by decide) (aw_in 1464 (by decide +kernel) rfl) rfl rfl rfl
theorem fX12_62 : aw_F RX12 62 12 28 .int false := aw_F.of hX12 28 (by decide) (aw_in 1467 (by decide +kernel) rfl) rfl rfl rfl
theorem fX12_66 : aw_F RX12 66 12 29 .int false := aw_F.of hX12 29 (by decide) (aw_in 1468 (by decide +kernel) rfl) rfl rfl rfl
theorem fX12_69 : aw_F RX12 69 12 33 (.array .int) true := aw_F.of hX12 33 (by decide) (aw_in 1472 (by decide +kernel) rfl) rfl rfl rfl
theorem fX12_7 : aw_F RX12 7 12 0 (.array .int) true := aw_F.of hX12 0 (by decide) (aw_in 1439 (by decide +kernel) rfl) rfl rfl rfl
theorem fX12_72 : aw_F RX12 72 12 34 (.array .int) true := aw_F.of hX12 34 (by decide) (aw_in 1473 (by decide +kernel) rfl) rfl rfl rfl
theorem fX12_75 : aw_F RX12 75 12 40 (.array .int) true := aw_F.of hX12 40 (by decide) (aw_in 1479 (by decide +kernel) rfl) rfl rfl rfl
theorem fX12_78 : aw_F RX12 78 12 41 (.array .int) true := aw_F.of hX12 41 (by decide) (aw_in 1480 (by decide +kernel) rfl) rfl rfl rfl
theorem fX12_81 : aw_F RX12 81 12 42 (.array .int) true := aw_F.of hX12 42 (by decide) (aw_in 1481 (by decide +kernel) rfl) rfl rfl rfl
theorem fX12_84 : aw_F RX12 84 12 43 (.array .int) true := aw_F.of hX12 43 (by decide) (aw_in 1482 (by decide +kernel) rfl) rfl rfl rfl
theorem fX12_87 : aw_F RX12 87 12 49 (.array .int) true := aw_F.of hX12 49 (by decide) (aw_in 1488 (by decide +kernel) rfl) rfl rfl rfl
theorem fX12_90 : aw_F RX12 90 12 1 .int false := aw_F.of hX12 1 (by decide) (aw_in 1440 (by decide +kernel) rfl) rfl rfl rfl
theorem fX12_93 : aw_F RX12 93 12 2 .int false := aw_F.of hX12 2 (by decide) (aw_in 1441 (by decide +kernel) rfl) rfl rfl rfl
theorem oX12_319 : Cond.constant RX12 319 ((-2147483648) : Int32) ∈ aw_T := aw_in 1817 (by decide +kernel) rfl
theorem oX12_322 : Cond.constant RX12 322 (1044480 : Int32) ∈ aw_T := aw_in 1816 (by decide +kernel) rfl
theorem oX12_138 : Cond.constantLong RX12 138 (3000000000 : Int64) ∈ aw_T := aw_in 1633 (by decide +kernel) rfl
theorem oX12_140 : Cond.constantLong RX12 140 (10 : Int64) ∈ aw_T := aw_in 1634 (by decide +kernel) rfl
theorem oX12_142 : Cond.constantLong RX12 142 (48 : Int64) ∈ aw_T := aw_in 1635 (by decide +kernel) rfl
theorem oX12_144 : Cond.constantLong RX12 144 (2147483647 : Int64) ∈ aw_T := aw_in 1636 (by decide +kernel) rfl
theorem oX12_317 : Cond.constantLong RX12 317 (6364136223846793005 : Int64) ∈ aw_T := aw_in 1833 (by decide +kernel) rfl
theorem oX12_320 : Cond.constantLong RX12 320 (4294967295 : Int64) ∈ aw_T := aw_in 1824 (by decide +kernel) rfl
theorem lX12_101 : aw_L RX12 101 MX12_byteAt 1 := ⟨aw_in 1602 (by decide +kernel) rfl, iniX12, codX12_byteAt, ⟨by decide, by decide, by decide +kernel⟩, by decide⟩
theorem lX12_105 : aw_L RX12 105 MJ0_charAt_5068e 1 := ⟨aw_in 1626 (by decide +kernel) rfl, iniJ0, codJ0_charAt_5068e, ⟨by decide, by decide, by decide +kernel⟩, by decide⟩
theorem lX12_111 : aw_L RX12 111 MX12_is 3 := ⟨aw_in 1621 (by decide +kernel) rfl, iniX12, codX12_is, ⟨by decide, by decide, by decide +kernel⟩, by decide⟩
theorem lX12_127 : aw_L RX12 127 MX12_isLetter 1 := ⟨aw_in 1610 (by decide +kernel) rfl, iniX12, codX12_isLetter, ⟨by decide, by decide, by decide +kernel⟩, by decide⟩
theorem lX12_131 : aw_L RX12 131 MX12_isDigit 1 := ⟨aw_in 1613 (by decide +kernel) rfl, iniX12, codX12_isDigit, ⟨by decide, by decide, by decide +kernel⟩, by decide⟩
theorem lX12_134 : aw_L RX12 134 MX12_wordOf 2 := ⟨aw_in 1616 (by decide +kernel) rfl, iniX12, codX12_wordOf, ⟨by decide, by decide, by decide +kernel⟩, by decide⟩
theorem lX12_148 : aw_L RX12 148 MX12_tokenAt 2 := ⟨aw_in 1606 (by decide +kernel) rfl, iniX12, codX12_tokenAt, ⟨by decide, by decide, by decide +kernel⟩, by decide⟩
theorem lX12_161 : aw_L RX12 161 MX12_node 2 := ⟨aw_in 1642 (by decide +kernel) rfl, iniX12, codX12_node, ⟨by decide, by decide, by decide +kernel⟩, by decide⟩
theorem lX12_164 : aw_L RX12 164 MX12_add 2 := ⟨aw_in 1646 (by decide +kernel) rfl, iniX12, codX12_add, ⟨by decide, by decide, by decide +kernel⟩, by decide⟩
theorem lX12_168 : aw_L RX12 168 MX12_take 1 := ⟨aw_in 1650 (by decide +kernel) rfl, iniX12, codX12_take, ⟨by decide, by decide, by decide +kernel⟩, by decide⟩
theorem lX12_171 : aw_L RX12 171 MX12_statement 1 := ⟨aw_in 1654 (by decide +kernel) rfl, iniX12, codX12_statement, ⟨by decide, by decide, by decide +kernel⟩, by decide⟩
theorem lX12_174 : aw_L RX12 174 MX12_expr 1 := ⟨aw_in 1658 (by decide +kernel) rfl, iniX12, codX12_expr, ⟨by decide, by decide, by decide +kernel⟩, by decide⟩
theorem lX12_177 : aw_L RX12 177 MX12_block 1 := ⟨aw_in 1673 (by decide +kernel) rfl, iniX12, codX12_block, ⟨by decide, by decide, by decide +kernel⟩, by decide⟩
theorem lX12_180 : aw_L RX12 180 MX12_level 2 := ⟨aw_in 1662 (by decide +kernel) rfl, iniX12, codX12_level, ⟨by decide, by decide, by decide +kernel⟩, by decide⟩
theorem lX12_183 : aw_L RX12 183 MX12_unary 1 := ⟨aw_in 1666 (by decide +kernel) rfl, iniX12, codX12_unary, ⟨by decide, by decide, by decide +kernel⟩, by decide⟩
theorem lX12_186 : aw_L RX12 186 MX12_rank 1 := ⟨aw_in 1670 (by decide +kernel) rfl, iniX12, codX12_rank, ⟨by decide, by decide, by decide +kernel⟩, by decide⟩
theorem lX12_198 : aw_L RX12 198 MX12_find 1 := ⟨aw_in 1685 (by decide +kernel) rfl, iniX12, codX12_find, ⟨by decide, by decide, by decide +kernel⟩, by decide⟩
theorem lX12_201 : aw_L RX12 201 MX12_wrong 2 := ⟨aw_in 1689 (by decide +kernel) rfl, iniX12, codX12_wrong, ⟨by decide, by decide, by decide +kernel⟩, by decide⟩
theorem lX12_204 : aw_L RX12 204 MX12_number 1 := ⟨aw_in 1693 (by decide +kernel) rfl, iniX12, codX12_number, ⟨by decide, by decide, by decide +kernel⟩, by decide⟩
theorem lX12_216 : aw_L RX12 216 MX12_leftmost 1 := ⟨aw_in 1709 (by decide +kernel) rfl, iniX12, codX12_leftmost, ⟨by decide, by decide, by decide +kernel⟩, by decide⟩
theorem lX12_219 : aw_L RX12 219 MX12_checkPart 2 := ⟨aw_in 1713 (by decide +kernel) rfl, iniX12, codX12_checkPart, ⟨by decide, by decide, by decide +kernel⟩, by decide⟩
theorem lX12_223 : aw_L RX12 223 MX12_check 2 := ⟨aw_in 1705 (by decide +kernel) rfl, iniX12, codX12_check, ⟨by decide, by decide, by decide +kernel⟩, by decide⟩
theorem lX12_226 : aw_L RX12 226 MX12_name 1 := ⟨aw_in 1701 (by decide +kernel) rfl, iniX12, codX12_name, ⟨by decide, by decide, by decide +kernel⟩, by decide⟩
theorem lX12_229 : aw_L RX12 229 MX12_declare 1 := ⟨aw_in 1681 (by decide +kernel) rfl, iniX12, codX12_declare, ⟨by decide, by decide, by decide +kernel⟩, by decide⟩
theorem lX12_233 : aw_L RX12 233 MX12_checkOne 2 := ⟨aw_in 1697 (by decide +kernel) rfl, iniX12, codX12_checkOne, ⟨by decide, by decide, by decide +kernel⟩, by decide⟩
theorem lX12_236 : aw_L RX12 236 MX12_checkAll 2 := ⟨aw_in 1677 (by decide +kernel) rfl, iniX12, codX12_checkAll, ⟨by decide, by decide, by decide +kernel⟩, by decide⟩
theorem lX12_245 : aw_L RX12 245 MX12_cut 0 := ⟨aw_in 1598 (by decide +kernel) rfl, iniX12, codX12_cut, ⟨by decide, by decide, by decide +kernel⟩, by decide⟩
theorem lX12_248 : aw_L RX12 248 MX12_program 0 := ⟨aw_in 1638 (by decide +kernel) rfl, iniX12, codX12_program, ⟨by decide, by decide, by decide +kernel⟩, by decide⟩
theorem lX12_260 : aw_L RX12 260 MX12_quotient 2 := ⟨aw_in 1761 (by decide +kernel) rfl, iniX12, codX12_quotient, ⟨by decide, by decide, by decide +kernel⟩, by decide⟩
theorem lX12_263 : aw_L RX12 263 MX12_rest 2 := ⟨aw_in 1765 (by decide +kernel) rfl, iniX12, codX12_rest, ⟨by decide, by decide, by decide +kernel⟩, by decide⟩
theorem lX12_266 : aw_L RX12 266 MX12_evalPart 1 := ⟨aw_in 1753 (by decide +kernel) rfl, iniX12, codX12_evalPart, ⟨by decide, by decide, by decide +kernel⟩, by decide⟩
theorem lX12_269 : aw_L RX12 269 MX12_eval 1 := ⟨aw_in 1749 (by decide +kernel) rfl, iniX12, codX12_eval, ⟨by decide, by decide, by decide +kernel⟩, by decide⟩
theorem lX12_272 : aw_L RX12 272 MX12_two 3 := ⟨aw_in 1757 (by decide +kernel) rfl, iniX12, codX12_two, ⟨by decide, by decide, by decide +kernel⟩, by decide⟩
theorem lX12_276 : aw_L RX12 276 MX12_stop 2 := ⟨aw_in 1741 (by decide +kernel) rfl, iniX12, codX12_stop, ⟨by decide, by decide, by decide +kernel⟩, by decide⟩
theorem lX12_285 : aw_L RX12 285 MX12_step 2 := ⟨aw_in 1737 (by decide +kernel) rfl, iniX12, codX12_step, ⟨by decide, by decide, by decide +kernel⟩, by decide⟩
theorem lX12_289 : aw_L RX12 289 MX12_runOne 2 := ⟨aw_in 1745 (by decide +kernel) rfl, iniX12, codX12_runOne, ⟨by decide, by decide, by decide +kernel⟩, by decide⟩
theorem lX12_295 : aw_L RX12 295 MX12_runAll 2 := ⟨aw_in 1733 (by decide +kernel) rfl, iniX12, codX12_runAll, ⟨by decide, by decide, by decide +kernel⟩, by decide⟩
theorem lX12_298 : aw_L RX12 298 MX12_isPlace 1 := ⟨aw_in 1789 (by decide +kernel) rfl, iniX12, codX12_isPlace, ⟨by decide, by decide, by decide +kernel⟩, by decide⟩
theorem lX12_323 : aw_L RX12 323 MX12_reckon 4 := ⟨aw_in 1818 (by decide +kernel) rfl, iniX12, codX12_reckon, ⟨by decide, by decide, by decide +kernel⟩, by decide⟩
theorem lX12_327 : aw_L RX12 327 MX12_multiply 3 := ⟨aw_in 1821 (by decide +kernel) rfl, iniX12, codX12_multiply, ⟨by decide, by decide, by decide +kernel⟩, by decide⟩
theorem lX12_330 : aw_L RX12 330 MX12_access 1 := ⟨aw_in 1825 (by decide +kernel) rfl, iniX12, codX12_access, ⟨by decide, by decide, by decide +kernel⟩, by decide⟩
theorem lX12_333 : aw_L RX12 333 MX12_event 1 := ⟨aw_in 1829 (by decide +kernel) rfl, iniX12, codX12_event, ⟨by decide, by decide, by decide +kernel⟩, by decide⟩
theorem lX12_337 : aw_L RX12 337 MX12_write 2 := ⟨aw_in 1834 (by decide +kernel) rfl, iniX12, codX12_write, ⟨by decide, by decide, by decide +kernel⟩, by decide⟩
theorem lX12_340 : aw_L RX12 340 MX12_order 0 := ⟨aw_in 1812 (by decide +kernel) rfl, iniX12, codX12_order, ⟨by decide, by decide, by decide +kernel⟩, by decide⟩
theorem lX12_96 : aw_L RX12 96 MJ0_length_8abf5 0 := ⟨aw_in 1625 (by decide +kernel) rfl, iniJ0, codJ0_length_8abf5, ⟨by decide, by decide, by decide +kernel⟩, by decide⟩
